/-! ===== the class's reader: from signs ahead up to a whole text ===== -/
def hk_RQ (G : Nat → Int32) (nm : Int32 → Int64) (t L : Nat) (w : Int32) (o p q i m : Nat) (V : List Int64) (S : List Nat) (s2 : Nat → Nat → Int32) (x : Int64) : Prop := (∃ j V1 S1, hk_PX t L w s2 j ∧ m ≤ j ∧ hk_stl p S1 V1 = (x :: V, S) ∧ hk_nn G L q j V1 S1 ∧ hk_sy G L nm i V S o 0 = hk_sy G L nm j V1 S1 o 1) ∨ ∃ F, hk_PF t s2 F ∧ hk_sy G L nm i V S o 0 = (F, [])
def hk_LS (G : Nat → Int32) (nm : Int32 → Int64) (t L : Nat) (w : Int32) (o p q i j : Nat) (V : List Int64) (S : List Nat) (s3 : Nat → Nat → Int32) (x : Int32) (u : Int64) : Prop := (∃ y2 V1 S1, hk_PX t L w s3 y2 ∧ hk_nx G L y2 = y2 ∧ i ≤ y2 ∧ j ≤ y2 ∧ x = (if y2 < L then G y2 else -1) ∧ hk_stl p S1 V1 = (u :: V, S) ∧ hk_nn G L q y2 V1 S1 ∧ hk_sy G L nm i V S o 0 = hk_sy G L nm y2 V1 S1 o 1) ∨ (x = -1 ∧ ∃ F, hk_PF t s3 F ∧ hk_sy G L nm i V S o 0 = (F, []))
section HKEF
variable {d L o t y m p q i j : Nat} {v w x : Int32} {u u2 : Int64} {s s0 s2 s3 : Nat → Nat → Int32} {lm : Nat → Nat → Int64} {i0 i1 b : Nat} {al : List Nat} {k : Option Value → hk_H → Prop} {nm : Int32 → Int64} {V : List Int64} {S : List Nat} {G : Nat → Int32}
theorem hk_RQ_first (h : hk_RR G nm t L w o (p + 1) y V S s2 u) (hl : hk_lo p S) : hk_RQ G nm t L w o p (p + 1) y y V S s2 u := by
  rcases h with ⟨j, V1, S1, h1, h2, h3, h4, h5⟩ | h
  · exact Or.inl ⟨j, V1, S1, h1, h2, by rw [hk_stl_l (by omega) h3, hk_stl_lo hl], h4, h5⟩
  · exact Or.inr h
theorem hk_RQ_next {tt : Nat} (hs : hk_sy G L nm y V S o 0 = hk_sy G L nm i (u :: V) (tt :: S) o 0) (h : hk_RR G nm t L w o q i (u :: V) (tt :: S) s2 u2) (hp : p ≤ q) (ht : hk_tg tt = p) (h4 : 4 ≤ tt) (hl : hk_lo p S) : hk_RQ G nm t L w o p q y i V S s2 (hk_two tt u u2) := by
  rcases h with ⟨j, V1, S1, h1, h2, h3, h6, h5⟩ | ⟨F, hF, h5⟩
  · refine Or.inl ⟨j, V1, S1, h1, h2, ?_, h6, hs.trans h5⟩
    rw [hk_stl_l hp h3, hk_stl, if_pos (by omega), hk_ap_two h4, hk_stl_lo hl]
  · exact Or.inr ⟨F, hF, hs.trans h5⟩
theorem c_peekQ (hw : hk_TG s0 t G) (hL : L ≤ 60) (ht : t < 4) (hr : hk_R24 s0 s2) (h : hk_RQ G nm t L w o p q i m V S s2 u) (hj : j ≤ m) (him : i ≤ m) (h1 : ∀ s3 x, hk_R24 s0 s3 → hk_LS G nm t L w o p q i j V S s3 x u → k (some (.int x)) (s3, lm, hk_RH i0 i1 b, al)) : hk_Cl (d + 3) 51 [.ref 24] (s2, lm, hk_RH i0 i1 b, al) k := by
  rcases h with ⟨y, V1, S1, h3, h4, h5, h6, h7⟩ | ⟨F, hF, h7⟩
  · have hy := h3.2.2.2.2.1
    obtain ⟨n1, n2, n3, n4⟩ := hk_nx_b (g := G) hy
    have n5 := hk_nx_nx (g := G) hy
    refine c_peekX hw hL ht hr h3 (fun s3 hr3 hP => h1 s3 _ hr3 (Or.inl ⟨_, V1, S1, hP, n5, by omega, by omega, rfl, h5, ?_, h7.trans (n4 nm V1 S1 o 1)⟩))
    unfold hk_nn at h6 ⊢
    rw [n5]
    exact h6
  · refine c_peekE (Or.inl (by rw [hF.2.1]; exact hF.2.2)) ?_
    exact h1 s2 _ hr (Or.inr ⟨rfl, F, hF, h7⟩)
theorem hk_LS_60 (h : hk_LS G nm t L w o p q i 60 V S s3 x u) (hL : L ≤ 60) : x = -1 := by
  rcases h with ⟨y2, V1, S1, h1, h2, h3, h4, h5, _⟩ | h
  · have := h1.2.2.2.2.1
    rw [h5, if_neg (by omega)]
  · exact h.1
theorem hk_LS_out (h : hk_LS G nm t L w o p (p + 1) i j V S s3 x u) (hx : ∀ tt, 4 ≤ tt → tt ≤ 12 → hk_tg tt = p → ¬ hk_so x = nI tt) : hk_RR G nm t L w o p i V S s3 u := by
  rcases h with ⟨y2, V1, S1, h1, h2, h3, h4, h5, h6, h7, h8⟩ | ⟨_, h⟩
  · refine Or.inl ⟨y2, V1, S1, h1, h3, h6, fun tt q1 q2 q3 q4 q5 => ?_, h8⟩
    by_cases e : hk_tg tt = p
    · rw [h2] at q1 q2
      rw [if_pos q1] at h5
      rw [← h5] at q2
      exact absurd q2 (hx tt q3 q4 e)
    · exact h7 tt q1 q2 q3 q4 (by omega)
  · exact Or.inr h
theorem hk_LS_op {tt c : Nat} (h : hk_LS G nm t L w o p q i j V S s3 x u) (hx : hk_so x = nI tt) (h4 : 4 ≤ tt) (h12 : tt ≤ 12) (htg : hk_tg tt = c) (hc : c ≤ p) (hl : hk_lo c S) (h3 : c = 3 → p = 4) : ∃ y2, hk_PX t L w s3 y2 ∧ y2 < L ∧ i ≤ y2 ∧ j ≤ y2 ∧ hk_sy G L nm i V S o 0 = hk_sy G L nm (y2 + 1) (u :: V) (tt :: S) o 0 := by
  rcases h with ⟨y2, V1, S1, h1, h2, h3', h4', h5, h6, h7, h8⟩ | ⟨e, _⟩
  · have hlt : y2 < L := by
      by_cases hlt : y2 < L
      · exact hlt
      · rw [if_neg hlt] at h5
        rw [h5] at hx
        exact absurd hx.symm (hk_nm1 (by omega))
    rw [if_pos hlt] at h5
    have ec : hk_stl c S1 V1 = (u :: V, S) := by rw [hk_stl_l hc h6, hk_stl_lo hl]
    refine ⟨y2, h1, hlt, h3', h4', h8.trans ?_⟩
    rw [hk_sy_op hlt (by rw [← h5]; exact hx) h4 h12 (fun g => ?_), htg, ec]
    have e4 := h3 (htg.symm.trans g.1)
    have e5 : c = 3 := htg.symm.trans g.1
    have g2 := g.2
    rw [e4] at h6
    rw [h6] at g2
    rw [e5] at hl
    cases S with
    | nil => exact absurd (show (false : Bool) = true from g2) (by decide)
    | cons v0 S0 =>
      have := hk_top3_v.mp g2
      have hl : hk_tg v0 < 3 := hl
      omega
  · rw [e] at hx
    exact absurd hx.symm (hk_nm1 (by omega))
theorem hk_so_m1 : hk_so (-1) = -1 := rfl
theorem hk_px_1 {g : Nat → Int32} {c v : Nat} (h : g (y + c) = 45 ∧ v = 3 ∨ g (y + c) = 33 ∧ v = 2) : hk_px g y S (c + 1) = v :: hk_px g y S c := by
  rcases h with ⟨h, rfl⟩ | ⟨h, rfl⟩
  · rw [hk_px, h, if_neg (by decide), if_pos rfl]
  · rw [hk_px, h, if_pos rfl]
theorem c_unitX (hw : hk_TG s0 t G) (hL : L ≤ 60) (ht : t < 4) (hC : hk_QC s0 G nm t L w lm i0 i1 b al (d + 10) 54 o) : hk_QV s0 G nm t L w lm i0 i1 b al (d + 11) 50 o 6 := by
  intro s k y V S hr h hl h1
  have hyL := h.2.2.2.2.1
  have l72 : ∀ (c : Nat) (z : Int32) (s3 : Nat → Nat → Int32) (en : Int32) (u : Int64) (l3 : Int32), (c = 0 → z < nI y) → (∀ c2, c = c2 + 1 → z = nI (y + c2)) → y + c ≤ 60 → hk_R24 s0 s3 → s3 24 1 = nI t → k (some (.long (hk_pv G y c u))) (s3, lm, hk_RH i0 i1 b, al) → hk_Rn (d + 10) none hk_c50 (hk_sfx 72 hk_c50) [some (.ref 24), some (.int (nI o)), some (.int (nI y)), some (.int l3), some (.int en), some (.long u), none, some (.int z)] [] (s3, lm, hk_RH i0 i1 b, al) k := by
    intro c
    induction c with
    | zero =>
      intro z s3 en u l3 hz _ _ hr3 _ hk
      refine hk_hd (n := 1000) (t := 72) rfl ?_
      refine And.intro (fun _ => ?_) (fun hc => absurd (hz rfl) hc)
      exact hk
    | succ c ih =>
      intro z s3 en u l3 _ hz hc60 hr3 e1 hk
      have hz := hz c rfl
      subst hz
      have a1 : ¬ nI (y + c) < nI y := by rw [nI_ltI (by omega) (by omega)]; omega
      have nx : ∀ u, k (some (.long (hk_pv G y c u))) (s3, lm, hk_RH i0 i1 b, al) → hk_Rn (d + 10) none hk_c50 (hk_sfx 72 hk_c50) [some (.ref 24), some (.int (nI o)), some (.int (nI y)), some (.int l3), some (.int en), some (.long u), none, some (.int (nI (y + c) + -1))] [] (s3, lm, hk_RH i0 i1 b, al) k := by
        intro u hk
        refine ih _ s3 en u l3 (fun e => ?_) (fun c2 e => ?_) (by omega) hr3 e1 hk
        · subst e
          rw [Nat.add_zero]
          cases y with
          | zero => decide
          | succ y => rw [pk_m1]; exact nI_lt (by omega) (by omega)
        · subst e
          exact pk_m1 (y + c2)
      rw [hk_pv] at hk
      refine hk_hd (n := 1000) (t := 72) rfl ?_
      refine And.intro (fun hc => absurd hc a1) (fun _ => ?_)
      refine c_signX hw hr3 ht e1 (by omega) ?_
      refine And.intro (fun c1 => ?_) (fun c1 => ?_)
      · have c1 : ¬ G (y + c) = 33 := c1
        rw [if_neg c1] at hk
        refine c_signX hw hr3 ht e1 (by omega) ?_
        refine And.intro (fun c2 => ?_) (fun c2 => ?_)
        · have c2 : ¬ G (y + c) = 45 := c2
          rw [if_neg c2] at hk
          exact nx _ hk
        · have c2 : ¬ ¬ G (y + c) = 45 := c2
          rw [if_pos (Classical.not_not.mp c2)] at hk
          exact nx _ hk
      · have c1 : ¬ ¬ G (y + c) = 33 := c1
        rw [if_pos (Classical.not_not.mp c1)] at hk
        refine And.intro (fun c2 => ?_) (fun c2 => ?_)
        · have c2 : ¬ lg_cmp u 0 = 0 := c2
          rw [if_neg (fun e => c2 ((hk_cm0 u 0).mpr e))] at hk
          exact nx _ hk
        · have c2 : ¬ ¬ lg_cmp u 0 = 0 := c2
          rw [if_pos ((hk_cm0 u 0).mp (Classical.not_not.mp c2))] at hk
          exact nx _ hk
  have l13 : ∀ (q j y2 : Nat) (s3 : Nat → Nat → Int32) (x : Int32), j + q = 60 → hk_R24 s0 s3 → hk_PX t L w s3 y2 → hk_nx G L y2 = y2 → y ≤ y2 → j ≤ y2 → x = (if y2 < L then G y2 else -1) → hk_sy G L nm y V S o 0 = hk_sy G L nm y2 V (hk_px G y S (y2 - y)) o 0 → hk_Rn (d + 10) none hk_c50 (hk_sfx 13 hk_c50) [some (.ref 24), some (.int (nI o)), some (.int (nI y)), some (.int x), some (.int (nI j)), none, none, none] [] (s3, lm, hk_RH i0 i1 b, al) k := by
    have fin : ∀ (m y2 : Nat) (s3 : Nat → Nat → Int32) (l3 : Int32) (l4 : Option Value), hk_R24 s0 s3 → hk_PX t L w s3 y2 → hk_nx G L y2 = y2 → y ≤ y2 → (y2 < L → ¬ G y2 = 45 ∧ ¬ G y2 = 33) → hk_sy G L nm y V S o 0 = hk_sy G L nm y2 V (hk_px G y S (y2 - y)) o 0 → hk_wp (d + 10) none hk_c50 k (m + 60) (hk_sfx 53 hk_c50) [some (.ref 24), some (.int (nI o)), some (.int (nI y)), some (.int l3), l4, none, none, none] [] (s3, lm, hk_RH i0 i1 b, al) := by
      intro m y2 s3 l3 l4 hr3 hP hnx hyy hns hsy
      have hy2 := hP.2.2.2.2.1
      refine hC s3 _ y2 V (hk_px G y S (y2 - y)) hr3 hP (by rw [hnx]; exact hns) (fun s4 u hr4 hR => ?_)
      have e1 : s4 24 1 = nI t := by
        rcases hR with ⟨j, q1, _⟩ | ⟨F, q1, _⟩
        · exact q1.1
        · exact q1.1
      have e2 : s3 24 4 - 1 = nI y2 - 1 := by rw [hP.2.2.2.1]
      refine l72 (y2 - y) (s3 24 4 - 1) s4 (s3 24 4) u l3 (fun e => ?_) (fun c2 e => ?_) (by omega) hr4 e1 ?_
      · rw [e2]
        have : y2 = y := by omega
        subst this
        cases y2 with
        | zero => decide
        | succ y2 => rw [nI_pred]; exact nI_lt (by omega) (by omega)
      · rw [e2, show y2 = y + c2 + 1 by omega, nI_pred]
      · refine h1 s4 _ hr4 ?_
        rcases hR with ⟨j, q1, q2, q3⟩ | ⟨F, q1, q2⟩
        · rw [hk_px_stl hl] at q3
          refine Or.inl ⟨j, _, _, q1, by omega, hk_stl_lo hl, fun tt _ _ q4 q12 q6 => ?_, hsy.trans q3⟩
          exfalso
          obtain ⟨z1, z2, z3, z4, z5, z6, z7, z8, z9⟩ := hk_tgs
          have : tt = 4 ∨ tt = 5 ∨ tt = 6 ∨ tt = 7 ∨ tt = 8 ∨ tt = 9 ∨ tt = 10 ∨ tt = 11 ∨ tt = 12 := by omega
          rcases this with rfl | rfl | rfl | rfl | rfl | rfl | rfl | rfl | rfl <;> omega
        · exact Or.inr ⟨F, q1, hsy.trans q2⟩
    intro q
    induction q with
    | zero =>
      intro j y2 s3 x hj hr3 hP hnx hyy hjy hx hsy
      have e : j = 60 := by omega
      subst e
      have hy2 := hP.2.2.2.2.1
      refine hk_hd (n := 1000) (t := 13) rfl ?_
      refine And.intro (fun _ => ?_) (fun hc => absurd (show (60 : Int32) ≤ nI 60 by decide) hc)
      exact fin _ y2 s3 _ _ hr3 hP hnx hyy (fun q => by omega) hsy
    | succ q ih =>
      intro j y2 s3 x hj hr3 hP hnx hyy hjy hx hsy
      have a1 : ¬ nI 60 ≤ nI j := hk_nlt (by omega) (by omega)
      have nx : ∀ (m v : Nat), (x = 45 ∧ v = 3 ∨ x = 33 ∧ v = 2) → hk_wp (d + 10) none hk_c50 k (m + 60) (hk_sfx 32 hk_c50) [some (.ref 24), some (.int (nI o)), some (.int (nI y)), some (.int x), some (.int (nI j)), none, none, none] [] (s3, lm, hk_RH i0 i1 b, al) := by
        intro m v hv
        have hlt : y2 < L := by
          by_cases hlt : y2 < L
          · exact hlt
          · rw [if_neg hlt] at hx
            rw [hx] at hv
            exact absurd hv (by rintro (⟨e, _⟩ | ⟨e, _⟩) <;> exact absurd e (by decide))
        rw [if_pos hlt] at hx
        rw [hx] at hv
        have e : s3 24 4 + 1 = nI (y2 + 1) := by rw [hP.2.2.2.1, nI_1]
        have h4 := hk_PX_go hP (j := y2 + 1) (by omega)
        have hr4 := hk_R24_u (q := 4) (v := nI (y2 + 1)) hr3
        rw [← e] at h4 hr4
        obtain ⟨n1, n2, n3, n4⟩ := hk_nx_b (g := G) (n := L) (i := y2 + 1) (by omega)
        have n5 := hk_nx_nx (g := G) (n := L) (i := y2 + 1) (by omega)
        have nb := hk_nx_bl (g := G) (n := L) (L - (y2 + 1)) (y2 + 1) (by omega)
        refine c_peekX hw hL ht hr4 h4 (fun s5 hr5 hP5 => ?_)
        refine hk_Rn_cast (by rw [← nI_1]; rfl) (ih (j + 1) _ s5 _ (by omega) hr5 hP5 n5 (by omega) (by omega) rfl ?_)
        have p1 : hk_px G y S (y2 - y + 1) = v :: hk_px G y S (y2 - y) := hk_px_1 (by rw [show y + (y2 - y) = y2 by omega]; exact hv)
        have p2 := hk_px_bl (g := G) (y := y) (S := S) (c := y2 - y + 1) (hk_nx G L (y2 + 1) - (y2 + 1)) (fun j q1 q2 => nb _ (by omega) (by omega))
        rw [show y2 - y + 1 + (hk_nx G L (y2 + 1) - (y2 + 1)) = hk_nx G L (y2 + 1) - y by omega, p1] at p2
        rw [p2, hsy, hk_sy_pre hlt hv]
        exact n4 _ _ _ _ _
      have hx2 : y2 < L → x = G y2 := fun q => by rw [hx, if_pos q]
      refine hk_hd (n := 1000) (t := 13) rfl ?_
      refine And.intro (fun hc => absurd hc a1) (fun _ => ?_)
      refine And.intro (fun c1 => ?_) (fun c1 => ?_)
      · have c1 : x = 33 := c1
        exact nx _ 2 (Or.inr ⟨c1, rfl⟩)
      have c1 : ¬ x = 33 := c1
      refine And.intro (fun c2 => ?_) (fun c2 => ?_)
      · have c2 : ¬ x = 45 := c2
        exact fin _ y2 s3 _ _ hr3 hP hnx hyy (fun q => by rw [← hx2 q]; exact ⟨c2, c1⟩) hsy
      · have c2 : ¬ ¬ x = 45 := c2
        exact nx _ 3 (Or.inl ⟨Classical.not_not.mp c2, rfl⟩)
  obtain ⟨n1, n2, n3, n4⟩ := hk_nx_b (g := G) hyL
  have n5 := hk_nx_nx (g := G) hyL
  have nb := hk_nx_bl (g := G) (n := L) (L - y) y (by omega)
  refine hk_mth hk_m50 rfl rfl (n := 1000) ?_
  refine c_peekX hw hL ht hr h (fun s2 hr2 hP => ?_)
  refine hk_Rn_cast (L2 := [some (.ref 24), some (.int (nI o)), some (.int (nI y)), some (.int (if hk_nx G L y < L then G (hk_nx G L y) else -1)), some (.int (nI 0)), none, none, none]) ?_ (l13 60 0 _ s2 _ (by omega) hr2 hP n5 n1 (by omega) rfl ?_)
  · show [some (Value.ref 24), some (.int (nI o)), some (.int (s 24 4)), some (.int _), some (.int 0), none, none, none] = _
    rw [h.2.2.2.1]
    rfl
  · have p2 := hk_px_bl (g := G) (y := y) (S := S) (c := 0) (hk_nx G L y - y) (fun j q1 q2 => nb _ (by omega) (by omega))
    rw [Nat.zero_add] at p2
    rw [p2]
    exact n4 _ _ _ _ _
theorem c_termX (hw : hk_TG s0 t G) (hL : L ≤ 60) (ht : t < 4) (hU : hk_QV s0 G nm t L w lm i0 i1 b al (d + 11) 50 o 6) : hk_QV s0 G nm t L w lm i0 i1 b al (d + 12) 49 o 5 := by
  intro s k y V S hr h hl h1
  have l15 : ∀ (q j : Nat) (s3 : Nat → Nat → Int32) (x : Int32) (u : Int64) (l6 l7 : Option Value), j + q = 60 → hk_R24 s0 s3 → hk_LS G nm t L w o 5 6 y j V S s3 x u → hk_Rn (d + 11) none hk_c49 (hk_sfx 15 hk_c49) [some (.ref 24), some (.int (nI o)), some (.long u), none, some (.int x), some (.int (nI j)), l6, l7] [] (s3, lm, hk_RH i0 i1 b, al) k := by
    intro q
    induction q with
    | zero =>
      intro j s3 x u l6 l7 hj hr3 hS
      have e : j = 60 := by omega
      subst e
      have ex := hk_LS_60 hS hL
      refine hk_hd (n := 1000) (t := 15) rfl ?_
      refine And.intro (fun _ => ?_) (fun hc => absurd (show (60 : Int32) ≤ nI 60 by decide) hc)
      exact h1 s3 u hr3 (hk_LS_out hS (fun tt _ _ _ q => by rw [ex, hk_so_m1] at q; exact hk_nm1 (i := tt) (by omega) q.symm))
    | succ q ih =>
      intro j s3 x u l6 l7 hj hr3 hS
      have a1 : ¬ nI 60 ≤ nI j := hk_nlt (by omega) (by omega)
      have nx : ∀ (m tt : Nat), (x = 42 ∧ tt = 4 ∨ x = 47 ∧ tt = 5) → hk_wp (d + 11) none hk_c49 k (m + 160) (hk_sfx 36 hk_c49) [some (.ref 24), some (.int (nI o)), some (.long u), none, some (.int x), some (.int (nI j)), l6, l7] [] (s3, lm, hk_RH i0 i1 b, al) := by
        intro m tt hx
        have t1 : hk_so x = nI tt ∧ 4 ≤ tt ∧ tt ≤ 12 ∧ hk_tg tt = 5 := by
          rcases hx with ⟨rfl, rfl⟩ | ⟨rfl, rfl⟩
          · exact ⟨rfl, by omega, by omega, rfl⟩
          · exact ⟨rfl, by omega, by omega, rfl⟩
        obtain ⟨y2, hP, hlt, hy2, hjy, hsy⟩ := hk_LS_op hS t1.1 t1.2.1 t1.2.2.1 t1.2.2.2 (Nat.le_refl 5) hl (fun e => by omega)
        have e : s3 24 4 + 1 = nI (y2 + 1) := by rw [hP.2.2.2.1, nI_1]
        have h4 := hk_PX_go hP (j := y2 + 1) (by omega)
        have hr4 := hk_R24_u (q := 4) (v := nI (y2 + 1)) hr3
        rw [← e] at h4 hr4
        refine hU _ _ (y2 + 1) (u :: V) (tt :: S) hr4 h4 (show hk_tg tt < 6 by rw [t1.2.2.2]; omega) (fun s5 w2 hr5 hR => ?_)
        have hQ := hk_RQ_next hsy hR (by omega) t1.2.2.2 t1.2.1 hl
        have pk : ∀ (m : Nat) (u2 : Int64), u2 = hk_two tt u w2 → hk_wp (d + 11) none hk_c49 k (m + 60) (hk_sfx 83 hk_c49) [some (.ref 24), some (.int (nI o)), some (.long u2), none, some (.int x), some (.int (nI j)), some (.long w2), none] [] (s5, lm, hk_RH i0 i1 b, al) := by
          intro m u2 hu
          rw [← hu] at hQ
          refine c_peekQ (j := j + 1) hw hL ht hr5 hQ (by omega) (by omega) (fun s6 x2 hr6 hS6 => ?_)
          exact hk_Rn_cast (by rw [← nI_1]; rfl) (ih (j + 1) s6 x2 u2 (some (.long w2)) none (by omega) hr6 hS6)
        refine And.intro (fun c3 => ?_) (fun c3 => ?_)
        · have c3 : ¬ x = 42 := c3
          have e5 : tt = 5 := hx.elim (fun q => absurd q.1 c3) (fun q => q.2)
          refine And.intro (fun c4 => ?_) (fun c4 => ?_)
          · have c4 : ¬ lg_cmp w2 0 = 0 := c4
            have hw0 : ¬ w2 = 0 := fun q => c4 ((hk_cm0 w2 0).mpr q)
            refine And.intro hw0 ?_
            refine pk _ _ ?_
            rw [e5]
            show _ = if w2 = 0 then 0 else u / w2
            rw [if_neg hw0]
          · have c4 : ¬ ¬ lg_cmp w2 0 = 0 := c4
            have hw0 := (hk_cm0 w2 0).mp (Classical.not_not.mp c4)
            refine pk _ _ ?_
            rw [e5]
            show _ = if w2 = 0 then 0 else u / w2
            rw [if_pos hw0]
        · have c3 : ¬ ¬ x = 42 := c3
          have e4 : tt = 4 := hx.elim (fun q => q.2) (fun q => by have c3 := Classical.not_not.mp c3; rw [c3] at q; exact absurd q.1 (by decide))
          refine pk _ _ ?_
          rw [e4]
          rfl
      refine hk_hd (n := 1000) (t := 15) rfl ?_
      refine And.intro (fun hc => absurd hc a1) (fun _ => ?_)
      refine And.intro (fun c1 => ?_) (fun c1 => ?_)
      · have c1 : x = 42 := c1
        exact nx _ 4 (Or.inl ⟨c1, rfl⟩)
      have c1 : ¬ x = 42 := c1
      refine And.intro (fun c2 => ?_) (fun c2 => ?_)
      · have c2 : ¬ x = 47 := c2
        refine h1 s3 u hr3 (hk_LS_out hS (fun tt q4 q12 q5 q => ?_))
        have inv := hk_so_inv q q4 q12
        obtain ⟨z1, z2, z3, z4, z5, z6, z7, z8, z9⟩ := hk_tgs
        rcases inv with ⟨rfl, e⟩ | ⟨rfl, e⟩ | ⟨rfl, e⟩ | ⟨rfl, e⟩ | ⟨rfl, e⟩ | ⟨rfl, e⟩ | ⟨rfl, e⟩ | ⟨rfl, e⟩ | ⟨rfl, e⟩
        · exact c1 e
        · exact c2 e
        all_goals omega
      · have c2 : ¬ ¬ x = 47 := c2
        exact nx _ 5 (Or.inr ⟨Classical.not_not.mp c2, rfl⟩)
  refine hk_mth hk_m49 rfl rfl (n := 1000) ?_
  refine hU s _ y V S hr h (hk_lo_le hl (by omega)) (fun s2 u hr2 hR => ?_)
  refine c_peekQ (j := 0) hw hL ht hr2 (hk_RQ_first hR hl) (Nat.zero_le _) (Nat.le_refl y) (fun s3 x hr3 hS => ?_)
  exact l15 60 0 s3 x u none none (by omega) hr3 hS
theorem c_sumX (hw : hk_TG s0 t G) (hL : L ≤ 60) (ht : t < 4) (hU : hk_QV s0 G nm t L w lm i0 i1 b al (d + 12) 49 o 5) : hk_QV s0 G nm t L w lm i0 i1 b al (d + 13) 48 o 4 := by
  intro s k y V S hr h hl h1
  have l15 : ∀ (q j : Nat) (s3 : Nat → Nat → Int32) (x : Int32) (u : Int64) (l6 l7 : Option Value), j + q = 60 → hk_R24 s0 s3 → hk_LS G nm t L w o 4 5 y j V S s3 x u → hk_Rn (d + 12) none hk_c48 (hk_sfx 15 hk_c48) [some (.ref 24), some (.int (nI o)), some (.long u), none, some (.int x), some (.int (nI j)), l6, l7] [] (s3, lm, hk_RH i0 i1 b, al) k := by
    intro q
    induction q with
    | zero =>
      intro j s3 x u l6 l7 hj hr3 hS
      have e : j = 60 := by omega
      subst e
      have ex := hk_LS_60 hS hL
      refine hk_hd (n := 1000) (t := 15) rfl ?_
      refine And.intro (fun _ => ?_) (fun hc => absurd (show (60 : Int32) ≤ nI 60 by decide) hc)
      exact h1 s3 u hr3 (hk_LS_out hS (fun tt _ _ _ q => by rw [ex, hk_so_m1] at q; exact hk_nm1 (i := tt) (by omega) q.symm))
    | succ q ih =>
      intro j s3 x u l6 l7 hj hr3 hS
      have a1 : ¬ nI 60 ≤ nI j := hk_nlt (by omega) (by omega)
      have nx : ∀ (m tt : Nat), (x = 43 ∧ tt = 6 ∨ x = 45 ∧ tt = 7) → hk_wp (d + 12) none hk_c48 k (m + 160) (hk_sfx 36 hk_c48) [some (.ref 24), some (.int (nI o)), some (.long u), none, some (.int x), some (.int (nI j)), l6, l7] [] (s3, lm, hk_RH i0 i1 b, al) := by
        intro m tt hx
        have t1 : hk_so x = nI tt ∧ 4 ≤ tt ∧ tt ≤ 12 ∧ hk_tg tt = 4 := by
          rcases hx with ⟨rfl, rfl⟩ | ⟨rfl, rfl⟩
          · exact ⟨rfl, by omega, by omega, rfl⟩
          · exact ⟨rfl, by omega, by omega, rfl⟩
        obtain ⟨y2, hP, hlt, hy2, hjy, hsy⟩ := hk_LS_op hS t1.1 t1.2.1 t1.2.2.1 t1.2.2.2 (Nat.le_refl 4) hl (fun e => by omega)
        have e : s3 24 4 + 1 = nI (y2 + 1) := by rw [hP.2.2.2.1, nI_1]
        have h4 := hk_PX_go hP (j := y2 + 1) (by omega)
        have hr4 := hk_R24_u (q := 4) (v := nI (y2 + 1)) hr3
        rw [← e] at h4 hr4
        refine hU _ _ (y2 + 1) (u :: V) (tt :: S) hr4 h4 (show hk_tg tt < 5 by rw [t1.2.2.2]; omega) (fun s5 w2 hr5 hR => ?_)
        have hQ := hk_RQ_next hsy hR (by omega) t1.2.2.2 t1.2.1 hl
        have pk : ∀ (m : Nat) (u2 : Int64), u2 = hk_two tt u w2 → hk_wp (d + 12) none hk_c48 k (m + 60) (hk_sfx 72 hk_c48) [some (.ref 24), some (.int (nI o)), some (.long u2), none, some (.int x), some (.int (nI j)), some (.long w2), none] [] (s5, lm, hk_RH i0 i1 b, al) := by
          intro m u2 hu
          rw [← hu] at hQ
          refine c_peekQ (j := j + 1) hw hL ht hr5 hQ (by omega) (by omega) (fun s6 x2 hr6 hS6 => ?_)
          exact hk_Rn_cast (by rw [← nI_1]; rfl) (ih (j + 1) s6 x2 u2 (some (.long w2)) none (by omega) hr6 hS6)
        refine And.intro (fun c3 => ?_) (fun c3 => ?_)
        · have c3 : ¬ x = 43 := c3
          have e7 : tt = 7 := hx.elim (fun q => absurd q.1 c3) (fun q => q.2)
          refine pk _ _ ?_
          rw [e7]
          rfl
        · have c3 : ¬ ¬ x = 43 := c3
          have e6 : tt = 6 := hx.elim (fun q => q.2) (fun q => by have c3 := Classical.not_not.mp c3; rw [c3] at q; exact absurd q.1 (by decide))
          refine pk _ _ ?_
          rw [e6]
          rfl
      refine hk_hd (n := 1000) (t := 15) rfl ?_
      refine And.intro (fun hc => absurd hc a1) (fun _ => ?_)
      refine And.intro (fun c1 => ?_) (fun c1 => ?_)
      · have c1 : x = 43 := c1
        exact nx _ 6 (Or.inl ⟨c1, rfl⟩)
      have c1 : ¬ x = 43 := c1
      refine And.intro (fun c2 => ?_) (fun c2 => ?_)
      · have c2 : ¬ x = 45 := c2
        refine h1 s3 u hr3 (hk_LS_out hS (fun tt q4 q12 q5 q => ?_))
        have inv := hk_so_inv q q4 q12
        obtain ⟨z1, z2, z3, z4, z5, z6, z7, z8, z9⟩ := hk_tgs
        rcases inv with ⟨rfl, e⟩ | ⟨rfl, e⟩ | ⟨rfl, e⟩ | ⟨rfl, e⟩ | ⟨rfl, e⟩ | ⟨rfl, e⟩ | ⟨rfl, e⟩ | ⟨rfl, e⟩ | ⟨rfl, e⟩
        · omega
        · omega
        · exact c1 e
        · exact c2 e
        all_goals omega
      · have c2 : ¬ ¬ x = 45 := c2
        exact nx _ 7 (Or.inr ⟨Classical.not_not.mp c2, rfl⟩)
  refine hk_mth hk_m48 rfl rfl (n := 1000) ?_
  refine hU s _ y V S hr h (hk_lo_le hl (by omega)) (fun s2 u hr2 hR => ?_)
  refine c_peekQ (j := 0) hw hL ht hr2 (hk_RQ_first hR hl) (Nat.zero_le _) (Nat.le_refl y) (fun s3 x hr3 hS => ?_)
  exact l15 60 0 s3 x u none none (by omega) hr3 hS
theorem c_heldX (hw : hk_TG s0 t G) (hL : L ≤ 60) (ht : t < 4) (hU : hk_QV s0 G nm t L w lm i0 i1 b al (d + 13) 48 o 4) : hk_QV s0 G nm t L w lm i0 i1 b al (d + 14) 47 o 3 := by
  intro s k y V S hr h hl h1
  refine hk_mth hk_m47 rfl rfl (n := 1000) ?_
  refine hU s _ y V S hr h (hk_lo_le hl (by omega)) (fun s2 u hr2 hR => ?_)
  refine c_peekQ (j := 0) hw hL ht hr2 (show hk_RQ G nm t L w o 4 4 y y V S s2 u from hR) (Nat.zero_le _) (Nat.le_refl y) (fun s3 x hr3 hS => ?_)
  have nx : ∀ (m tt : Nat), (x = 60 ∧ tt = 8 ∨ x = 62 ∧ tt = 9 ∨ x = 61 ∧ tt = 10) → hk_wp (d + 13) none hk_c47 k (m + 160) (hk_sfx 35 hk_c47) [some (.ref 24), some (.int (nI o)), some (.long u), none, some (.int x), none, none, none] [] (s3, lm, hk_RH i0 i1 b, al) := by
    intro m tt hx
    have t1 : hk_so x = nI tt ∧ 4 ≤ tt ∧ tt ≤ 12 ∧ hk_tg tt = 3 := by
      rcases hx with ⟨rfl, rfl⟩ | ⟨rfl, rfl⟩ | ⟨rfl, rfl⟩
      · exact ⟨rfl, by omega, by omega, rfl⟩
      · exact ⟨rfl, by omega, by omega, rfl⟩
      · exact ⟨rfl, by omega, by omega, rfl⟩
    obtain ⟨y2, hP, hlt, hy2, _, hsy⟩ := hk_LS_op hS t1.1 t1.2.1 t1.2.2.1 t1.2.2.2 (by omega) hl (fun _ => rfl)
    have e : s3 24 4 + 1 = nI (y2 + 1) := by rw [hP.2.2.2.1, nI_1]
    have h4 := hk_PX_go hP (j := y2 + 1) (by omega)
    have hr4 := hk_R24_u (q := 4) (v := nI (y2 + 1)) hr3
    rw [← e] at h4 hr4
    refine hU _ _ (y2 + 1) (u :: V) (tt :: S) hr4 h4 (show hk_tg tt < 4 by rw [t1.2.2.2]; omega) (fun s5 w2 hr5 hR5 => ?_)
    have fin : ∀ u2, u2 = hk_two tt u w2 → k (some (.long u2)) (s5, lm, hk_RH i0 i1 b, al) := fun u2 hu => by
      refine h1 s5 u2 hr5 ?_
      subst hu
      rcases hR5 with ⟨j, V1, S1, q1, q2, q3, q4, q5⟩ | ⟨F, hF, q5⟩
      · refine Or.inl ⟨j, V1, S1, q1, by omega, ?_, fun t2 r1 r2 r3 r4 r5 => ?_, hsy.trans q5⟩
        · rw [hk_stl_l (by omega) q3, hk_stl, if_pos (by rw [t1.2.2.2]; omega), hk_ap_two t1.2.1, hk_stl_lo hl]
        · by_cases e3 : hk_tg t2 = 3
          · refine ⟨e3, ?_⟩
            rw [q3]
            exact hk_top3_v.mpr t1.2.2.2
          · exact q4 t2 r1 r2 r3 r4 (by omega)
      · exact Or.inr ⟨F, hF, hsy.trans q5⟩
    refine And.intro (fun c3 => ?_) (fun c3 => ?_)
    · have c3 : ¬ x = 60 := c3
      refine And.intro (fun c4 => ?_) (fun c4 => ?_)
      · have c4 : ¬ x = 62 := c4
        have e10 : tt = 10 := by
          rcases hx with q | q | q
          · exact absurd q.1 c3
          · exact absurd q.1 c4
          · exact q.2
        subst e10
        refine And.intro (fun c5 => ?_) (fun c5 => ?_)
        · have c5 : ¬ lg_cmp u w2 = 0 := c5
          refine And.intro (fun _ => ?_) (fun hc => absurd (by decide) hc)
          refine fin _ ?_
          show _ = if u = w2 then 1 else 0
          rw [if_neg (fun q => c5 ((hk_cm0 u w2).mpr q))]
        · have c5 : ¬ ¬ lg_cmp u w2 = 0 := c5
          refine And.intro (fun hc => absurd hc (by decide)) (fun _ => ?_)
          refine fin _ ?_
          show _ = if u = w2 then 1 else 0
          rw [if_pos ((hk_cm0 u w2).mp (Classical.not_not.mp c5))]
      · have c4 : ¬ ¬ x = 62 := c4
        have c4 := Classical.not_not.mp c4
        have e9 : tt = 9 := by
          rcases hx with q | q | q
          · exact absurd q.1 c3
          · exact q.2
          · rw [c4] at q; exact absurd q.1 (by decide)
        subst e9
        refine And.intro (fun c5 => ?_) (fun c5 => ?_)
        · have c5 : lg_cmp u w2 ≤ 0 := c5
          refine And.intro (fun _ => ?_) (fun hc => absurd (by decide) hc)
          refine fin _ ?_
          show _ = if w2 < u then 1 else 0
          rw [if_neg (fun q => absurd ((lg_cmp_le u w2).mp c5) (Int64.not_le.mpr q))]
        · have c5 : ¬ lg_cmp u w2 ≤ 0 := c5
          refine And.intro (fun hc => absurd hc (by decide)) (fun _ => ?_)
          refine fin _ ?_
          show _ = if w2 < u then 1 else 0
          rw [if_pos (Int64.not_le.mp (fun q => c5 ((lg_cmp_le u w2).mpr q)))]
    · have c3 : ¬ ¬ x = 60 := c3
      have c3 := Classical.not_not.mp c3
      have e8 : tt = 8 := by
        rcases hx with q | q | q
        · exact q.2
        · rw [c3] at q; exact absurd q.1 (by decide)
        · rw [c3] at q; exact absurd q.1 (by decide)
      subst e8
      refine And.intro (fun c5 => ?_) (fun c5 => ?_)
      · have c5 : 0 ≤ lg_cmp u w2 := c5
        refine And.intro (fun _ => ?_) (fun hc => absurd (by decide) hc)
        refine fin _ ?_
        show _ = if u < w2 then 1 else 0
        rw [if_neg (fun q => absurd ((lg_cmp_ge u w2).mp c5) (Int64.not_le.mpr q))]
      · have c5 : ¬ 0 ≤ lg_cmp u w2 := c5
        refine And.intro (fun hc => absurd hc (by decide)) (fun _ => ?_)
        refine fin _ ?_
        show _ = if u < w2 then 1 else 0
        rw [if_pos (Int64.not_le.mp (fun q => c5 ((lg_cmp_ge u w2).mpr q)))]
  refine And.intro (fun c1 => ?_) (fun c1 => ?_)
  · have c1 : x = 60 := c1
    exact nx _ 8 (Or.inl ⟨c1, rfl⟩)
  have c1 : ¬ x = 60 := c1
  refine And.intro (fun c2 => ?_) (fun c2 => ?_)
  · have c2 : x = 62 := c2
    exact nx _ 9 (Or.inr (Or.inl ⟨c2, rfl⟩))
  have c2 : ¬ x = 62 := c2
  refine And.intro (fun c3 => ?_) (fun c3 => ?_)
  · have c3 : x = 61 := c3
    exact nx _ 10 (Or.inr (Or.inr ⟨c3, rfl⟩))
  have c3 : ¬ x = 61 := c3
  have hS3 : hk_LS G nm t L w o 3 4 y 0 V S s3 x u := by
    rcases hS with ⟨y2, V1, S1, q1, q2, q3, q4, q5, q6, q7, q8⟩ | q
    · exact Or.inl ⟨y2, V1, S1, q1, q2, q3, q4, q5, by rw [hk_stl_l (by omega) q6, hk_stl_lo hl], q7, q8⟩
    · exact Or.inr q
  refine h1 s3 u hr3 (hk_LS_out hS3 (fun tt q4 q12 q5 q => ?_))
  have inv := hk_so_inv q q4 q12
  obtain ⟨z1, z2, z3, z4, z5, z6, z7, z8, z9⟩ := hk_tgs
  rcases inv with ⟨rfl, e⟩ | ⟨rfl, e⟩ | ⟨rfl, e⟩ | ⟨rfl, e⟩ | ⟨rfl, e⟩ | ⟨rfl, e⟩ | ⟨rfl, e⟩ | ⟨rfl, e⟩ | ⟨rfl, e⟩
  · omega
  · omega
  · omega
  · omega
  · exact c1 e
  · exact c2 e
  · exact c3 e
  all_goals omega
theorem c_bothX (hw : hk_TG s0 t G) (hL : L ≤ 60) (ht : t < 4) (hU : hk_QV s0 G nm t L w lm i0 i1 b al (d + 14) 47 o 3) : hk_QV s0 G nm t L w lm i0 i1 b al (d + 15) 46 o 2 := by
  intro s k y V S hr h hl h1
  have l9 : ∀ (g j m : Nat) (s3 : Nat → Nat → Int32) (u : Int64) (l5 l6 : Option Value), j + g = 60 → j ≤ m → y ≤ m → hk_R24 s0 s3 → hk_RQ G nm t L w o 2 3 y m V S s3 u → hk_Rn (d + 14) none hk_c46 (hk_sfx 9 hk_c46) [some (.ref 24), some (.int (nI o)), some (.long u), none, some (.int (nI j)), l5, l6] [] (s3, lm, hk_RH i0 i1 b, al) k := by
    intro g
    induction g with
    | zero =>
      intro j m s3 u l5 l6 hj hjm hym hr3 hQ
      have e : j = 60 := by omega
      subst e
      refine hk_hd (n := 1000) (t := 9) rfl ?_
      refine And.intro (fun _ => ?_) (fun hc => absurd (show (60 : Int32) ≤ nI 60 by decide) hc)
      refine h1 s3 u hr3 ?_
      rcases hQ with ⟨j, V1, S1, q1, q2, q3, q4, q5⟩ | hF
      · have := q1.2.2.2.2.1
        refine Or.inl ⟨j, V1, S1, q1, by omega, q3, fun tt r1 => ?_, q5⟩
        rw [hk_nx_n (i := j) (fun q => by omega)] at r1
        omega
      · exact Or.inr hF
    | succ g ih =>
      intro j m s3 u l5 l6 hj hjm hym hr3 hQ
      have a1 : ¬ nI 60 ≤ nI j := hk_nlt (by omega) (by omega)
      refine hk_hd (n := 1000) (t := 9) rfl ?_
      refine And.intro (fun hc => absurd hc a1) (fun _ => ?_)
      refine c_peekQ (j := j) hw hL ht hr3 hQ hjm hym (fun s4 x hr4 hS => ?_)
      refine And.intro (fun c1 => ?_) (fun c1 => ?_)
      · have c1 : ¬ x = 38 := c1
        refine h1 s4 u hr4 (hk_LS_out hS (fun tt q4 q12 q5 q => ?_))
        have inv := hk_so_inv q q4 q12
        obtain ⟨z1, z2, z3, z4, z5, z6, z7, z8, z9⟩ := hk_tgs
        rcases inv with ⟨rfl, e⟩ | ⟨rfl, e⟩ | ⟨rfl, e⟩ | ⟨rfl, e⟩ | ⟨rfl, e⟩ | ⟨rfl, e⟩ | ⟨rfl, e⟩ | ⟨rfl, e⟩ | ⟨rfl, e⟩
        all_goals first | omega | exact c1 e
      have c1 : ¬ ¬ x = 38 := c1
      have c1 := Classical.not_not.mp c1
      obtain ⟨y2, hP, hlt, hy2, hjy, hsy⟩ := hk_LS_op (tt := 11) hS (by rw [c1]; rfl) (by omega) (by omega) (show hk_tg 11 = 2 from rfl) (Nat.le_refl 2) hl (fun e => by omega)
      have e : s4 24 4 + 1 = nI (y2 + 1) := by rw [hP.2.2.2.1, nI_1]
      have h4 := hk_PX_go hP (j := y2 + 1) (by omega)
      have hr5 := hk_R24_u (q := 4) (v := nI (y2 + 1)) hr4
      rw [← e] at h4 hr5
      refine hU _ _ (y2 + 1) (u :: V) (11 :: S) hr5 h4 (show hk_tg 11 < 3 by decide) (fun s6 w2 hr6 hR => ?_)
      have hQ2 := hk_RQ_next hsy hR (by omega) (show hk_tg 11 = 2 from rfl) (by omega) hl
      have nx : ∀ u2, u2 = hk_two 11 u w2 → hk_Rn (d + 14) none hk_c46 (hk_sfx 9 hk_c46) [some (.ref 24), some (.int (nI o)), some (.long u2), none, some (.int (nI j + 1)), some (.long w2), none] [] (s6, lm, hk_RH i0 i1 b, al) k := fun u2 hu => by
        rw [← hu] at hQ2
        exact hk_Rn_cast (by rw [nI_1]) (ih (j + 1) (y2 + 1) s6 u2 (some (.long w2)) none (by omega) (by omega) (by omega) hr6 hQ2)
      refine And.intro (fun c2 => ?_) (fun c2 => ?_)
      · have c2 : lg_cmp u 0 = 0 := c2
        refine nx _ ?_
        show _ = if ¬ u = 0 ∧ ¬ w2 = 0 then 1 else 0
        rw [if_neg (fun q => q.1 ((hk_cm0 u 0).mp c2))]
      have c2 : ¬ lg_cmp u 0 = 0 := c2
      refine And.intro (fun c3 => ?_) (fun c3 => ?_)
      · have c3 : lg_cmp w2 0 = 0 := c3
        refine nx _ ?_
        show _ = if ¬ u = 0 ∧ ¬ w2 = 0 then 1 else 0
        rw [if_neg (fun q => q.2 ((hk_cm0 w2 0).mp c3))]
      · have c3 : ¬ lg_cmp w2 0 = 0 := c3
        refine nx _ ?_
        show _ = if ¬ u = 0 ∧ ¬ w2 = 0 then 1 else 0
        rw [if_pos ⟨fun q => c2 ((hk_cm0 u 0).mpr q), fun q => c3 ((hk_cm0 w2 0).mpr q)⟩]
  refine hk_mth hk_m46 rfl rfl (n := 1000) ?_
  refine hU s _ y V S hr h (hk_lo_le hl (by omega)) (fun s2 u hr2 hR => ?_)
  exact l9 60 0 y s2 u none none (by omega) (Nat.zero_le _) (Nat.le_refl y) hr2 (hk_RQ_first hR hl)
theorem c_valueX (hw : hk_TG s0 t G) (hL : L ≤ 60) (ht : t < 4) (hU : hk_QV s0 G nm t L w lm i0 i1 b al (d + 15) 46 o 2) : hk_QV s0 G nm t L w lm i0 i1 b al (d + 16) 45 o 1 := by
  intro s k y V S hr h hl h1
  have l9 : ∀ (g j m : Nat) (s3 : Nat → Nat → Int32) (u : Int64) (l5 l6 : Option Value), j + g = 60 → j ≤ m → y ≤ m → hk_R24 s0 s3 → hk_RQ G nm t L w o 1 2 y m V S s3 u → hk_Rn (d + 15) none hk_c45 (hk_sfx 9 hk_c45) [some (.ref 24), some (.int (nI o)), some (.long u), none, some (.int (nI j)), l5, l6] [] (s3, lm, hk_RH i0 i1 b, al) k := by
    intro g
    induction g with
    | zero =>
      intro j m s3 u l5 l6 hj hjm hym hr3 hQ
      have e : j = 60 := by omega
      subst e
      refine hk_hd (n := 1000) (t := 9) rfl ?_
      refine And.intro (fun _ => ?_) (fun hc => absurd (show (60 : Int32) ≤ nI 60 by decide) hc)
      refine h1 s3 u hr3 ?_
      rcases hQ with ⟨j, V1, S1, q1, q2, q3, q4, q5⟩ | hF
      · have := q1.2.2.2.2.1
        refine Or.inl ⟨j, V1, S1, q1, by omega, q3, fun tt r1 => ?_, q5⟩
        rw [hk_nx_n (i := j) (fun q => by omega)] at r1
        omega
      · exact Or.inr hF
    | succ g ih =>
      intro j m s3 u l5 l6 hj hjm hym hr3 hQ
      have a1 : ¬ nI 60 ≤ nI j := hk_nlt (by omega) (by omega)
      refine hk_hd (n := 1000) (t := 9) rfl ?_
      refine And.intro (fun hc => absurd hc a1) (fun _ => ?_)
      refine c_peekQ (j := j) hw hL ht hr3 hQ hjm hym (fun s4 x hr4 hS => ?_)
      refine And.intro (fun c1 => ?_) (fun c1 => ?_)
      · have c1 : ¬ x = 124 := c1
        refine h1 s4 u hr4 (hk_LS_out hS (fun tt q4 q12 q5 q => ?_))
        have inv := hk_so_inv q q4 q12
        obtain ⟨z1, z2, z3, z4, z5, z6, z7, z8, z9⟩ := hk_tgs
        rcases inv with ⟨rfl, e⟩ | ⟨rfl, e⟩ | ⟨rfl, e⟩ | ⟨rfl, e⟩ | ⟨rfl, e⟩ | ⟨rfl, e⟩ | ⟨rfl, e⟩ | ⟨rfl, e⟩ | ⟨rfl, e⟩
        all_goals first | omega | exact c1 e
      have c1 : ¬ ¬ x = 124 := c1
      have c1 := Classical.not_not.mp c1
      obtain ⟨y2, hP, hlt, hy2, hjy, hsy⟩ := hk_LS_op (tt := 12) hS (by rw [c1]; rfl) (by omega) (by omega) (show hk_tg 12 = 1 from rfl) (Nat.le_refl 1) hl (fun e => by omega)
      have e : s4 24 4 + 1 = nI (y2 + 1) := by rw [hP.2.2.2.1, nI_1]
      have h4 := hk_PX_go hP (j := y2 + 1) (by omega)
      have hr5 := hk_R24_u (q := 4) (v := nI (y2 + 1)) hr4
      rw [← e] at h4 hr5
      refine hU _ _ (y2 + 1) (u :: V) (12 :: S) hr5 h4 (show hk_tg 12 < 2 by decide) (fun s6 w2 hr6 hR => ?_)
      have hQ2 := hk_RQ_next hsy hR (by omega) (show hk_tg 12 = 1 from rfl) (by omega) hl
      have nx : ∀ u2, u2 = hk_two 12 u w2 → hk_Rn (d + 15) none hk_c45 (hk_sfx 9 hk_c45) [some (.ref 24), some (.int (nI o)), some (.long u2), none, some (.int (nI j + 1)), some (.long w2), none] [] (s6, lm, hk_RH i0 i1 b, al) k := fun u2 hu => by
        rw [← hu] at hQ2
        exact hk_Rn_cast (by rw [nI_1]) (ih (j + 1) (y2 + 1) s6 u2 (some (.long w2)) none (by omega) (by omega) (by omega) hr6 hQ2)
      refine And.intro (fun c2 => ?_) (fun c2 => ?_)
      · have c2 : ¬ lg_cmp u 0 = 0 := c2
        refine nx _ ?_
        show _ = if ¬ u = 0 ∨ ¬ w2 = 0 then 1 else 0
        rw [if_pos (Or.inl (fun q => c2 ((hk_cm0 u 0).mpr q)))]
      have c2 : ¬ ¬ lg_cmp u 0 = 0 := c2
      have c2 := (hk_cm0 u 0).mp (Classical.not_not.mp c2)
      refine And.intro (fun c3 => ?_) (fun c3 => ?_)
      · have c3 : lg_cmp w2 0 = 0 := c3
        refine nx _ ?_
        show _ = if ¬ u = 0 ∨ ¬ w2 = 0 then 1 else 0
        rw [if_neg (fun q => q.elim (fun q => q c2) (fun q => q ((hk_cm0 w2 0).mp c3)))]
      · have c3 : ¬ lg_cmp w2 0 = 0 := c3
        refine nx _ ?_
        show _ = if ¬ u = 0 ∨ ¬ w2 = 0 then 1 else 0
        rw [if_pos (Or.inr (fun q => c3 ((hk_cm0 w2 0).mpr q)))]
  refine hk_mth hk_m45 rfl rfl (n := 1000) ?_
  refine hU s _ y V S hr h (hk_lo_le hl (by omega)) (fun s2 u hr2 hR => ?_)
  exact l9 60 0 y s2 u none none (by omega) (Nat.zero_le _) (Nat.le_refl y) hr2 (hk_RQ_first hR hl)
theorem c_valueAX (hw : hk_TG s0 t G) (hL : L ≤ 60) (ht : t < 4) (hLt : ∀ (d : Nat) (s2 : Nat → Nat → Int32) (v : Int32) (k : Option Value → hk_H → Prop), hk_R24 s0 s2 → s2 24 2 = w → ¬ hk_nmo v = -1 → k (some (.long (nm (hk_nmo v)))) (s2, lm, hk_RH i0 i1 b, al) → hk_Cl (d + 3) 58 [.ref 24, .int v] (s2, lm, hk_RH i0 i1 b, al) k) : ∀ (g o : Nat), o + g = 8 → ∀ d, hk_QV s0 G nm t L w lm i0 i1 b al (d + 8 * g + 16) 45 o 1 := by
  intro g
  induction g with
  | zero =>
    intro o ho d
    exact c_valueX hw hL ht (c_bothX hw hL ht (c_heldX hw hL ht (c_sumX hw hL ht (c_termX hw hL ht (c_unitX hw hL ht (c_coreX hw hL ht hLt (c_insideX hw hL ht (by omega) (fun h => absurd h (by omega)))))))))
  | succ g ih =>
    intro o ho d
    have h := ih (o + 1) (by omega) d
    exact c_valueX (d := d + 8 * g + 8) hw hL ht (c_bothX hw hL ht (c_heldX hw hL ht (c_sumX hw hL ht (c_termX hw hL ht (c_unitX hw hL ht (c_coreX hw hL ht hLt (c_insideX (d := d + 8 * g + 8) hw hL ht (by omega) (fun _ => h))))))))
end HKEF
