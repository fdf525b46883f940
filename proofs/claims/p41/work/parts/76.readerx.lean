/-! ===== the class's reader: what comes of a text ===== -/
def hk_TG (s : Nat → Nat → Int32) (t : Nat) (G : Nat → Int32) : Prop := hk_TW s ∧ ∀ j, j < 60 → s 11 (t * 61 + (1 + j)) = G j
/-- the reader stands at y, no flaw yet; there is a flaw -/
def hk_PX (t L : Nat) (w : Int32) (s : Nat → Nat → Int32) (y : Nat) : Prop := s 24 1 = nI t ∧ s 24 2 = w ∧ s 24 3 = nI L ∧ s 24 4 = nI y ∧ y ≤ L ∧ s 24 5 = -1
def hk_PF (t : Nat) (s : Nat → Nat → Int32) (F : Int32) : Prop := s 24 1 = nI t ∧ s 24 5 = F ∧ ¬ F = -1
def hk_RR (G : Nat → Int32) (nm : Int32 → Int64) (t L : Nat) (w : Int32) (o p i : Nat) (V : List Int64) (S : List Nat) (s2 : Nat → Nat → Int32) (x : Int64) : Prop := (∃ j V1 S1, hk_PX t L w s2 j ∧ i ≤ j ∧ hk_stl p S1 V1 = (x :: V, S) ∧ hk_nn G L p j V1 S1 ∧ hk_sy G L nm i V S o 0 = hk_sy G L nm j V1 S1 o 1) ∨ ∃ F, hk_PF t s2 F ∧ hk_sy G L nm i V S o 0 = (F, [])
def hk_RC (G : Nat → Int32) (nm : Int32 → Int64) (t L : Nat) (w : Int32) (o i : Nat) (V : List Int64) (S : List Nat) (s2 : Nat → Nat → Int32) (x : Int64) : Prop := (∃ j, hk_PX t L w s2 j ∧ i ≤ j ∧ hk_sy G L nm i V S o 0 = hk_sy G L nm j (hk_stl 6 S (x :: V)).1 (hk_stl 6 S (x :: V)).2 o 1) ∨ ∃ F, hk_PF t s2 F ∧ hk_sy G L nm i V S o 0 = (F, [])
def hk_QV (s0 : Nat → Nat → Int32) (G : Nat → Int32) (nm : Int32 → Int64) (t L : Nat) (w : Int32) (lm : Nat → Nat → Int64) (i0 i1 b : Nat) (al : List Nat) (e M o p : Nat) : Prop := ∀ (s : Nat → Nat → Int32) (k : Option Value → hk_H → Prop) (y : Nat) (V : List Int64) (S : List Nat), hk_R24 s0 s → hk_PX t L w s y → hk_lo p S → (∀ s2 x, hk_R24 s0 s2 → hk_RR G nm t L w o p y V S s2 x → k (some (.long x)) (s2, lm, hk_RH i0 i1 b, al)) → hk_Cl e M [.ref 24, .int (nI o)] (s, lm, hk_RH i0 i1 b, al) k
def hk_QC (s0 : Nat → Nat → Int32) (G : Nat → Int32) (nm : Int32 → Int64) (t L : Nat) (w : Int32) (lm : Nat → Nat → Int64) (i0 i1 b : Nat) (al : List Nat) (e M o : Nat) : Prop := ∀ (s : Nat → Nat → Int32) (k : Option Value → hk_H → Prop) (y : Nat) (V : List Int64) (S : List Nat), hk_R24 s0 s → hk_PX t L w s y → (hk_nx G L y < L → ¬ G (hk_nx G L y) = 45 ∧ ¬ G (hk_nx G L y) = 33) → (∀ s2 x, hk_R24 s0 s2 → hk_RC G nm t L w o y V S s2 x → k (some (.long x)) (s2, lm, hk_RH i0 i1 b, al)) → hk_Cl e M [.ref 24, .int (nI o)] (s, lm, hk_RH i0 i1 b, al) k
def hk_QI (s0 : Nat → Nat → Int32) (G : Nat → Int32) (nm : Int32 → Int64) (t L : Nat) (w : Int32) (lm : Nat → Nat → Int64) (i0 i1 b : Nat) (al : List Nat) (e M o : Nat) : Prop := ∀ (s : Nat → Nat → Int32) (k : Option Value → hk_H → Prop) (y : Nat) (V : List Int64) (S : List Nat), hk_R24 s0 s → hk_PX t L w s y → y < L → G y = 40 → (∀ s2 x, hk_R24 s0 s2 → hk_RC G nm t L w o y V S s2 x → k (some (.long x)) (s2, lm, hk_RH i0 i1 b, al)) → hk_Cl e M [.ref 24, .int (nI o)] (s, lm, hk_RH i0 i1 b, al) k
theorem hk_PX_go {t L y j : Nat} {w : Int32} {s : Nat → Nat → Int32} (h : hk_PX t L w s y) (hj : j ≤ L) : hk_PX t L w (hk_u2 s 24 4 (nI j)) j := by
  obtain ⟨h1, h2, h3, h4, h5, h6⟩ := h
  exact ⟨by rw [hk_u2o (by omega)]; exact h1, by rw [hk_u2o (by omega)]; exact h2, by rw [hk_u2o (by omega)]; exact h3, hk_u2s, hj, by rw [hk_u2o (by omega)]; exact h6⟩
theorem hk_PX_fl {t L y : Nat} {w F : Int32} {s : Nat → Nat → Int32} (h : hk_PX t L w s y) (hF : ¬ F = -1) : hk_PF t (hk_u2 s 24 5 F) F := ⟨by rw [hk_u2o (by omega)]; exact h.1, hk_u2s, hF⟩
theorem hk_nx_bl {g : Nat → Int32} {n : Nat} : ∀ (m i : Nat), i + m = n → ∀ j, i ≤ j → j < hk_nx g n i → g j = 32
  | 0, i, h, j, h1, h2 => by
    rw [hk_nx_n (i := i) (fun q => by have := q.1; omega)] at h2
    omega
  | m + 1, i, h, j, h1, h2 => by
    by_cases c : i < n ∧ g i = 32
    · rw [hk_nx_y c.1 c.2] at h2
      by_cases e : j = i
      · subst e; exact c.2
      · exact hk_nx_bl m (i + 1) (by omega) j (by omega) h2
    · rw [hk_nx_n c] at h2
      omega
/-- signs ahead of a core -/
def hk_px (g : Nat → Int32) (y : Nat) (S : List Nat) : Nat → List Nat
  | 0 => S
  | c + 1 => if g (y + c) = 33 then 2 :: hk_px g y S c else if g (y + c) = 45 then 3 :: hk_px g y S c else hk_px g y S c
def hk_pv (g : Nat → Int32) (y : Nat) : Nat → Int64 → Int64
  | 0, x => x
  | c + 1, x => hk_pv g y c (if g (y + c) = 33 then (if x = 0 then 1 else 0) else if g (y + c) = 45 then -x else x)
theorem hk_px_bl {g : Nat → Int32} {y : Nat} {S : List Nat} {c : Nat} : ∀ m, (∀ j, c ≤ j → j < c + m → g (y + j) = 32) → hk_px g y S (c + m) = hk_px g y S c
  | 0, _ => rfl
  | m + 1, h => by
    have e := h (c + m) (by omega) (by omega)
    rw [show c + (m + 1) = c + m + 1 by omega, hk_px, e, if_neg (by decide), if_neg (by decide), hk_px_bl m (fun j h1 h2 => h j h1 (by omega))]
theorem hk_px_stl {g : Nat → Int32} {y : Nat} {S : List Nat} {V : List Int64} (hl : hk_lo 6 S) : ∀ (c : Nat) (x : Int64), hk_stl 6 (hk_px g y S c) (x :: V) = (hk_pv g y c x :: V, S)
  | 0, x => hk_stl_lo hl
  | c + 1, x => by
    rw [hk_px, hk_pv]
    by_cases h1 : g (y + c) = 33
    · rw [if_pos h1, if_pos h1, hk_stl, if_pos (show 6 ≤ hk_tg 2 by decide), hk_ap_not, hk_px_stl hl c]
    · by_cases h2 : g (y + c) = 45
      · rw [if_neg h1, if_neg h1, if_pos h2, if_pos h2, hk_stl, if_pos (show 6 ≤ hk_tg 3 by decide), hk_ap_neg, hk_px_stl hl c]
      · rw [if_neg h1, if_neg h1, if_neg h2, if_neg h2, hk_px_stl hl c]
theorem hk_so_inv {c : Int32} {t : Nat} (h : hk_so c = nI t) (h4 : 4 ≤ t) (h12 : t ≤ 12) : (t = 4 ∧ c = 42) ∨ (t = 5 ∧ c = 47) ∨ (t = 6 ∧ c = 43) ∨ (t = 7 ∧ c = 45) ∨ (t = 8 ∧ c = 60) ∨ (t = 9 ∧ c = 62) ∨ (t = 10 ∧ c = 61) ∨ (t = 11 ∧ c = 38) ∨ (t = 12 ∧ c = 124) := by
  have key : ∀ m : Nat, m ≤ 12 → nI m = nI t → t = m := fun m hm e => ((nI_eq (by omega) (by omega)).mp e).symm
  unfold hk_so at h
  by_cases c38 : c = 38
  · rw [if_pos c38] at h
    exact Or.inr (Or.inr (Or.inr (Or.inr (Or.inr (Or.inr (Or.inr (Or.inl (⟨key 11 (by omega) h, c38⟩))))))))
  rw [if_neg c38] at h
  by_cases c42 : c = 42
  · rw [if_pos c42] at h
    exact Or.inl (⟨key 4 (by omega) h, c42⟩)
  rw [if_neg c42] at h
  by_cases c43 : c = 43
  · rw [if_pos c43] at h
    exact Or.inr (Or.inr (Or.inl (⟨key 6 (by omega) h, c43⟩)))
  rw [if_neg c43] at h
  by_cases c45 : c = 45
  · rw [if_pos c45] at h
    exact Or.inr (Or.inr (Or.inr (Or.inl (⟨key 7 (by omega) h, c45⟩))))
  rw [if_neg c45] at h
  by_cases c47 : c = 47
  · rw [if_pos c47] at h
    exact Or.inr (Or.inl (⟨key 5 (by omega) h, c47⟩))
  rw [if_neg c47] at h
  by_cases c60 : c = 60
  · rw [if_pos c60] at h
    exact Or.inr (Or.inr (Or.inr (Or.inr (Or.inl (⟨key 8 (by omega) h, c60⟩)))))
  rw [if_neg c60] at h
  by_cases c61 : c = 61
  · rw [if_pos c61] at h
    exact Or.inr (Or.inr (Or.inr (Or.inr (Or.inr (Or.inr (Or.inl (⟨key 10 (by omega) h, c61⟩)))))))
  rw [if_neg c61] at h
  by_cases c62 : c = 62
  · rw [if_pos c62] at h
    exact Or.inr (Or.inr (Or.inr (Or.inr (Or.inr (Or.inl (⟨key 9 (by omega) h, c62⟩))))))
  rw [if_neg c62] at h
  by_cases c124 : c = 124
  · rw [if_pos c124] at h
    exact Or.inr (Or.inr (Or.inr (Or.inr (Or.inr (Or.inr (Or.inr (Or.inr (⟨key 12 (by omega) h, c124⟩))))))))
  rw [if_neg c124] at h
  exact absurd h.symm (hk_nm1 (by omega))
theorem hk_tgs : hk_tg 4 = 5 ∧ hk_tg 5 = 5 ∧ hk_tg 6 = 4 ∧ hk_tg 7 = 4 ∧ hk_tg 8 = 3 ∧ hk_tg 9 = 3 ∧ hk_tg 10 = 3 ∧ hk_tg 11 = 2 ∧ hk_tg 12 = 1 := ⟨rfl, rfl, rfl, rfl, rfl, rfl, rfl, rfl, rfl⟩
theorem hk_j64 {a : Nat} (h : a < 2 ^ 31) : (nI a).toInt64 = Int64.ofNat a := by
  refine Int64.toInt_inj.mp ?_
  rw [Int32.toInt_toInt64, Int64.toInt_ofNat_of_lt (by omega)]
  exact Int32.toInt_ofNat_of_lt h
theorem hk_dv_j {a c : Nat} (ha : a < 2 ^ 24) (hc : c ≤ 9) : (10 : Int64) * (nI a).toInt64 + (nI c).toInt64 = (nI (10 * a + c)).toInt64 := by
  rw [hk_j64 (by omega), hk_j64 (by omega), hk_j64 (by omega), Int64.ofNat_add, Int64.ofNat_mul]
  rfl
theorem hk_cm0 (x y : Int64) : lg_cmp x y = 0 ↔ x = y := by
  refine ⟨fun h => ?_, fun h => by rw [h]; exact hk_lc0 y⟩
  have h1 := (lg_cmp_ge x y).mp (by rw [h]; decide)
  have h2 := (lg_cmp_le x y).mp (by rw [h]; decide)
  exact Int64.le_antisymm h2 h1
section HKEE
variable {d L o t y : Nat} {v w : Int32} {s s0 : Nat → Nat → Int32} {lm : Nat → Nat → Int64} {i0 i1 b : Nat} {al : List Nat} {k : Option Value → hk_H → Prop} {nm : Int32 → Int64} {V : List Int64} {S : List Nat} {G : Nat → Int32}
theorem c_signX (hw : hk_TG s0 t G) (hr : hk_R24 s0 s) (ht : t < 4) (e1 : s 24 1 = nI t) {j : Nat} (hj : j < 60) (h1 : k (some (.int (G j))) (s, lm, hk_RH i0 i1 b, al)) : hk_Cl (d + 2) 53 [.ref 24, .int (nI j)] (s, lm, hk_RH i0 i1 b, al) k := by
  have hw10 : hk_tw s 10 4 := ⟨by rw [hr _ _ (by omega)]; exact hw.1.2.2.1, by rw [hr _ _ (by omega)]; exact hw.1.2.2.2.1, by rw [hr _ _ (by omega)]; exact hw.1.2.2.2.2.1, hw.1.2.2.2.2.2⟩
  refine hk_mth hk_m53 rfl rfl (n := 1000) ?_
  refine hk_Cl_arg (show [Value.ref 10, .int (s 24 1), .int (1 + nI j)] = [Value.ref 10, .int (nI t), .int (nI (1 + j))] by rw [e1, ← nI_add]; rfl) ?_
  refine c_get_in (by simp [hk_tb]) hw10 ht (show 1 + j < 61 by omega) ?_
  have e2 : s (10 + 1) (t * hk_co 10 + (1 + j)) = G j := (hr 11 _ (by omega)).trans (hw.2 j hj)
  rw [e2]
  exact h1
theorem c_peekX (hw : hk_TG s0 t G) (hL : L ≤ 60) (ht : t < 4) (hr : hk_R24 s0 s) (h : hk_PX t L w s y) (h1 : ∀ s2, hk_R24 s0 s2 → hk_PX t L w s2 (hk_nx G L y) → k (some (.int (if hk_nx G L y < L then G (hk_nx G L y) else -1))) (s2, lm, hk_RH i0 i1 b, al)) : hk_Cl (d + 3) 51 [.ref 24] (s, lm, hk_RH i0 i1 b, al) k := by
  have loop : ∀ (g y2 : Nat) (s3 : Nat → Nat → Int32), y2 + g = L → hk_PX t L w s3 y2 → hk_R24 s0 s3 → hk_nx G L y = hk_nx G L y2 → hk_Rn (d + 2) none hk_c51 (hk_sfx 9 hk_c51) [some (.ref 24)] [] (s3, lm, hk_RH i0 i1 b, al) k := by
    intro g
    induction g with
    | zero =>
      intro y2 s3 hb h2 hr3 he
      have e : y2 = L := by omega
      have a1 : s3 24 3 ≤ s3 24 4 := by rw [h2.2.2.1, h2.2.2.2.1]; exact nI_le (by omega) (by omega)
      rw [hk_nx_n (i := y2) (fun q => by omega)] at he
      have key := h1 s3 hr3 (by rw [he]; exact h2)
      rw [he, if_neg (by omega)] at key
      refine hk_hd (n := 1000) (t := 9) rfl ?_
      refine And.intro (fun _ => ?_) (fun hc => absurd a1 hc)
      refine And.intro (fun _ => ?_) (fun hc => absurd a1 hc)
      exact key
    | succ g ih =>
      intro y2 s3 hb h2 hr3 he
      have a1 : ¬ s3 24 3 ≤ s3 24 4 := by rw [h2.2.2.1, h2.2.2.2.1]; exact hk_nlt (by omega) (by omega)
      have ea : [Value.ref 24, .int (s3 24 4)] = [Value.ref 24, .int (nI y2)] := by rw [h2.2.2.2.1]
      refine hk_hd (n := 1000) (t := 9) rfl ?_
      refine And.intro (fun hc => absurd hc a1) (fun _ => ?_)
      refine hk_Cl_arg ea ?_
      refine c_signX hw hr3 ht h2.1 (by omega) ?_
      refine And.intro (fun c1 => ?_) (fun c1 => ?_)
      · have c1 : ¬ G y2 = 32 := c1
        rw [hk_nx_n (i := y2) (fun q => c1 q.2)] at he
        have key := h1 s3 hr3 (by rw [he]; exact h2)
        rw [he, if_pos (by omega)] at key
        refine And.intro (fun hc => absurd hc a1) (fun _ => ?_)
        refine hk_Cl_arg ea ?_
        refine c_signX hw hr3 ht h2.1 (by omega) ?_
        exact key
      · have c1 : ¬ ¬ G y2 = 32 := c1
        rw [hk_nx_y (by omega) (Classical.not_not.mp c1)] at he
        have e : s3 24 4 + 1 = nI (y2 + 1) := by rw [h2.2.2.2.1, nI_1]
        have r := ih (y2 + 1) (hk_u2 s3 24 4 (nI (y2 + 1))) (by omega) (hk_PX_go h2 (by omega)) (hk_R24_u hr3) he
        rw [← e] at r
        exact r
  refine hk_mth hk_m51 rfl rfl (n := 1000) ?_
  refine c_hasFlaw (fun e => ?_) (fun e => ?_)
  · refine And.intro (fun _ => ?_) (fun hc => absurd (by decide) hc)
    exact loop (L - y) y s (by have := h.2.2.2.2.1; omega) h hr rfl
  · exact absurd h.2.2.2.2.2 e
theorem c_failF (h : ¬ s 24 5 = -1) (h1 : k none (s, lm, hk_RH i0 i1 b, al)) : hk_Cl (d + 1) 56 [.ref 24, .int v, .int w] (s, lm, hk_RH i0 i1 b, al) k := by
  refine hk_mth hk_m56 rfl rfl (n := 1000) ?_
  refine And.intro (fun _ => ?_) (fun hc => absurd h hc)
  exact h1
theorem c_failP (h : hk_PX t L w s y) {c : Nat} (hL : L ≤ 60) (hc : c ≤ 3) (h1 : hk_PF t (hk_u2 s 24 5 (nI (10 * y + c))) (nI (10 * y + c)) → k none (hk_u2 s 24 5 (nI (10 * y + c)), lm, hk_RH i0 i1 b, al)) : hk_Cl (d + 1) 56 [.ref 24, .int (s 24 4), .int (nI c)] (s, lm, hk_RH i0 i1 b, al) k := by
  have hy := h.2.2.2.2.1
  refine c_fail0 h.2.2.2.2.2 ?_
  have e : (10 : Int32) * s 24 4 + nI c = nI (10 * y + c) := by rw [h.2.2.2.1, show (10 : Int32) = nI 10 from rfl, pk_mul, nI_add]
  rw [e]
  exact h1 (hk_PX_fl h (hk_nm1 (by omega)))
theorem c_digitsX (hw : hk_TG s0 t G) (hL : L ≤ 60) (ht : t < 4) (hr : hk_R24 s0 s) (h : hk_PX t L w s y) (hy : y < L) (hd : ¬ G y < 48 ∧ ¬ 57 < G y) (h1 : ∀ s2, hk_R24 s0 s2 → ¬ 6 < hk_de G L y - y → hk_PX t L w s2 (hk_de G L y) → k (some (.long ((nI (hk_dv G y (hk_de G L y - y))).toInt64))) (s2, lm, hk_RH i0 i1 b, al)) (h0 : ∀ s2 x, hk_R24 s0 s2 → 6 < hk_de G L y - y → hk_PF t s2 (nI (10 * y + 2)) → k (some (.long x)) (s2, lm, hk_RH i0 i1 b, al)) : hk_Cl (d + 3) 55 [.ref 24] (s, lm, hk_RH i0 i1 b, al) k := by
  have fin : ∀ (m y2 : Nat) (s3 : Nat → Nat → Int32) (u : Int64), hk_PX t L w s3 y2 → hk_R24 s0 s3 → y ≤ y2 → hk_de G L y = y2 → (y2 - y ≤ 6 → u = (nI (hk_dv G y (y2 - y))).toInt64) → hk_wp (d + 2) none hk_c55 k (m + 60) (hk_sfx 76 hk_c55) [some (.ref 24), some (.int (nI y)), some (.long u), none] [] (s3, lm, hk_RH i0 i1 b, al) := by
    intro m y2 s3 u h2 hr3 hyy he hu
    have hy2 := h2.2.2.2.2.1
    refine And.intro (fun c1 => ?_) (fun c1 => ?_)
    · have c1 : s3 24 4 - nI y ≤ nI 6 := c1
      rw [h2.2.2.2.1, pk_sub hyy, nI_leI (by omega) (by omega)] at c1
      have key := h1 s3 hr3 (by rw [he]; omega) (by rw [he]; exact h2)
      rw [he, ← hu c1] at key
      exact key
    · have c1 : ¬ s3 24 4 - nI y ≤ nI 6 := c1
      rw [h2.2.2.2.1, pk_sub hyy, nI_leI (by omega) (by omega)] at c1
      refine c_fail0 h2.2.2.2.2.2 ?_
      have e : (10 : Int32) * nI y + 2 = nI (10 * y + 2) := by rw [show (10 : Int32) = nI 10 from rfl, pk_mul, show (2 : Int32) = nI 2 from rfl, nI_add]
      rw [e]
      exact h0 _ _ (hk_R24_u hr3) (by rw [he]; omega) (hk_PX_fl h2 (hk_nm1 (by omega)))
  have loop : ∀ (g y2 : Nat) (s3 : Nat → Nat → Int32) (u : Int64), y2 + g = L → hk_PX t L w s3 y2 → hk_R24 s0 s3 → y ≤ y2 → hk_de G L y = hk_de G L y2 → (∀ j, j < y2 - y → ¬ G (y + j) < 48 ∧ ¬ 57 < G (y + j)) → (y2 - y ≤ 6 → u = (nI (hk_dv G y (y2 - y))).toInt64) → hk_Rn (d + 2) none hk_c55 (hk_sfx 7 hk_c55) [some (.ref 24), some (.int (nI y)), some (.long u), none] [] (s3, lm, hk_RH i0 i1 b, al) k := by
    intro g
    induction g with
    | zero =>
      intro y2 s3 u hb h2 hr3 hyy he hdd hu
      have a1 : s3 24 3 ≤ s3 24 4 := by rw [h2.2.2.1, h2.2.2.2.1]; exact nI_le (by omega) (by omega)
      rw [hk_de_n (i := y2) (fun q => by omega)] at he
      refine hk_hd (n := 1000) (t := 7) rfl ?_
      refine And.intro (fun _ => ?_) (fun hc => absurd a1 hc)
      exact fin _ y2 s3 u h2 hr3 hyy he hu
    | succ g ih =>
      intro y2 s3 u hb h2 hr3 hyy he hdd hu
      have a1 : ¬ s3 24 3 ≤ s3 24 4 := by rw [h2.2.2.1, h2.2.2.2.1]; exact hk_nlt (by omega) (by omega)
      have ea : [Value.ref 24, .int (s3 24 4)] = [Value.ref 24, .int (nI y2)] := by rw [h2.2.2.2.1]
      refine hk_hd (n := 1000) (t := 7) rfl ?_
      refine And.intro (fun hc => absurd hc a1) (fun _ => ?_)
      refine hk_Cl_arg ea ?_
      refine c_signX hw hr3 ht h2.1 (by omega) ?_
      refine And.intro (fun c1 => ?_) (fun c1 => ?_)
      · have c1 : G y2 < 48 := c1
        rw [hk_de_n (i := y2) (fun q => q.2.1 c1)] at he
        exact fin _ y2 s3 u h2 hr3 hyy he hu
      have c1 : ¬ G y2 < 48 := c1
      refine hk_Cl_arg ea ?_
      refine c_signX hw hr3 ht h2.1 (by omega) ?_
      refine And.intro (fun c2 => ?_) (fun c2 => ?_)
      · have c2 : 57 < G y2 := c2
        rw [hk_de_n (i := y2) (fun q => q.2.2 c2)] at he
        exact fin _ y2 s3 u h2 hr3 hyy he hu
      have c2 : ¬ 57 < G y2 := c2
      rw [hk_de_y (i := y2) (by omega) c1 c2] at he
      refine hk_Cl_arg ea ?_
      refine c_signX hw hr3 ht h2.1 (by omega) ?_
      have e : s3 24 4 + 1 = nI (y2 + 1) := by rw [h2.2.2.2.1, nI_1]
      have hd2 : ∀ j, j < y2 + 1 - y → ¬ G (y + j) < 48 ∧ ¬ 57 < G (y + j) := fun j hj => by
        by_cases e : j = y2 - y
        · subst e
          rw [show y + (y2 - y) = y2 by omega]
          exact ⟨c1, c2⟩
        · exact hdd j (by omega)
      have r := fun u hu => ih (y2 + 1) (hk_u2 s3 24 4 (nI (y2 + 1))) u (by omega) (hk_PX_go h2 (by omega)) (hk_R24_u hr3) (by omega) he hd2 hu
      rw [← e] at r
      refine r _ (fun h6 => ?_)
      have hu := hu (by omega)
      subst hu
      have lt := hk_dv_lt (g := G) (i := y) (y2 - y) (fun j hj => hdd j hj)
      have lt2 : 10 ^ (y2 - y) ≤ 10 ^ 6 := Nat.pow_le_pow_right (by omega) (by omega)
      obtain ⟨m, hm, em⟩ := hk_rng (n := 57) (by decide) (v := G y2) (fun q => c1 (Int32.lt_trans q (by decide))) c2
      have h48 : 48 ≤ m := by
        rw [em] at c1
        have q : ¬ nI m < nI 48 := c1
        rw [nI_ltI (by omega) (by omega)] at q
        omega
      rw [show y2 + 1 - y = y2 - y + 1 by omega, hk_dv, show y + (y2 - y) = y2 by omega, em, nI_clamp (by omega), ← hk_dv_j (by omega) (by omega)]
      show (10 : Int64) * _ + (nI m - 48).toInt64 = _
      rw [show (48 : Int32) = nI 48 from rfl, pk_sub (by omega)]
  refine hk_mth hk_m55 rfl rfl (n := 1000) ?_
  refine hk_Rn_cast (L2 := [some (.ref 24), some (.int (nI y)), some (.long 0), none]) ?_ (loop (L - y) y s 0 (by omega) h hr (Nat.le_refl y) rfl (fun j hj => by omega) (fun _ => ?_))
  · show [some (Value.ref 24), some (.int (s 24 4)), some (.long 0), none] = _
    rw [h.2.2.2.1]
  · rw [Nat.sub_self]
    exact (by decide : (0 : Int64) = (nI 0).toInt64)
theorem c_insideX (hw : hk_TG s0 t G) (hL : L ≤ 60) (ht : t < 4) (ho : o ≤ 8) (hV : o < 8 → hk_QV s0 G nm t L w lm i0 i1 b al (d + 8) 45 (o + 1) 1) : hk_QI s0 G nm t L w lm i0 i1 b al (d + 9) 57 o := by
  intro s k y V S hr h hy h40 h1
  by_cases h8 : o < 8
  · have e1 : s 24 4 + 1 = nI (y + 1) := by rw [h.2.2.2.1, nI_1]
    have a1 : nI o < 8 := nI_lt (b := 8) h8 (by omega)
    have h2 := hk_PX_go h (j := y + 1) (by omega)
    have hr2 := hk_R24_u (q := 4) (v := nI (y + 1)) hr
    rw [← e1] at h2 hr2
    have sy0 := hk_sy_open (g := G) (n := L) (nm := nm) (V := V) (S := S) hy h40 (show ¬ o = 8 by omega)
    refine hk_mth hk_m57 rfl rfl (n := 1000) ?_
    refine And.intro (fun _ => ?_) (fun hc => absurd a1 hc)
    refine hk_Cl_arg (a2 := [.ref 24, .int (nI (o + 1))]) (by rw [← nI_1]; rfl) ?_
    refine hV h8 _ _ (y + 1) V (13 :: S) hr2 h2 (show hk_tg 13 < 1 by decide) (fun s3 u hr3 hR => ?_)
    rcases hR with ⟨j, V1, S1, hP, hij, hst, hnn, hsy⟩ | ⟨F, hF, hsy⟩
    · have hj := hP.2.2.2.2.1
      obtain ⟨n1, n2, n3, n4⟩ := hk_nx_b (g := G) hj
      have n5 := hk_nx_nx (g := G) hj
      refine c_peekX hw hL ht hr3 hP (fun s4 hr4 hP4 => ?_)
      have sy2 := sy0.trans (hsy.trans (n4 nm V1 S1 (o + 1) 1))
      by_cases hlt : hk_nx G L j < L
      · rw [if_pos hlt]
        refine And.intro (fun c1 => ?_) (fun c1 => ?_)
        · have c1 : ¬ G (hk_nx G L j) = 41 := c1
          refine c_failP (c := 1) hP4 hL (by omega) (fun hF => ?_)
          refine h1 _ u (hk_R24_u hr4) (Or.inr ⟨_, hF, sy2.trans ?_⟩)
          refine hk_sy_bad hlt (n3 hlt) (fun q => c1 q.1) ?_
          rcases hk_so_r (G (hk_nx G L j)) with e | ⟨tt, q4, q12, e⟩
          · exact Or.inl e
          · refine Or.inr ⟨tt, e, q4, q12, hnn tt hlt e q4 q12 ?_⟩
            have := hk_tg_r q4 q12
            omega
        · have c1 : ¬ ¬ G (hk_nx G L j) = 41 := c1
          have c1 := Classical.not_not.mp c1
          have e2 : s4 24 4 + 1 = nI (hk_nx G L j + 1) := by rw [hP4.2.2.2.1, nI_1]
          have h5 := hk_PX_go hP4 (j := hk_nx G L j + 1) (by omega)
          have hr5 := hk_R24_u (q := 4) (v := nI (hk_nx G L j + 1)) hr4
          rw [← e2] at h5 hr5
          refine h1 _ u hr5 (Or.inl ⟨_, h5, by omega, sy2.trans ?_⟩)
          rw [hk_sy_close hlt c1 (by omega), hst]
          rfl
      · have e : hk_nx G L j = L := by omega
        rw [if_neg hlt]
        refine And.intro (fun _ => ?_) (fun hc => absurd (show ¬ (-1 : Int32) = 41 by decide) hc)
        refine c_failP (c := 1) hP4 hL (by omega) (fun hF => ?_)
        refine h1 _ u (hk_R24_u hr4) (Or.inr ⟨_, hF, sy2.trans ?_⟩)
        rw [hk_sy_end hlt, if_neg (fun q => by omega), e]
    · refine c_peekE (Or.inl (by rw [hF.2.1]; exact hF.2.2)) ?_
      refine And.intro (fun _ => ?_) (fun hc => absurd (show ¬ (-1 : Int32) = 41 by decide) hc)
      refine c_failF (by rw [hF.2.1]; exact hF.2.2) ?_
      exact h1 s3 u hr3 (Or.inr ⟨F, hF, sy0.trans hsy⟩)
  · have e8 : o = 8 := by omega
    have a1 : ¬ nI o < 8 := by
      subst e8
      decide
    refine hk_mth hk_m57 rfl rfl (n := 1000) ?_
    refine And.intro (fun hc => absurd hc a1) (fun _ => ?_)
    refine c_failP (c := 3) h hL (by omega) (fun hF => ?_)
    exact h1 _ _ (hk_R24_u hr) (Or.inr ⟨_, hF, hk_sy_deep hy h40 e8⟩)
theorem c_coreX (hw : hk_TG s0 t G) (hL : L ≤ 60) (ht : t < 4) (hLt : ∀ (d : Nat) (s2 : Nat → Nat → Int32) (v : Int32) (k : Option Value → hk_H → Prop), hk_R24 s0 s2 → s2 24 2 = w → ¬ hk_nmo v = -1 → k (some (.long (nm (hk_nmo v)))) (s2, lm, hk_RH i0 i1 b, al) → hk_Cl (d + 3) 58 [.ref 24, .int v] (s2, lm, hk_RH i0 i1 b, al) k) (hI : hk_QI s0 G nm t L w lm i0 i1 b al (d + 9) 57 o) : hk_QC s0 G nm t L w lm i0 i1 b al (d + 10) 54 o := by
  intro s k y V S hr h hpre h1
  have hyL := h.2.2.2.2.1
  obtain ⟨n1, n2, n3, n4⟩ := hk_nx_b (g := G) hyL
  have sy0 := n4 nm V S o 0
  refine hk_mth hk_m54 rfl rfl (n := 1000) ?_
  refine c_peekX hw hL ht hr h (fun s2 hr2 h2 => ?_)
  by_cases hlt : hk_nx G L y < L
  rotate_left
  · have e : hk_nx G L y = L := by omega
    rw [if_neg hlt]
    have fl : ∀ (m : Nat), hk_wp (d + 9) none hk_c54 k (m + 60) (hk_sfx 110 hk_c54) [some (.ref 24), some (.int (nI o)), some (.int (-1))] [] (s2, lm, hk_RH i0 i1 b, al) := by
      intro m
      refine c_failP (c := 1) h2 hL (by omega) (fun hF => ?_)
      refine h1 _ _ (hk_R24_u hr2) (Or.inr ⟨_, hF, sy0.trans ?_⟩)
      rw [hk_sy_end hlt, if_neg (fun q => absurd q.1 (by decide)), e]
    refine And.intro (fun _ => ?_) (fun hc => absurd (show (-1 : Int32) < 48 by decide) hc)
    refine And.intro (fun hc => absurd hc (by decide)) (fun _ => ?_)
    refine And.intro (fun hc => absurd hc (by decide)) (fun _ => ?_)
    refine And.intro (fun hc => absurd hc (by decide)) (fun _ => ?_)
    refine And.intro (fun hc => absurd hc (by decide)) (fun _ => ?_)
    refine And.intro (fun hc => absurd hc (by decide)) (fun _ => ?_)
    refine And.intro (fun hc => absurd hc (by decide)) (fun _ => ?_)
    refine And.intro (fun hc => absurd hc (by decide)) (fun _ => ?_)
    exact fl _
  rw [if_pos hlt]
  obtain ⟨p45, p33⟩ := hpre hlt
  have n32 := n3 hlt
  generalize hj : hk_nx G L y = j at *
  obtain ⟨x, hx⟩ : ∃ x, G j = x := ⟨_, rfl⟩
  rw [hx] at p45 p33 n32
  have nx : ∀ (m : Nat), ¬ hk_nmo x = -1 → hk_wp (d + 9) none hk_c54 k (m + 60) (hk_sfx 94 hk_c54) [some (.ref 24), some (.int (nI o)), some (.int x)] [] (s2, lm, hk_RH i0 i1 b, al) := by
    intro m hx2
    have e : s2 24 4 + 1 = nI (j + 1) := by rw [h2.2.2.2.1, nI_1]
    have h3 := hk_PX_go h2 (j := j + 1) (by omega)
    have hr3 := hk_R24_u (q := 4) (v := nI (j + 1)) hr2
    rw [← e] at h3 hr3
    refine hLt _ _ _ _ hr3 h3.2.1 hx2 ?_
    refine h1 _ _ hr3 (Or.inl ⟨_, h3, by omega, sy0.trans ?_⟩)
    rw [hk_sy_name hlt (by rw [hx]; exact hx2), hx]
  have sw : ∀ (m : Nat), ¬ (¬ x < 48 ∧ ¬ 57 < x) → hk_wp (d + 9) none hk_c54 k (m + 70) (hk_sfx 22 hk_c54) [some (.ref 24), some (.int (nI o)), some (.int x)] [] (s2, lm, hk_RH i0 i1 b, al) := by
    intro m hnd
    refine And.intro (fun c0 => ?_) (fun c0 => ?_)
    · have c0 : x = 40 := c0
      exact hI s2 _ j V S hr2 h2 hlt (hx.trans c0) (fun s3 u hr3 hR => h1 s3 u hr3 (hR.imp (fun ⟨j2, q1, q2, q3⟩ => ⟨j2, q1, by omega, sy0.trans q3⟩) (fun ⟨F, q1, q2⟩ => ⟨F, q1, sy0.trans q2⟩)))
    have c0 : ¬ x = 40 := c0
    refine And.intro (fun c1 => ?_) (fun c1 => ?_)
    · have c1 : x = 102 := c1
      exact nx _ (by rw [c1]; decide)
    refine And.intro (fun c2 => ?_) (fun c2 => ?_)
    · have c2 : x = 109 := c2
      exact nx _ (by rw [c2]; decide)
    refine And.intro (fun c3 => ?_) (fun c3 => ?_)
    · have c3 : x = 115 := c3
      exact nx _ (by rw [c3]; decide)
    refine And.intro (fun c4 => ?_) (fun c4 => ?_)
    · have c4 : x = 116 := c4
      exact nx _ (by rw [c4]; decide)
    refine And.intro (fun c5 => ?_) (fun c5 => ?_)
    · have c5 : x = 121 := c5
      exact nx _ (by rw [c5]; decide)
    refine And.intro (fun c6 => ?_) (fun c6 => ?_)
    · have c6 : x = 122 := c6
      exact nx _ (by rw [c6]; decide)
    have hnm : hk_nmo x = -1 := by
      unfold hk_nmo
      rw [if_neg c1, if_neg c2, if_neg c3, if_neg c4, if_neg c5, if_neg c6]
    refine c_failP (c := 1) h2 hL (by omega) (fun hF => ?_)
    refine h1 _ _ (hk_R24_u hr2) (Or.inr ⟨_, hF, sy0.trans ?_⟩)
    exact hk_sy_bad0 hlt (by rw [hx]; exact n32) (by rw [hx]; exact hnd) (by rw [hx]; exact hnm) (by rw [hx]; exact c0) (by rw [hx]; exact p45) (by rw [hx]; exact p33)
  rw [hx]
  refine And.intro (fun a1 => ?_) (fun a1 => ?_)
  · have a1 : x < 48 := a1
    exact sw _ (fun q => q.1 a1)
  have a1 : ¬ x < 48 := a1
  refine And.intro (fun a2 => ?_) (fun a2 => ?_)
  · have a2 : 57 < x := a2
    exact sw _ (fun q => q.2 a2)
  have a2 : ¬ 57 < x := a2
  have hd : ¬ G j < 48 ∧ ¬ 57 < G j := by rw [hx]; exact ⟨a1, a2⟩
  have hde := hk_de_s hlt hd.1 hd.2
  refine c_digitsX hw hL ht hr2 h2 hlt hd (fun s3 hr3 h6 h3 => ?_) (fun s3 u hr3 h6 hF => ?_)
  · refine h1 s3 _ hr3 (Or.inl ⟨_, h3, by omega, sy0.trans ?_⟩)
    exact hk_sy_dig hlt hd h6
  · exact h1 s3 u hr3 (Or.inr ⟨_, hF, sy0.trans (hk_sy_dig6 hlt hd h6)⟩)
end HKEE
