/-! ===== months agree ===== -/
section HKEO
variable {d n a bb r : Nat} {v w x y z : Int32} {s : Nat → Nat → Int32} {lm : Nat → Nat → Int64} {i0 i1 b : Nat} {al : List Nat} {k : Option Value → hk_H → Prop} {f g : Nat → Int32}
theorem c_wearX (hw : hk_tw s 4 bb) (hR : hk_Rel s 1 g) (hz : ∀ p, p < bb → ∃ z, z < 3 ∧ g (80 + 6 * p + 1) = nI z) (h1 : ∀ s2, (∀ p q, p ≠ 5 → s2 p q = s p q) → hk_Rel s2 1 (hk_wrn g v bb) → k none (s2, lm, hk_RH i0 i1 b, al)) : hk_Cl (d + 4) 35 [.ref 1, .int v] (s, lm, hk_RH i0 i1 b, al) k := by
  have hm : bb ≤ 96 := hw.2.2.2
  have loop : ∀ (q j : Nat) (s3 : Nat → Nat → Int32), j + q = bb → (∀ p q, p ≠ 5 → s3 p q = s p q) → hk_Rel s3 1 (hk_wrn g v j) → hk_Rn (d + 3) none hk_c35 (hk_sfx 2 hk_c35) [some (.ref 1), some (.int v), some (.int (nI j))] [] (s3, lm, hk_RH i0 i1 b, al) k := by
    intro q
    induction q with
    | zero =>
      intro j s3 hj h3 hR3
      have e : j = bb := by omega
      subst e
      refine hk_hd (n := 1000) (t := 2) rfl ?_
      refine And.intro (fun _ => ?_) (fun hc => absurd (show s3 4 3 ≤ nI j by rw [h3 _ _ (by omega), hw.2.2.1]; exact Int32.le_refl _) hc)
      exact h1 s3 h3 hR3
    | succ q ih =>
      intro j s3 hj h3 hR3
      have hw3 : hk_tw s3 4 bb := hk_tw_f hw (fun q => h3 4 q (by omega))
      obtain ⟨zz, hz3, ez⟩ := hz j (by omega)
      have e0 : hk_wrn g v j (80 + 6 * j + 0) = g (80 + 6 * j) := hk_wP_o (by omega)
      have e1 : hk_wrn g v j (80 + 6 * j + 1) = g (80 + 6 * j + 1) := hk_wP_o (by omega)
      have e2 : hk_wrn g v j (80 + 6 * j + 2) = g (80 + 6 * j + 2) := hk_wP_o (by omega)
      have et : hk_thk (hk_wrn g v j) j 1 = hk_thk g j 1 := hk_thk_c ez hz3 e1 e2 (fun z hz => hk_wP_o (by omega))
      refine hk_hd (n := 1000) (t := 2) rfl ?_
      refine And.intro (fun hc => absurd hc (show ¬ s3 4 3 ≤ nI j by rw [h3 _ _ (by omega), hw.2.2.1]; exact hk_nlt (by omega) (by omega))) (fun _ => ?_)
      refine c_gP (c := 0) hw3 hR3 (by omega) (by omega) ?_
      rw [e0]
      refine And.intro (fun c1 => ?_) (fun c1 => ?_)
      · have c1 : ¬ g (80 + 6 * j) = v := c1
        exact hk_Rn_cast (by rw [← nI_1]; rfl) (ih (j + 1) s3 (by omega) h3 (by unfold hk_wrn; rw [hk_wP_n c1]; exact hR3))
      have c1 : ¬ ¬ g (80 + 6 * j) = v := c1
      have c1 := Classical.not_not.mp c1
      refine c_thickX hw3 hR3 (by omega) (e1.trans ez) hz3 ?_
      refine hk_Cl_arg (show [Value.ref 4, .int (nI j), .int 2, .int (hk_thk (hk_wrn g v j) j 1)] = [Value.ref 4, .int (nI j), .int (nI 2), .int (hk_thk g j 1)] by rw [et]; rfl) ?_
      refine c_put_in (n := bb) (by simp [hk_tb]) hw3 (i := j) (by show j < 96; omega) (j := 2) (by decide) ?_
      refine hk_Rn_cast (by rw [← nI_1]; rfl) (ih (j + 1) (hk_u2 s3 5 (j * 6 + 2) (hk_thk g j 1)) (by omega) (fun p q c => by rw [hk_u2o (by omega)]; exact h3 p q c) ?_)
      unfold hk_wrn
      rw [hk_wP_y c1]
      exact hk_Rel_d (a := 4) hR3 (hk_lp17 (by omega) (by omega))
  refine hk_mth hk_m35 rfl rfl (n := 1000) ?_
  exact loop bb 0 s (by omega) (fun _ _ _ => rfl) (by unfold hk_wrn; rw [hk_wP_0]; exact hR)
/-- the leaks of a ship that isn't worn yet, or is -/
theorem hk_lk_c {i : Nat} (h : hk_RI f a bb r) (hi : i < a) : hk_lkS (hk_mrw f bb i i) (fun p => hk_thk (hk_mrw f bb i i) p 1) (nI i) bb = hk_lkS f (fun p => hk_thk f p 1) (nI i) bb := by
  have hb := h.1.2.1
  have ha := h.1.1
  refine hk_lkS_c bb (fun p hp => hk_mrw_o (by omega) hb (by omega)) (fun p hp e => hk_lkT_c (hk_mrw_o (by omega) hb (by omega)) (hk_mrw_o (by omega) hb (by omega)) ?_)
  obtain ⟨_, z, hz3, ez⟩ := h.2.2.2.2.1 p hp
  have n1 : ¬ hk_flo f (f (80 + 6 * p)) i := by
    rw [e, hk_flo_lt (by omega) i (by omega)]
    omega
  exact hk_thk_c ez hz3 (hk_mrw_o (by omega) hb (by omega)) (hk_mrw_t0 (by omega) n1) (fun z hz => hk_mrw_o (by omega) hb (by omega))
theorem hk_lk_m {i : Nat} (h : hk_RI f a bb r) (hi : i < a) (hf : f (20 + 10 * i + 6) = 0) : hk_lkS (hk_mrw f bb a i) (fun p => hk_mrw f bb a i (80 + 6 * p + 2)) (nI i) bb = hk_lkS f (fun p => hk_thk f p 1) (nI i) bb := by
  have hb := h.1.2.1
  have ha := h.1.1
  refine hk_lkS_c bb (fun p hp => hk_mrw_o (by omega) hb (by omega)) (fun p hp e => hk_lkT_c (hk_mrw_o (by omega) hb (by omega)) (hk_mrw_o (by omega) hb (by omega)) ?_)
  refine hk_mrw_t (by omega) hp ?_
  rw [e, hk_flo_lt (by omega) a (by omega)]
  exact ⟨hi, hf⟩
theorem c_passMonthX (hS : hk_tw s 2 a) (hP : hk_tw s 4 bb) (hR : hk_Rel s 1 f) (h : hk_RI f a bb r) (h1 : ∀ s2, (∀ p q, p ≠ 3 → p ≠ 5 → ¬ (p = 1 ∧ q = 12) → s2 p q = s p q) → hk_Rel s2 1 (hk_mnx f a bb) → k (some (.int (nI (hk_skc f bb a)))) (s2, lm, hk_RH i0 i1 b, al)) : hk_Cl (d + 6) 29 [.ref 1] (s, lm, hk_RH i0 i1 b, al) k := by
  have ha := h.1.1
  have hb := h.1.2.1
  have e7 : s 1 12 = f 7 := hR 0 12 7 (hk_lp6 (by omega) (by omega) (by omega))
  have e9 : s 1 14 = f 9 := hR 0 14 9 (hk_lp6 (by omega) (by omega) (by omega))
  have loop : ∀ (q j : Nat) (s3 : Nat → Nat → Int32) (l5 l6 : Option Value), j + q = a → (∀ p q, p ≠ 3 → p ≠ 5 → s3 p q = s p q) → hk_Rel s3 1 (hk_mrw f bb j j) → hk_Rn (d + 5) none hk_c29 (hk_sfx 41 hk_c29) [some (.ref 1), some (.int (hk_sea f)), some (.int (hk_wlf f bb j)), some (.int (nI (hk_skc f bb j))), some (.int (nI j)), l5, l6] [] (s3, lm, hk_RH i0 i1 b, al) k := by
    intro q
    induction q with
    | zero =>
      intro j s3 l5 l6 hj h3 hR3
      have ej : j = a := by omega
      subst ej
      have e1 : s3 1 12 = f 7 := (h3 1 12 (by omega) (by omega)).trans e7
      have fin := h1 (hk_u2 s3 1 12 (f 7 + 1)) (fun p q c1 c2 c3 => by rw [hk_u2o (by omega)]; exact h3 p q c1 c2) (hk_Rel_d (a := 0) hR3 (hk_lp6 (by omega) (by omega) (by omega)))
      rw [← e1] at fin
      refine hk_hd (n := 1000) (t := 41) rfl ?_
      refine And.intro (fun _ => ?_) (fun hc => absurd (show s3 2 3 ≤ nI j by rw [h3 _ _ (by omega) (by omega), hS.2.2.1]; exact Int32.le_refl _) hc)
      exact fin
    | succ q ih =>
      intro j s3 l5 l6 hj h3 hR3
      have hS3 : hk_tw s3 2 a := hk_tw_f hS (fun q => h3 2 q (by omega) (by omega))
      have hP3 : hk_tw s3 4 bb := hk_tw_f hP (fun q => h3 4 q (by omega) (by omega))
      have o : ∀ c, c < 9 → hk_mrw f bb j j (20 + 10 * j + c) = f (20 + 10 * j + c) := fun c hc => hk_mrw_s (by omega) hc (Nat.le_refl _)
      have hz : ∀ p, p < bb → ∃ z, z < 3 ∧ hk_mrw f bb j j (80 + 6 * p + 1) = nI z := fun p hp => by
        obtain ⟨_, z, hz3, ez⟩ := h.2.2.2.2.1 p hp
        exact ⟨z, hz3, (hk_mrw_o (by omega) hb (by omega)).trans ez⟩
      refine hk_hd (n := 1000) (t := 41) rfl ?_
      refine And.intro (fun hc => absurd hc (show ¬ s3 2 3 ≤ nI j by rw [h3 _ _ (by omega) (by omega), hS.2.2.1]; exact hk_nlt (by omega) (by omega))) (fun _ => ?_)
      refine c_floatsX hS3 hR3 (i := j) (by omega) (fun hf => ?_) (fun hf => ?_)
      rotate_left
      · have hf : ¬ f (20 + 10 * j + 6) = 0 := fun q => hf ((o 6 (by omega)).trans q)
        refine And.intro (fun _ => ?_) (fun hc => absurd rfl hc)
        refine hk_Rn_cast ?_ (ih (j + 1) s3 l5 l6 (by omega) h3 (by rw [hk_mrw_A1 hf, hk_mrw_B1 hf]; exact hR3))
        rw [hk_wlf, if_neg hf, hk_skc, if_neg (fun e => hf e.1), ← nI_1]
        rfl
      have hf : f (20 + 10 * j + 6) = 0 := (o 6 (by omega)).symm.trans hf
      refine And.intro (fun hc => absurd hc (show ¬ (1 : Int32) = 0 by decide)) (fun _ => ?_)
      refine c_gS (c := 5) hS3 hR3 (by omega) (by omega) ?_
      rw [o 5 (by omega)]
      refine c_leaksX2 hP3 hR3 hz ?_
      rw [hk_lk_c h (by omega)]
      refine c_pumpedX (v := hk_wat f bb j) hS3 hR3 (by omega) ?_
      rw [o 3 (by omega)]
      refine c_put_in (n := a) (v := hk_wnw f bb j) (by simp [hk_tb]) hS3 (i := j) (by show j < 6; omega) (j := 5) (by decide) ?_
      have R1 : hk_Rel (hk_u2 s3 3 (j * 9 + 5) (hk_wnw f bb j)) 1 (hk_ud (hk_mrw f bb j j) (20 + 10 * j + 5) (hk_wnw f bb j)) := hk_Rel_d (a := 2) hR3 (hk_lp16 (by omega) (by omega))
      refine c_wearX (s := hk_u2 s3 3 (j * 9 + 5) (hk_wnw f bb j)) (hk_tw_f hP3 (fun q => hk_u2o (by omega))) R1 (fun p hp => ?_) (fun s5 h5 hR5 => ?_)
      · rw [hk_ud_o (by omega)]
        exact hz p hp
      rw [hk_wrn_u (by omega) hz, ← hk_mrw_B2 h (by omega) (by omega) hf] at hR5
      have h6 : ∀ p q, p ≠ 3 → p ≠ 5 → s5 p q = s p q := fun p q c1 c2 => by
        rw [h5 p q c2, hk_u2o (by omega)]
        exact h3 p q c1 c2
      have hS5 : hk_tw s5 2 a := hk_tw_f hS (fun q => h6 2 q (by omega) (by omega))
      have o5 : ∀ c, c < 9 → c ≠ 5 → hk_ud (hk_mrw f bb (j + 1) j) (20 + 10 * j + 5) (hk_wnw f bb j) (20 + 10 * j + c) = f (20 + 10 * j + c) := fun c hc c5 => by
        rw [hk_ud_o (by omega)]
        exact hk_mrw_s (by omega) hc (Nat.le_refl _)
      have el : ∀ v, hk_lsV (hk_ud (hk_mrw f bb (j + 1) j) (20 + 10 * j + 5) (hk_wnw f bb j)) j v = hk_lsV f j v := fun v => hk_lsV_c (o5 0 (by omega) (by omega)) (o5 2 (by omega) (by omega)) (o5 4 (by omega) (by omega))
      obtain ⟨⟨m, hm1, hm2, hA⟩, _, _⟩ := (hk_RI_P h).2.1 a ha h.2.1.1 j (by omega)
      refine c_sinksX (v := hk_wnw f bb j) hS5 hR5 (by omega) ((o5 0 (by omega) (by omega)).trans hA) hm1 hm2 (fun hs => ?_) (fun hs => ?_)
      · rw [el, o5 1 (by omega) (by omega)] at hs
        refine And.intro (fun hc => absurd hc (show ¬ (1 : Int32) = 0 by decide)) (fun _ => ?_)
        refine c_put_in (n := a) (by simp [hk_tb]) hS5 (i := j) (by show j < 6; omega) (j := 6) (by decide) ?_
        refine hk_Rn_cast ?_ (ih (j + 1) (hk_u2 s5 3 (j * 9 + 6) 1) (some (.int (hk_wat f bb j))) (some (.int (hk_tkn f bb j (hk_wlf f bb j)))) (by omega) (fun p q c1 c2 => by rw [hk_u2o (by omega)]; exact h6 p q c1 c2) ?_)
        · rw [hk_wlf, if_pos hf, hk_skc, if_pos ⟨hf, hs⟩, ← nI_1 j, ← nI_1 (hk_skc f bb j)]
          rfl
        · rw [hk_mrw_A3 hf hs]
          exact hk_Rel_d (a := 2) hR5 (hk_lp16 (by omega) (by omega))
      · rw [el, o5 1 (by omega) (by omega)] at hs
        refine And.intro (fun _ => ?_) (fun hc => absurd rfl hc)
        refine hk_Rn_cast ?_ (ih (j + 1) s5 (some (.int (hk_wat f bb j))) (some (.int (hk_tkn f bb j (hk_wlf f bb j)))) (by omega) h6 ?_)
        · rw [hk_wlf, if_pos hf, hk_skc, if_neg (fun e => hs e.2), ← nI_1]
          rfl
        · rw [hk_mrw_A2 hf hs]
          exact hR5
  obtain ⟨n, hn, en⟩ := h.2.2.2.2.2.2.1
  have es : s 21 n = hk_sea f := by
    unfold hk_sea
    rw [en, nI_clamp (by omega)]
    exact hR 20 n (1848 + n) (hk_lp8 hn rfl)
  have st : hk_Rn (d + 5) none hk_c29 (hk_sfx 41 hk_c29) [some (.ref 1), some (.int (hk_sea f)), some (.int (f 9)), some (.int 0), some (.int 0), none, none] [] (s, lm, hk_RH i0 i1 b, al) k := loop a 0 s none none (by omega) (fun _ _ _ _ => rfl) (by rw [hk_mrw_0]; exact hR)
  rw [← e9] at st
  refine hk_mth hk_m29 rfl rfl (n := 1000) ?_
  refine And.intro (fun hc => absurd hc (show ¬ s 1 12 < 0 by rw [e7, en]; exact nI_pos (by omega))) (fun _ => ?_)
  refine And.intro (fun hc => absurd hc (show ¬ nI 600 ≤ s 1 12 by rw [e7, en]; exact hk_nlt (by omega) (by omega))) (fun _ => ?_)
  refine hk_ldi (i := s 1 12) (j := n) (e7.trans en) (by omega) (by decide) es ?_
  exact st
theorem c_passMonthsX {m q : Nat} (hw : hk_TW s) (hR : hk_Rel s 1 f) (h : hk_RI f a bb r) (hq : f 7 = nI q) (hqm : q + m < 600) (h1 : ∀ s2, (∀ p q, p ≠ 3 → p ≠ 5 → ¬ (p = 1 ∧ q = 12) → s2 p q = s p q) → hk_Rel s2 1 (hk_mns f a bb m) → k (some (.int (nI (hk_sks f a bb m)))) (s2, lm, hk_RH i0 i1 b, al)) : hk_Cl (d + 7) 28 [.ref 1, .int (nI m)] (s, lm, hk_RH i0 i1 b, al) k := by
  have hS := hk_tw2 hw hR h
  have hP := hk_tw4 hw hR h
  have loop : ∀ (g j : Nat) (s3 : Nat → Nat → Int32), j + g = m → (∀ p q, p ≠ 3 → p ≠ 5 → ¬ (p = 1 ∧ q = 12) → s3 p q = s p q) → hk_Rel s3 1 (hk_mns f a bb j) → hk_Rn (d + 6) none hk_c28 (hk_sfx 4 hk_c28) [some (.ref 1), some (.int (nI m)), some (.int (nI (hk_sks f a bb j))), some (.int (nI j))] [] (s3, lm, hk_RH i0 i1 b, al) k := by
    intro g
    induction g with
    | zero =>
      intro j s3 hj h3 hR3
      have e : j = m := by omega
      subst e
      refine hk_hd (n := 1000) (t := 4) rfl ?_
      refine And.intro (fun _ => ?_) (fun hc => absurd (Int32.le_refl _) hc)
      exact h1 s3 h3 hR3
    | succ g ih =>
      intro j s3 hj h3 hR3
      have a1 : ¬ nI m ≤ nI j := hk_nlt (by omega) (by omega)
      obtain ⟨q1, q2⟩ := hk_RI_mns h hq j (by omega)
      refine hk_hd (n := 1000) (t := 4) rfl ?_
      refine And.intro (fun hc => absurd hc a1) (fun _ => ?_)
      refine c_passMonthX (hk_tw_f hS (fun q => h3 2 q (by omega) (by omega) (by omega))) (hk_tw_f hP (fun q => h3 4 q (by omega) (by omega) (by omega))) hR3 q1 (fun s4 h4 hR4 => ?_)
      refine hk_Rn_cast ?_ (ih (j + 1) s4 (by omega) (fun p q c1 c2 c3 => (h4 p q c1 c2 c3).trans (h3 p q c1 c2 c3)) hR4)
      rw [hk_sks, ← nI_add, ← nI_1]
      rfl
  refine hk_mth hk_m28 rfl rfl (n := 1000) ?_
  exact loop m 0 s (by omega) (fun _ _ _ _ _ => rfl) hR
theorem c_monthsX {q : Nat} (hw : hk_TW s) (hR : hk_Rel s 1 f) (h : hk_RI f a bb r) (hq : f 7 = nI q) (hb : ¬ (∃ m, v = nI m ∧ 1 ≤ m ∧ m ≤ 60 ∧ q + m < 600) → k (some (.int (-2))) (s, lm, hk_RH i0 i1 b, al)) (hg : ∀ m s2, v = nI m → 1 ≤ m → m ≤ 60 → q + m < 600 → (∀ p q, p ≠ 3 → p ≠ 5 → ¬ (p = 1 ∧ q = 12) → s2 p q = s p q) → hk_Rel s2 1 (hk_mns f a bb m) → k (some (.int (nI (hk_sks f a bb m)))) (s2, lm, hk_RH i0 i1 b, al)) (hq2 : q < 600) : hk_Cl (d + 8) 26 [.ref 0, .int v] (s, lm, hk_RH i0 i1 b, al) k := by
  have e7 : s 1 12 = nI q := (hR 0 12 7 (hk_lp6 (by omega) (by omega) (by omega))).trans hq
  refine hk_mth hk_m26 rfl rfl (n := 1000) ?_
  refine c_mayPass (fun a => ?_) (fun a1 => ?_)
  · refine And.intro (fun _ => ?_) (fun hc => absurd (by decide) hc)
    refine hb (fun ⟨m, em, m1, m2, m3⟩ => a ?_)
    subst em
    refine ⟨⟨?_, ?_⟩, ?_⟩
    · exact nI_nlt (b := 1) (by omega) (by omega)
    · exact nI_nlt (a := 60) (by omega) (by omega)
    · rw [e7, nI_add]
      exact nI_nlt (a := 599) (by omega) (by omega)
  refine And.intro (fun hc => absurd hc (by decide)) (fun _ => ?_)
  obtain ⟨m, hm, em⟩ := hk_rg1 (m := 60) (by decide) a1.1
  have hm1 : 1 ≤ m := by
    have h := a1.1.1
    rw [em] at h
    have h : ¬ nI m < nI 1 := h
    rw [nI_ltI (by omega) (by omega)] at h
    omega
  have hqm : q + m < 600 := by
    have h := a1.2
    rw [e7, em, nI_add] at h
    have h : ¬ nI 599 < nI (q + m) := h
    rw [nI_ltI (by omega) (by omega)] at h
    omega
  have hg2 := fun s2 => hg m s2 em hm1 hm hqm
  subst em
  exact c_passMonthsX hw hR h hq hqm hg2
/-! the reference -/
set_option maxHeartbeats 400000 in
theorem m_goes_176X {j m : Nat} {f3 : Nat → Int32} {e u wt wa : Int32} (hj : j < 6) {M : Nat} (hA : s 41 (20 + 10 * j) = nI M) (hM1 : 1 ≤ M) (hM2 : M ≤ 1000) (e3 : s 41 = f3) (n1 : f3 (20 + 10 * j + 1) < hk_lsV f3 j (wt - e) → ∀ s4, (∀ p q, p ≠ 41 → s4 p q = s p q) → s4 41 = hk_ud (hk_ud f3 (20 + 10 * j + 5) (wt - e)) (20 + 10 * j + 6) 1 → hk_Rn (d + 3) none hk_c151 (hk_sfx 90 hk_c151) [some (.ref 40), some (.int (e - e)), some (.int (u + 1)), some (.int (nI (j + 1))), some (.int wt), some (.int e)] [] (s4, lm, hk_RH i0 i1 b, al) k) (n0 : ¬ f3 (20 + 10 * j + 1) < hk_lsV f3 j (wt - e) → ∀ s4, (∀ p q, p ≠ 41 → s4 p q = s p q) → s4 41 = hk_ud f3 (20 + 10 * j + 5) (wt - e) → hk_Rn (d + 3) none hk_c151 (hk_sfx 90 hk_c151) [some (.ref 40), some (.int (e - e)), some (.int u), some (.int (nI (j + 1))), some (.int wt), some (.int e)] [] (s4, lm, hk_RH i0 i1 b, al) k) : hk_wp (d + 3) none hk_c151 k (m + 160) (hk_sfx 176 hk_c151) [some (.ref 40), some (.int e), some (.int u), some (.int (nI j)), some (.int wt), some (.int wa)] [] (s, lm, hk_RH i0 i1 b, al) := by
  refine hk_stn (i := 20 + 10 * nI j + 5) (j := 20 + 10 * j + 5) (by simp only [hk_lit, pk_mul, nI_add]) (by omega) (by decide) (fun s4 (hs4 : s4 = hk_u2 s 41 (20 + 10 * j + 5) (wt - e)) => ?_)
  have e4 : s4 41 = hk_ud f3 (20 + 10 * j + 5) (wt - e) := by rw [hs4, ← e3]; exact hk_u2f
  have f4 : ∀ p q, p ≠ 41 → s4 p q = s p q := fun p q hp => by rw [hs4, hk_u2o (by omega)]
  have hA4 : s4 41 (20 + 10 * j) = nI M := by rw [e4, hk_ud_o (by omega), ← e3]; exact hA
  have el : hk_lsV (s4 41) j (s4 41 (20 + 10 * j + 5)) = hk_lsV f3 j (wt - e) := by
    rw [e4, hk_ud_s]
    exact hk_lsV_c (hk_ud_o (by omega)) (hk_ud_o (by omega)) (hk_ud_o (by omega))
  have e1 : s4 41 (20 + 10 * j + 1) = f3 (20 + 10 * j + 1) := by rw [e4, hk_ud_o (by omega)]
  refine m_liesX (by omega) hA4 hM1 hM2 ?_
  refine m_shipOf (c := 1) (by omega) ?_
  refine And.intro (fun c2 => ?_) (fun c2 => ?_)
  · have c2 : hk_lsV (s4 41) j (s4 41 (20 + 10 * j + 5)) ≤ s4 41 (20 + 10 * j + 1) := c2
    rw [el, e1] at c2
    exact hk_Rn_cast (by rw [← nI_1 j]; rfl) (n0 (Int32.not_lt.mpr c2) s4 f4 e4)
  have c2 : ¬ hk_lsV (s4 41) j (s4 41 (20 + 10 * j + 5)) ≤ s4 41 (20 + 10 * j + 1) := c2
  rw [el, e1] at c2
  refine hk_stn (i := 20 + 10 * nI j + 6) (j := 20 + 10 * j + 6) (by simp only [hk_lit, pk_mul, nI_add]) (by omega) (by decide) (fun s5 (hs5 : s5 = hk_u2 s4 41 (20 + 10 * j + 6) 1) => ?_)
  exact hk_Rn_cast (by rw [← nI_1 j]; rfl) (n1 (Int32.not_le.mp c2) s5 (fun p q hp => by rw [hs5, hk_u2o (by omega)]; exact f4 p q hp) (by rw [hs5, ← e4]; exact hk_u2f))
set_option maxHeartbeats 400000 in
theorem m_goes_171X {j m : Nat} {f3 : Nat → Int32} {e u wt wa : Int32} (hj : j < 6) {M : Nat} (hA : s 41 (20 + 10 * j) = nI M) (hM1 : 1 ≤ M) (hM2 : M ≤ 1000) (e3 : s 41 = f3) (n1 : f3 (20 + 10 * j + 1) < hk_lsV f3 j (wt - wa) → ∀ s4, (∀ p q, p ≠ 41 → s4 p q = s p q) → s4 41 = hk_ud (hk_ud f3 (20 + 10 * j + 5) (wt - wa)) (20 + 10 * j + 6) 1 → hk_Rn (d + 3) none hk_c151 (hk_sfx 90 hk_c151) [some (.ref 40), some (.int (e - wa)), some (.int (u + 1)), some (.int (nI (j + 1))), some (.int wt), some (.int wa)] [] (s4, lm, hk_RH i0 i1 b, al) k) (n0 : ¬ f3 (20 + 10 * j + 1) < hk_lsV f3 j (wt - wa) → ∀ s4, (∀ p q, p ≠ 41 → s4 p q = s p q) → s4 41 = hk_ud f3 (20 + 10 * j + 5) (wt - wa) → hk_Rn (d + 3) none hk_c151 (hk_sfx 90 hk_c151) [some (.ref 40), some (.int (e - wa)), some (.int u), some (.int (nI (j + 1))), some (.int wt), some (.int wa)] [] (s4, lm, hk_RH i0 i1 b, al) k) : hk_wp (d + 3) none hk_c151 k (m + 160) (hk_sfx 171 hk_c151) [some (.ref 40), some (.int e), some (.int u), some (.int (nI j)), some (.int wt), some (.int wa)] [] (s, lm, hk_RH i0 i1 b, al) := by
  refine hk_stn (i := 20 + 10 * nI j + 5) (j := 20 + 10 * j + 5) (by simp only [hk_lit, pk_mul, nI_add]) (by omega) (by decide) (fun s4 (hs4 : s4 = hk_u2 s 41 (20 + 10 * j + 5) (wt - wa)) => ?_)
  have e4 : s4 41 = hk_ud f3 (20 + 10 * j + 5) (wt - wa) := by rw [hs4, ← e3]; exact hk_u2f
  have f4 : ∀ p q, p ≠ 41 → s4 p q = s p q := fun p q hp => by rw [hs4, hk_u2o (by omega)]
  have hA4 : s4 41 (20 + 10 * j) = nI M := by rw [e4, hk_ud_o (by omega), ← e3]; exact hA
  have el : hk_lsV (s4 41) j (s4 41 (20 + 10 * j + 5)) = hk_lsV f3 j (wt - wa) := by
    rw [e4, hk_ud_s]
    exact hk_lsV_c (hk_ud_o (by omega)) (hk_ud_o (by omega)) (hk_ud_o (by omega))
  have e1 : s4 41 (20 + 10 * j + 1) = f3 (20 + 10 * j + 1) := by rw [e4, hk_ud_o (by omega)]
  refine m_liesX (by omega) hA4 hM1 hM2 ?_
  refine m_shipOf (c := 1) (by omega) ?_
  refine And.intro (fun c2 => ?_) (fun c2 => ?_)
  · have c2 : hk_lsV (s4 41) j (s4 41 (20 + 10 * j + 5)) ≤ s4 41 (20 + 10 * j + 1) := c2
    rw [el, e1] at c2
    exact hk_Rn_cast (by rw [← nI_1 j]; rfl) (n0 (Int32.not_lt.mpr c2) s4 f4 e4)
  have c2 : ¬ hk_lsV (s4 41) j (s4 41 (20 + 10 * j + 5)) ≤ s4 41 (20 + 10 * j + 1) := c2
  rw [el, e1] at c2
  refine hk_stn (i := 20 + 10 * nI j + 6) (j := 20 + 10 * j + 6) (by simp only [hk_lit, pk_mul, nI_add]) (by omega) (by decide) (fun s5 (hs5 : s5 = hk_u2 s4 41 (20 + 10 * j + 6) 1) => ?_)
  exact hk_Rn_cast (by rw [← nI_1 j]; rfl) (n1 (Int32.not_le.mp c2) s5 (fun p q hp => by rw [hs5, hk_u2o (by omega)]; exact f4 p q hp) (by rw [hs5, ← e4]; exact hk_u2f))
theorem m_goesX {q : Nat} (h : hk_RI (s 41) a bb r) (hq : s 41 7 = nI q) (hq2 : q < 600) (h1 : ∀ s2, (∀ p q, p ≠ 41 → s2 p q = s p q) → s2 41 = hk_mnx (s 41) a bb → k (some (.int (nI (hk_skc (s 41) bb a)))) (s2, lm, hk_RH i0 i1 b, al)) : hk_Cl (d + 4) 151 [.ref 40] (s, lm, hk_RH i0 i1 b, al) k := by
  have ha := h.1.1
  have hb := h.1.2.1
  have esea : hk_sea (s 41) = s 41 (1848 + q) := by
    unfold hk_sea
    rw [hq, nI_clamp (by omega)]
  have l90 : ∀ (g j : Nat) (s3 : Nat → Nat → Int32) (l4 l5 : Option Value), j + g = a → (∀ p q, p ≠ 41 → s3 p q = s p q) → s3 41 = hk_mrw (s 41) bb a j → hk_Rn (d + 3) none hk_c151 (hk_sfx 90 hk_c151) [some (.ref 40), some (.int (hk_wlf (s 41) bb j)), some (.int (nI (hk_skc (s 41) bb j))), some (.int (nI j)), l4, l5] [] (s3, lm, hk_RH i0 i1 b, al) k := by
    intro g
    induction g with
    | zero =>
      intro j s3 l4 l5 hj h3 e3
      have ej : j = a := by omega
      subst ej
      have e0 : s3 41 0 = nI j := by rw [e3, hk_mrw_o (by omega) hb (by omega)]; exact h.2.1.1
      have e7 : s3 41 7 = s 41 7 := by rw [e3, hk_mrw_o (by omega) hb (by omega)]
      have fin := h1 (hk_u2 s3 41 7 (s 41 7 + 1)) (fun p q hp => by rw [hk_u2o (by omega)]; exact h3 p q hp) (by unfold hk_mnx; rw [← e3]; exact hk_u2f)
      rw [← e7] at fin
      refine hk_hd (n := 1000) (t := 90) rfl ?_
      refine hk_ldi (i := nI 0) (j := 0) (by simp only [hk_lit, pk_mul, nI_add]) (by omega) (by decide) e0 ?_
      refine And.intro (fun _ => ?_) (fun hc => absurd (Int32.le_refl _) hc)
      refine hk_ldi (i := nI 7) (j := 7) (by simp only [hk_lit, pk_mul, nI_add]) (by omega) (by decide) rfl ?_
      refine hk_sti (i := nI 7) (j := 7) rfl (by omega) (by decide) ?_
      exact fin
    | succ g ih =>
      intro j s3 l4 l5 hj h3 e3
      have a1 : ¬ nI a ≤ nI j := hk_nlt (by omega) (by omega)
      have o : ∀ c, c < 9 → s3 41 (20 + 10 * j + c) = s 41 (20 + 10 * j + c) := fun c hc => by
        rw [e3]
        exact hk_mrw_s (by omega) hc (Nat.le_refl _)
      have e0 : s3 41 0 = nI a := by rw [e3, hk_mrw_o (by omega) hb (by omega)]; exact h.2.1.1
      have e1 : s3 41 1 = nI bb := by rw [e3, hk_mrw_o (by omega) hb (by omega)]; exact h.2.1.2.1
      have e7 : s3 41 7 = nI q := by rw [e3, hk_mrw_o (by omega) hb (by omega)]; exact hq
      have esq : s3 41 (1848 + q) = hk_sea (s 41) := by rw [esea, e3, hk_mrw_o (by omega) hb (by omega)]
      obtain ⟨⟨M, hM1, hM2, hA⟩, _, _⟩ := (hk_RI_P h).2.1 a ha h.2.1.1 j (by omega)
      have hA3 : s3 41 (20 + 10 * j) = nI M := (o 0 (by omega)).trans hA
      have el : ∀ v, hk_lsV (hk_mrw (s 41) bb a j) j v = hk_lsV (s 41) j v := fun v => by
        rw [← e3]
        exact hk_lsV_c (o 0 (by omega)) (o 2 (by omega)) (o 4 (by omega))
      have e31 : hk_mrw (s 41) bb a j (20 + 10 * j + 1) = s 41 (20 + 10 * j + 1) := by
        rw [← e3]
        exact o 1 (by omega)
      refine hk_hd (n := 1000) (t := 90) rfl ?_
      refine hk_ldi (i := nI 0) (j := 0) (by simp only [hk_lit, pk_mul, nI_add]) (by omega) (by decide) e0 ?_
      refine And.intro (fun hc => absurd hc a1) (fun _ => ?_)
      refine m_shipOf (c := 6) (by omega) ?_
      refine And.intro (fun c1 => ?_) (fun c1 => ?_)
      · have c1 : ¬ s3 41 (20 + 10 * j + 6) = 0 := c1
        rw [o 6 (by omega)] at c1
        refine hk_Rn_cast ?_ (ih (j + 1) s3 l4 l5 (by omega) h3 (by rw [hk_mrw_A1 c1]; exact e3))
        rw [hk_wlf, if_neg c1, hk_skc, if_neg (fun e => c1 e.1), ← nI_1 j]
        rfl
      have c1 : ¬ ¬ s3 41 (20 + 10 * j + 6) = 0 := c1
      rw [o 6 (by omega)] at c1
      have hf := Classical.not_not.mp c1
      have n1 : ∀ {e wa : Int32}, e = hk_wlf (s 41) bb j → wa = hk_tkn (s 41) bb j (hk_wlf (s 41) bb j) → hk_mrw (s 41) bb a j (20 + 10 * j + 1) < hk_lsV (hk_mrw (s 41) bb a j) j (hk_wat (s 41) bb j - wa) → ∀ s4, (∀ p q, p ≠ 41 → s4 p q = s3 p q) → s4 41 = hk_ud (hk_ud (hk_mrw (s 41) bb a j) (20 + 10 * j + 5) (hk_wat (s 41) bb j - wa)) (20 + 10 * j + 6) 1 → hk_Rn (d + 3) none hk_c151 (hk_sfx 90 hk_c151) [some (.ref 40), some (.int (e - wa)), some (.int (nI (hk_skc (s 41) bb j) + 1)), some (.int (nI (j + 1))), some (.int (hk_wat (s 41) bb j)), some (.int wa)] [] (s4, lm, hk_RH i0 i1 b, al) k := fun {e wa} ee ew hs s4 f4 e4 => by
        subst ee ew
        rw [el, e31] at hs
        refine hk_Rn_cast ?_ (ih (j + 1) s4 (some (.int (hk_wat (s 41) bb j))) (some (.int (hk_tkn (s 41) bb j (hk_wlf (s 41) bb j)))) (by omega) (fun p q hp => (f4 p q hp).trans (h3 p q hp)) (by rw [hk_mrw_A3 hf hs]; exact e4))
        rw [hk_wlf, if_pos hf, hk_skc, if_pos ⟨hf, hs⟩, ← nI_1 (hk_skc (s 41) bb j)]
      have n0 : ∀ {e wa : Int32}, e = hk_wlf (s 41) bb j → wa = hk_tkn (s 41) bb j (hk_wlf (s 41) bb j) → ¬ hk_mrw (s 41) bb a j (20 + 10 * j + 1) < hk_lsV (hk_mrw (s 41) bb a j) j (hk_wat (s 41) bb j - wa) → ∀ s4, (∀ p q, p ≠ 41 → s4 p q = s3 p q) → s4 41 = hk_ud (hk_mrw (s 41) bb a j) (20 + 10 * j + 5) (hk_wat (s 41) bb j - wa) → hk_Rn (d + 3) none hk_c151 (hk_sfx 90 hk_c151) [some (.ref 40), some (.int (e - wa)), some (.int (nI (hk_skc (s 41) bb j))), some (.int (nI (j + 1))), some (.int (hk_wat (s 41) bb j)), some (.int wa)] [] (s4, lm, hk_RH i0 i1 b, al) k := fun {e wa} ee ew hs s4 f4 e4 => by
        subst ee ew
        rw [el, e31] at hs
        refine hk_Rn_cast ?_ (ih (j + 1) s4 (some (.int (hk_wat (s 41) bb j))) (some (.int (hk_tkn (s 41) bb j (hk_wlf (s 41) bb j)))) (by omega) (fun p q hp => (f4 p q hp).trans (h3 p q hp)) (by rw [hk_mrw_A2 hf hs]; exact e4))
        rw [hk_wlf, if_pos hf, hk_skc, if_neg (fun e => hs e.2)]
      have elk : hk_lkS (s3 41) (fun p => s3 41 (80 + 6 * p + 2)) (nI j) bb = hk_lkS (s 41) (fun p => hk_thk (s 41) p 1) (nI j) bb := by
        rw [e3]
        exact hk_lk_m h (by omega) hf
      have etk : ∀ x, x = hk_mn2 (hk_wat (s 41) bb j) (s 41 (20 + 10 * j + 3)) → (x < hk_wlf (s 41) bb j → x = hk_tkn (s 41) bb j (hk_wlf (s 41) bb j)) ∧ (¬ x < hk_wlf (s 41) bb j → hk_wlf (s 41) bb j = hk_tkn (s 41) bb j (hk_wlf (s 41) bb j)) := fun x ex => by
        unfold hk_tkn
        rw [← ex, ← hk_mn2_lt (x := x)]
        exact ⟨fun q => by rw [if_pos q], fun q => by rw [if_neg q]⟩
      refine m_shipOf (s := s3) (c := 5) (by omega) ?_
      rw [o 5 (by omega)]
      refine m_leaksX2 (s := s3) e1 hb ?_
      rw [elk]
      refine hk_ldi (i := nI 7) (j := 7) (by simp only [hk_lit, pk_mul, nI_add]) (by omega) (by decide) e7 ?_
      refine hk_ldi (i := 1848 + nI q) (j := 1848 + q) (by simp only [hk_lit, pk_mul, nI_add]) (by omega) (by decide) esq ?_
      refine m_shipOf (c := 3) (by omega) ?_
      refine And.intro (fun c2 => ?_) (fun c2 => ?_)
      · have c2 : s3 41 (20 + 10 * j + 3) ≤ hk_wat (s 41) bb j := c2
        rw [o 3 (by omega)] at c2
        refine m_shipOf (s := s3) (c := 3) (by omega) ?_
        rw [o 3 (by omega)]
        have ex : s 41 (20 + 10 * j + 3) = hk_mn2 (hk_wat (s 41) bb j) (s 41 (20 + 10 * j + 3)) := by
          rw [← hk_mn2_lt, if_neg (Int32.not_lt.mpr c2)]
        refine And.intro (fun c3 => ?_) (fun c3 => ?_)
        · have c3 : hk_wlf (s 41) bb j ≤ s 41 (20 + 10 * j + 3) := c3
          have et := (etk _ ex).2 (Int32.not_lt.mpr c3)
          exact m_goes_176X (s := s3) (by omega) hA3 hM1 hM2 e3 (n1 rfl et) (n0 rfl et)
        · have c3 : ¬ hk_wlf (s 41) bb j ≤ s 41 (20 + 10 * j + 3) := c3
          have et := (etk _ ex).1 (Int32.not_le.mp c3)
          exact m_goes_171X (s := s3) (by omega) hA3 hM1 hM2 e3 (n1 rfl et) (n0 rfl et)
      · have c2 : ¬ s3 41 (20 + 10 * j + 3) ≤ hk_wat (s 41) bb j := c2
        rw [o 3 (by omega)] at c2
        have ex : hk_wat (s 41) bb j = hk_mn2 (hk_wat (s 41) bb j) (s 41 (20 + 10 * j + 3)) := by
          rw [← hk_mn2_lt, if_pos (Int32.not_le.mp c2)]
        refine And.intro (fun c3 => ?_) (fun c3 => ?_)
        · have c3 : hk_wlf (s 41) bb j ≤ hk_wat (s 41) bb j := c3
          have et := (etk _ ex).2 (Int32.not_lt.mpr c3)
          exact m_goes_176X (s := s3) (by omega) hA3 hM1 hM2 e3 (n1 rfl et) (n0 rfl et)
        · have c3 : ¬ hk_wlf (s 41) bb j ≤ hk_wat (s 41) bb j := c3
          have et := (etk _ ex).1 (Int32.not_le.mp c3)
          exact m_goes_171X (s := s3) (by omega) hA3 hM1 hM2 e3 (n1 rfl et) (n0 rfl et)
  have l2 : ∀ (g j : Nat) (s3 : Nat → Nat → Int32) (lx : Option Value), j + g = bb → (∀ p q, p ≠ 41 → s3 p q = s p q) → s3 41 = hk_g1 (s 41) j → hk_Rn (d + 3) none hk_c151 (hk_sfx 2 hk_c151) [some (.ref 40), some (.int (nI j)), lx, none, none, none] [] (s3, lm, hk_RH i0 i1 b, al) k := by
    intro g
    induction g with
    | zero =>
      intro j s3 lx hj h3 e3
      have ej : j = bb := by omega
      have e1 : s3 41 1 = nI j := by
        rw [e3, ej]
        unfold hk_g1
        rw [hk_wP_o (by omega)]
        exact h.2.1.2.1
      have e9 : s3 41 9 = hk_wlf (s 41) bb 0 := by
        rw [e3]
        unfold hk_g1
        rw [hk_wP_o (by omega)]
        rfl
      rw [ej, hk_g1_e h] at e3
      refine hk_hd (n := 1000) (t := 2) rfl ?_
      refine hk_ldi (i := nI 1) (j := 1) (by simp only [hk_lit, pk_mul, nI_add]) (by omega) (by decide) e1 ?_
      refine And.intro (fun _ => ?_) (fun hc => absurd (Int32.le_refl _) hc)
      refine hk_ldi (i := nI 9) (j := 9) (by simp only [hk_lit, pk_mul, nI_add]) (by omega) (by decide) e9 ?_
      exact l90 a 0 s3 none none (by omega) h3 e3
    | succ g ih =>
      intro j s3 lx hj h3 e3
      have a1 : ¬ nI bb ≤ nI j := hk_nlt (by omega) (by omega)
      obtain ⟨⟨i, hi, ei⟩, ⟨z, hz, ez⟩⟩ := h.2.2.2.2.1 j (by omega)
      have o : ∀ q, ¬ (80 ≤ q ∧ q < 80 + 6 * j ∧ q % 6 = 4) → s3 41 q = s 41 q := fun q hq => by
        rw [e3]
        unfold hk_g1
        exact hk_wP_o hq
      have e1 : s3 41 1 = nI bb := (o 1 (by omega)).trans h.2.1.2.1
      have ei' : s3 41 (80 + 6 * j + 0) = nI i := (o _ (by omega)).trans ei
      have eP : (s 41 (20 + 10 * (s 41 (80 + 6 * j)).toNatClampNeg + 6) = 0) = (s 41 (20 + 10 * i + 6) = 0) := by rw [ei, nI_clamp (by omega)]
      have ewr : hk_wrP (s 41) j = s3 41 (12 + z) := by
        unfold hk_wrP hk_zn
        rw [ez, nI_clamp (by omega), o _ (by omega)]
      have eth : hk_thk (s 41) j 1 = hk_mx0 (s3 41 (80 + 6 * j + 2) - s3 41 (12 + z)) := by
        unfold hk_thk
        rw [ewr, o (80 + 6 * j + 2) (by omega), Int32.one_mul]
      have nx : ∀ (s4 : Nat → Nat → Int32) (u v2 : Int32), s4 = hk_u2 s3 41 (80 + 6 * j + 2) u → u = hk_thk (s 41) j 1 → s 41 (20 + 10 * i + 6) = 0 → hk_Rn (d + 3) none hk_c151 (hk_sfx 2 hk_c151) [some (.ref 40), some (.int (nI j + 1)), some (.int v2), none, none, none] [] (s4, lm, hk_RH i0 i1 b, al) k := fun s4 u v2 e4 eu hf => hk_Rn_cast (by rw [nI_1]) (ih (j + 1) s4 _ (by omega) (fun p q hp => by rw [e4, hk_u2o (by omega)]; exact h3 p q hp) (by
        unfold hk_g1
        rw [hk_wP_y (eP ▸ hf), e4, ← eu]
        unfold hk_g1 at e3
        rw [← e3]
        exact hk_u2f))
      refine hk_hd (n := 1000) (t := 2) rfl ?_
      refine hk_ldi (i := nI 1) (j := 1) (by simp only [hk_lit, pk_mul, nI_add]) (by omega) (by decide) e1 ?_
      refine And.intro (fun hc => absurd hc a1) (fun _ => ?_)
      refine m_plateOf (c := 0) (by omega) ?_
      refine hk_Cl_arg (show [Value.ref 40, .int (s3 41 (80 + 6 * j + 0)), .int 6] = [Value.ref 40, .int (nI i), .int (nI 6)] by rw [ei']; rfl) ?_
      refine m_shipOf (c := 6) (by omega) ?_
      refine And.intro (fun c1 => ?_) (fun c1 => ?_)
      · have c1 : ¬ s3 41 (20 + 10 * i + 6) = 0 := c1
        rw [o _ (by omega)] at c1
        exact hk_Rn_cast (by rw [← nI_1 j]; rfl) (ih (j + 1) s3 lx (by omega) h3 (by unfold hk_g1; rw [hk_wP_n (by rw [eP]; exact c1)]; exact e3))
      have c1 : ¬ ¬ s3 41 (20 + 10 * i + 6) = 0 := c1
      rw [o _ (by omega)] at c1
      have hf := Classical.not_not.mp c1
      refine m_plateOf (c := 2) (by omega) ?_
      refine m_plateOf (c := 1) (by omega) ?_
      refine hk_ldi (i := 12 + s3 41 (80 + 6 * j + 1)) (j := 12 + z) (by rw [o _ (by omega), ez]; exact nI_add 12 z) (by omega) (by decide) rfl ?_
      refine And.intro (fun c2 => ?_) (fun c2 => ?_)
      · have c2 : 0 ≤ s3 41 (80 + 6 * j + 2) - s3 41 (12 + z) := c2
        refine hk_stn (i := 80 + 6 * nI j + 2) (j := 80 + 6 * j + 2) (by simp only [hk_lit, pk_mul, nI_add]) (by omega) (by decide) (fun s4 (hs4 : s4 = hk_u2 s3 41 (80 + 6 * j + 2) (s3 41 (80 + 6 * j + 2) - s3 41 (12 + z))) => ?_)
        refine nx s4 _ (s3 41 (80 + 6 * j + 2) - s3 41 (12 + z)) hs4 ?_ hf
        rw [eth]
        by_cases cz : 0 < s3 41 (80 + 6 * j + 2) - s3 41 (12 + z)
        · rw [hk_mx0_p cz]
        · rw [hk_mx0_n cz]
          exact Int32.le_antisymm (Int32.not_lt.mp cz) c2
      · have c2 : ¬ 0 ≤ s3 41 (80 + 6 * j + 2) - s3 41 (12 + z) := c2
        refine hk_stn (i := 80 + 6 * nI j + 2) (j := 80 + 6 * j + 2) (by simp only [hk_lit, pk_mul, nI_add]) (by omega) (by decide) (fun s4 (hs4 : s4 = hk_u2 s3 41 (80 + 6 * j + 2) 0) => ?_)
        refine nx s4 _ (s3 41 (80 + 6 * j + 2) - s3 41 (12 + z)) hs4 ?_ hf
        rw [eth, hk_mx0_n (fun q => c2 (Int32.le_of_lt q))]
  refine hk_mth hk_m151 rfl rfl (n := 1000) ?_
  exact l2 bb 0 s none (by omega) (fun _ _ _ => rfl) (by unfold hk_g1; rw [hk_wP_0])
theorem m_monthsX {q : Nat} (h : hk_RI (s 41) a bb r) (hq : s 41 7 = nI q) (hq2 : q < 600) (hb : ¬ (∃ m, v = nI m ∧ 1 ≤ m ∧ m ≤ 60 ∧ q + m < 600) → k (some (.int (-2))) (s, lm, hk_RH i0 i1 b, al)) (hg : ∀ m s2, v = nI m → 1 ≤ m → m ≤ 60 → q + m < 600 → (∀ p q, p ≠ 41 → s2 p q = s p q) → s2 41 = hk_mns (s 41) a bb m → k (some (.int (nI (hk_sks (s 41) a bb m)))) (s2, lm, hk_RH i0 i1 b, al)) : hk_Cl (d + 5) 149 [.ref 40, .int v] (s, lm, hk_RH i0 i1 b, al) k := by
  refine hk_mth hk_m149 rfl rfl (n := 1000) ?_
  refine m_isAhead (fun a => ?_) (fun a1 => ?_)
  · refine And.intro (fun hc => absurd hc (by decide)) (fun _ => ?_)
    refine hb (fun ⟨m, em, m1, m2, m3⟩ => a ?_)
    subst em
    refine ⟨⟨?_, ?_⟩, ?_⟩
    · exact nI_nlt (b := 1) (by omega) (by omega)
    · exact nI_nlt (a := 60) (by omega) (by omega)
    · rw [hq, nI_add]
      exact nI_nlt (a := 599) (by omega) (by omega)
  refine And.intro (fun _ => ?_) (fun hc => absurd (by decide) hc)
  obtain ⟨m, hm, em⟩ := hk_rg1 (m := 60) (by decide) a1.1
  have hm1 : 1 ≤ m := by
    have h := a1.1.1
    rw [em] at h
    have h : ¬ nI m < nI 1 := h
    rw [nI_ltI (by omega) (by omega)] at h
    omega
  have hqm : q + m < 600 := by
    have h := a1.2
    rw [hq, em, nI_add] at h
    have h : ¬ nI 599 < nI (q + m) := h
    rw [nI_ltI (by omega) (by omega)] at h
    omega
  have hg2 := fun s2 => hg m s2 em hm1 hm hqm
  subst em
  have loop : ∀ (g j : Nat) (s3 : Nat → Nat → Int32), j + g = m → (∀ p q, p ≠ 41 → s3 p q = s p q) → s3 41 = hk_mns (s 41) a bb j → hk_Rn (d + 4) none hk_c149 (hk_sfx 15 hk_c149) [some (.ref 40), some (.int (nI m)), some (.int (nI (hk_sks (s 41) a bb j))), some (.int (nI j))] [] (s3, lm, hk_RH i0 i1 b, al) k := by
    intro g
    induction g with
    | zero =>
      intro j s3 hj h3 e3
      have e1 : j = m := by omega
      subst e1
      refine hk_hd (n := 1000) (t := 15) rfl ?_
      refine And.intro (fun _ => ?_) (fun hc => absurd (Int32.le_refl _) hc)
      exact hg2 s3 h3 e3
    | succ g ih =>
      intro j s3 hj h3 e3
      have b1 : ¬ nI m ≤ nI j := hk_nlt (by omega) (by omega)
      obtain ⟨q1, q2⟩ := hk_RI_mns h hq j (by omega)
      rw [← e3] at q1 q2
      refine hk_hd (n := 1000) (t := 15) rfl ?_
      refine And.intro (fun hc => absurd hc b1) (fun _ => ?_)
      refine m_goesX q1 q2 (by omega) (fun s4 f4 e4 => ?_)
      rw [e3] at e4 ⊢
      refine hk_Rn_cast ?_ (ih (j + 1) s4 (by omega) (fun p q hp => (f4 p q hp).trans (h3 p q hp)) e4)
      rw [hk_sks, ← nI_add, ← nI_1 j]
      rfl
  exact loop m 0 s (by omega) (fun _ _ _ => rfl) rfl
theorem q_monthsE : hk_SI 26 149 [.int v] True := by
  rintro h ⟨s, lm, i0, i1, b, al, rfl, hc, hi⟩
  obtain ⟨a, bb, r, hr⟩ := hi.2.2.1
  obtain ⟨q, hq2, hq⟩ := hr.2.2.2.2.2.2.1
  refine c_monthsX (d := 992) hi.1 hi.2.1 hr hq (fun hb => ⟨_, rfl, m_monthsX (d := 995) hr hq hq2 (fun _ => ⟨_, rfl, fun _ => rfl, hk_Inv_mk hc hi⟩) (fun m s2 q1 q2 q3 q4 _ _ => absurd ⟨m, q1, q2, q3, q4⟩ hb)⟩) (fun m s2 q1 q2 q3 q4 f2 hR2 => ⟨_, rfl, ?_⟩) hq2
  have e41 : s2 41 = s 41 := funext fun q => f2 41 q (by omega) (by omega) (by omega)
  refine m_monthsX (d := 995) (a := a) (bb := bb) (r := r) (by rw [e41]; exact hr) (by rw [e41]; exact hq) hq2 (fun hb => absurd ⟨m, q1, q2, q3, q4⟩ hb) (fun m2 s3 r1 r2 r3 r4 f3 e3 => ⟨_, rfl, fun _ => ?_, hk_Inv_mk hc ?_⟩)
  · have e1 := hk_same q1 r1 (by omega) (by omega)
    rw [e41, e1]
  · have e1 := hk_same q1 r1 (by omega) (by omega)
    subst e1
    rw [e41] at e3
    exact hk_IS_fin hi (hk_TW_fr hi.1 (fun t q ht => f2 t q (by have := hk_tb35 ht; omega) (by have := hk_tb35 ht; omega) (by have := hk_tb35 ht; unfold hk_tb at ht; omega))) hR2 (fun p q h1 h2 => f2 p q (by omega) (by omega) (by omega)) (fun p q hp => f3 p q (by omega)) (fun q _ => by rw [e3]) ⟨_, _, _, (hk_RI_mns hr hq m2 r4).1⟩
end HKEO
