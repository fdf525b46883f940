/-! ===== the planner lays out, makes, tells ===== -/
section HKPG
variable {d n a bb r : Nat} {v w x z : Int32} {s : Nat → Nat → Int32} {lm : Nat → Nat → Int64} {i0 i1 b : Nat} {al : List Nat} {k : Option Value → hk_H → Prop} {hp : hk_H} {fl gn cn : Nat → Nat} {N D I X y : Nat}
theorem c_usefulX (H : hk_HC s fl gn cn N D I) {i : Nat} (hi : i < N) (h1 : k (some (.int (nI (hk_pnd fl gn i)))) (s, lm, hk_RH i0 i1 b, al)) : hk_Cl (d + 2) 84 [.ref 29, .int (nI i)] (s, lm, hk_RH i0 i1 b, al) k := by
  have hN := hk_HC_N H
  have h6 := H.2.2.2.2.2 i hi
  have ef : hk_e4 fl N i = fl i := if_pos hi
  have eg : hk_e4 gn N i = gn i := if_pos hi
  have g1 := h6.2.2.2.2.2.2
  unfold hk_pnd at h1
  refine hk_mth hk_m84 rfl rfl (n := 1000) ?_
  refine c_hF H (by omega) ?_
  rw [ef]
  refine c_hG H (by omega) ?_
  rw [eg]
  refine And.intro (fun c1 => ?_) (fun c1 => ?_)
  · have c1 : nI (fl i) ≤ nI 0 := c1
    rw [nI_leI (by omega) (by omega)] at c1
    rw [if_pos (Or.inl (by omega))] at h1
    exact h1
  have c1 : ¬ nI (fl i) ≤ nI 0 := c1
  rw [nI_leI (by omega) (by omega)] at c1
  refine And.intro (fun c2 => ?_) (fun c2 => ?_)
  · have c2 : nI 10 ≤ nI (fl i) := c2
    rw [nI_leI (by omega) (by omega)] at c2
    rw [if_pos (Or.inr c2)] at h1
    exact h1
  have c2 : ¬ nI 10 ≤ nI (fl i) := c2
  rw [nI_leI (by omega) (by omega)] at c2
  rw [if_neg (by omega)] at h1
  have e1 : nI 10 - nI (fl i) + nI (gn i) - nI 1 = nI (10 - fl i + gn i - 1) := by
    rw [pk_sub (by omega), nI_add, pk_sub (by omega)]
  rw [← pk_div (by omega) (by omega) (by omega), ← e1] at h1
  refine And.intro (fun _ => ?_) (fun hc => absurd (show (0 : Int32) < nI (gn i) from nI_lt (a := 0) (by omega) (by omega)) hc)
  refine And.intro (nI_ne0 (by omega) (by omega)) ?_
  exact h1
set_option maxHeartbeats 1000000 in
theorem c_layOutX (H : hk_HC s fl gn cn N D I) (h1 : ∀ s2, hk_F29 s s2 → (∀ q, q ≠ 7 → s2 29 q = s 29 q) → hk_Ly s2 fl gn cn N → k none (s2, lm, hk_RH i0 i1 b, al)) : hk_Cl (d + 3) 83 [.ref 29] (s, lm, hk_RH i0 i1 b, al) k := by
  have hN := hk_HC_N H
  have hg := hk_HC_g H
  have l76 : ∀ (g j : Nat) (s3 : Nat → Nat → Int32) (l2 : Option Value), j + g = 16 → hk_F29 s s3 → (∀ q, q ≠ 7 → s3 29 q = s 29 q) → s3 29 7 = nI (hk_sd fl gn N 4) → (∀ i, i < 4 → s3 30 i = nI (hk_n4 fl gn N i)) → (∀ i, i < 4 → s3 31 i = nI (hk_sd fl gn N i)) → (∀ i, i < j → s3 32 i = nI (hk_sb (hk_sd fl gn N) i 4)) → (∀ i, i < j → s3 33 i = nI (hk_sb (hk_e4 cn N) i 4)) → hk_Rn (d + 2) none hk_c83 (hk_sfx 76 hk_c83) [some (.ref 29), some (.int (nI j)), l2] [] (s3, lm, hk_RH i0 i1 b, al) k := by
    intro g
    induction g with
    | zero =>
      intro j s3 l2 hj h3 h4 e7 e30 e31 e32 e33
      have e : j = 16 := by omega
      subst e
      refine hk_hd (n := 1000) (t := 76) rfl ?_
      refine And.intro (fun _ => ?_) (fun hc => absurd (show (16 : Int32) ≤ nI 16 by decide) hc)
      exact h1 s3 h3 h4 ⟨e7, e30, e31, e32, e33⟩
    | succ g ih =>
      intro j s3 l2 hj h3 h4 e7 e30 e31 e32 e33
      have b1 : ¬ nI 16 ≤ nI j := hk_nlt (by omega) (by omega)
      have l98 : ∀ (g i : Nat) (s3 : Nat → Nat → Int32), i + g = 4 → hk_F29 s s3 → (∀ q, q ≠ 7 → s3 29 q = s 29 q) → s3 29 7 = nI (hk_sd fl gn N 4) → (∀ i, i < 4 → s3 30 i = nI (hk_n4 fl gn N i)) → (∀ i, i < 4 → s3 31 i = nI (hk_sd fl gn N i)) → (∀ i, i < j → s3 32 i = nI (hk_sb (hk_sd fl gn N) i 4)) → (∀ i, i < j → s3 33 i = nI (hk_sb (hk_e4 cn N) i 4)) → s3 32 j = nI (hk_sb (hk_sd fl gn N) j i) → s3 33 j = nI (hk_sb (hk_e4 cn N) j i) → hk_Rn (d + 2) none hk_c83 (hk_sfx 98 hk_c83) [some (.ref 29), some (.int (nI j)), some (.int (nI i))] [] (s3, lm, hk_RH i0 i1 b, al) k := by
        intro g
        induction g with
        | zero =>
          intro i s3 hi h3 h4 e7 e30 e31 e32 e33 f32 f33
          have e : i = 4 := by omega
          subst e
          refine hk_hd (n := 1000) (t := 98) rfl ?_
          refine And.intro (fun _ => ?_) (fun hc => absurd (show (4 : Int32) ≤ nI 4 by decide) hc)
          refine hk_Rn_cast (by rw [← nI_1 j]; rfl) (ih (j + 1) s3 (some (.int (nI 4))) (by omega) h3 h4 e7 e30 e31 (fun i hi => ?_) (fun i hi => ?_))
          · by_cases e : i = j
            · rw [e]
              exact f32
            · exact e32 i (by omega)
          · by_cases e : i = j
            · rw [e]
              exact f33
            · exact e33 i (by omega)
        | succ g ih2 =>
          intro i s3 hi h3 h4 e7 e30 e31 e32 e33 f32 f33
          have b2 : ¬ nI 4 ≤ nI i := hk_nlt (by omega) (by omega)
          have eb := hk_bit (set := j) (h := i) (by omega) (by omega)
          have v31 := e31 i (by omega)
          refine hk_hd (n := 1000) (t := 98) rfl ?_
          refine And.intro (fun hc => absurd hc b2) (fun _ => ?_)
          refine And.intro (fun c1 => ?_) (fun c1 => ?_)
          · have c1 : ¬ (nI j >>> (nI i &&& 31)) &&& 1 = nI 1 := c1
            rw [eb, nI_eq (by omega) (by omega)] at c1
            refine hk_Rn_cast (by rw [← nI_1]; rfl) (ih2 (i + 1) s3 (by omega) h3 h4 e7 e30 e31 e32 e33 ?_ ?_)
            · rw [hk_sb, if_neg c1]
              exact f32
            · rw [hk_sb, if_neg c1]
              exact f33
          have c1 : ¬ ¬ (nI j >>> (nI i &&& 31)) &&& 1 = nI 1 := c1
          rw [eb, nI_eq (by omega) (by omega), Classical.not_not] at c1
          refine hk_ldi (i := nI j) (j := j) (by simp only [hk_lit, pk_mul, nI_add]) (by omega) (by decide) f32 ?_
          refine hk_ldi (i := nI i) (j := i) (by simp only [hk_lit, pk_mul, nI_add]) (by omega) (by decide) v31 ?_
          refine hk_stn (i := nI j) (j := j) (by simp only [hk_lit, pk_mul, nI_add]) (by omega) (by decide) (fun s4 (hs4 : s4 = hk_u2 s3 32 (j) (nI (hk_sb (hk_sd fl gn N) j i) + nI (hk_sd fl gn N i))) => ?_)
          have h5 : hk_F29 s s4 := by rw [hs4]; exact hk_F29_u h3 (by omega)
          have H4 : hk_HC s4 fl gn cn N D I := hk_HC_fr H (fun p q hp => h5 p q (by omega) (by omega))
          have f33' : s4 33 j = nI (hk_sb (hk_e4 cn N) j i) := by rw [hs4, hk_u2o (by omega)]; exact f33
          refine hk_ldi (i := nI j) (j := j) (by simp only [hk_lit, pk_mul, nI_add]) (by omega) (by decide) f33' ?_
          refine c_hC H4 (by omega) ?_
          refine hk_stn (i := nI j) (j := j) (by simp only [hk_lit, pk_mul, nI_add]) (by omega) (by decide) (fun s5 (hs5 : s5 = hk_u2 s4 33 (j) (nI (hk_sb (hk_e4 cn N) j i) + nI (hk_e4 cn N i))) => ?_)
          have o : ∀ p q, p ≠ 32 → p ≠ 33 → s5 p q = s3 p q := fun p q q1 q2 => by rw [hs5, hk_u2o (by omega), hs4, hk_u2o (by omega)]
          refine hk_Rn_cast (by rw [← nI_1]; rfl) (ih2 (i + 1) s5 (by omega) (by rw [hs5]; exact hk_F29_u h5 (by omega)) (fun q hq => (o 29 q (by omega) (by omega)).trans (h4 q hq)) ((o 29 7 (by omega) (by omega)).trans e7) (fun i hi => (o 30 i (by omega) (by omega)).trans (e30 i hi)) (fun i hi => (o 31 i (by omega) (by omega)).trans (e31 i hi)) (fun i hi => ?_) (fun i hi => ?_) ?_ ?_)
          · rw [hs5, hk_u2o (by omega), hs4, hk_u2o (by omega)]
            exact e32 i hi
          · rw [hs5, hk_u2o (by omega), hs4, hk_u2o (by omega)]
            exact e33 i hi
          · rw [hs5, hk_u2o (by omega), hs4, hk_u2s, hk_sb, if_pos c1, nI_add]
          · rw [hs5, hk_u2s, hk_sb, if_pos c1, nI_add]
      refine hk_hd (n := 1000) (t := 76) rfl ?_
      refine And.intro (fun hc => absurd hc b1) (fun _ => ?_)
      refine hk_stn (i := nI j) (j := j) (by simp only [hk_lit, pk_mul, nI_add]) (by omega) (by decide) (fun s4 (hs4 : s4 = hk_u2 s3 32 (j) 0) => ?_)
      refine hk_stn (i := nI j) (j := j) (by simp only [hk_lit, pk_mul, nI_add]) (by omega) (by decide) (fun s5 (hs5 : s5 = hk_u2 s4 33 (j) 0) => ?_)
      have o : ∀ p q, p ≠ 32 → p ≠ 33 → s5 p q = s3 p q := fun p q q1 q2 => by rw [hs5, hk_u2o (by omega), hs4, hk_u2o (by omega)]
      refine l98 4 0 s5 (by omega) (by rw [hs5, hs4]; exact hk_F29_u (hk_F29_u h3 (by omega)) (by omega)) (fun q hq => (o 29 q (by omega) (by omega)).trans (h4 q hq)) ((o 29 7 (by omega) (by omega)).trans e7) (fun i hi => (o 30 i (by omega) (by omega)).trans (e30 i hi)) (fun i hi => (o 31 i (by omega) (by omega)).trans (e31 i hi)) (fun i hi => ?_) (fun i hi => ?_) ?_ ?_
      · rw [hs5, hk_u2o (by omega), hs4, hk_u2o (by omega)]
        exact e32 i hi
      · rw [hs5, hk_u2o (by omega), hs4, hk_u2o (by omega)]
        exact e33 i hi
      · rw [hs5, hk_u2o (by omega), hs4, hk_u2s]
        rfl
      · rw [hs5, hk_u2s]
        rfl
  have l7 : ∀ (g i : Nat) (s3 : Nat → Nat → Int32), i + g = 4 → hk_F29 s s3 → (∀ q, q ≠ 7 → s3 29 q = s 29 q) → s3 29 7 = nI (hk_sd fl gn N i) → (∀ j, j < i → s3 30 j = nI (hk_n4 fl gn N j)) → (∀ j, j < i → s3 31 j = nI (hk_sd fl gn N j)) → hk_Rn (d + 2) none hk_c83 (hk_sfx 7 hk_c83) [some (.ref 29), some (.int (nI i)), none] [] (s3, lm, hk_RH i0 i1 b, al) k := by
    intro g
    induction g with
    | zero =>
      intro i s3 hi h3 h4 e7 e30 e31
      have e : i = 4 := by omega
      subst e
      refine hk_hd (n := 1000) (t := 7) rfl ?_
      refine And.intro (fun _ => ?_) (fun hc => absurd (show (4 : Int32) ≤ nI 4 by decide) hc)
      exact l76 16 0 s3 none (by omega) h3 h4 e7 e30 e31 (fun i hi => absurd hi (Nat.not_lt_zero i)) (fun i hi => absurd hi (Nat.not_lt_zero i))
    | succ g ih =>
      intro i s3 hi h3 h4 e7 e30 e31
      have b1 : ¬ nI 4 ≤ nI i := hk_nlt (by omega) (by omega)
      have H3 : hk_HC s3 fl gn cn N D I := hk_HC_fr H (fun p q hp => h3 p q (by omega) (by omega))
      have nx : ∀ (m : Nat) (x : Int32), x = nI (hk_n4 fl gn N i) → hk_wp (d + 2) none hk_c83 k (m + 60) (hk_sfx 40 hk_c83) [some (.ref 29), some (.int (nI i)), none] [.int x, .int (nI i), .ref 30] (s3, lm, hk_RH i0 i1 b, al) := by
        intro m x ex
        refine hk_stn (i := nI i) (j := i) (by simp only [hk_lit, pk_mul, nI_add]) (by omega) (by decide) (fun s4 (hs4 : s4 = hk_u2 s3 30 (i) x) => ?_)
        refine hk_stn (i := nI i) (j := i) (by simp only [hk_lit, pk_mul, nI_add]) (by omega) (by decide) (fun s5 (hs5 : s5 = hk_u2 s4 31 (i) (s4 29 7)) => ?_)
        refine hk_ldi (i := nI i) (j := i) (by simp only [hk_lit, pk_mul, nI_add]) (by omega) (by decide) rfl ?_
        have v30 : s5 30 i = nI (hk_n4 fl gn N i) := by rw [hs5, hk_u2o (by omega), hs4, hk_u2s, ex]
        have v7 : s5 29 7 = nI (hk_sd fl gn N i) := by rw [hs5, hk_u2o (by omega), hs4, hk_u2o (by omega)]; exact e7
        have v47 : s4 29 7 = nI (hk_sd fl gn N i) := by rw [hs4, hk_u2o (by omega)]; exact e7
        refine hk_Rn_cast (by rw [← nI_1]; rfl) (ih (i + 1) (hk_u2 s5 29 7 (s5 29 7 * (s5 30 i + 1))) (by omega) (hk_F29_u (by rw [hs5, hs4]; exact hk_F29_u (hk_F29_u h3 (by omega)) (by omega)) (by omega)) (fun q hq => by rw [hk_u2o (by omega), hs5, hk_u2o (by omega), hs4, hk_u2o (by omega)]; exact h4 q hq) ?_ (fun j hj => ?_) (fun j hj => ?_))
        · rw [hk_u2s, v7, v30, nI_1, pk_mul]
          rfl
        · rw [hk_u2o (by omega)]
          by_cases e : j = i
          · rw [e]
            exact v30
          · rw [hs5, hk_u2o (by omega), hs4, hk_u2o (by omega)]
            exact e30 j (by omega)
        · rw [hk_u2o (by omega), hs5]
          by_cases e : j = i
          · rw [e, hk_u2s]
            exact v47
          · rw [hk_u2o (by omega), hs4, hk_u2o (by omega)]
            exact e31 j (by omega)
      refine hk_hd (n := 1000) (t := 7) rfl ?_
      refine And.intro (fun hc => absurd hc b1) (fun _ => ?_)
      refine And.intro (fun c1 => ?_) (fun c1 => ?_)
      · have c1 : s3 12 3 ≤ nI i := c1
        rw [H3.1.2.2.1, nI_leI (by omega) (by omega)] at c1
        refine nx _ 0 ?_
        unfold hk_n4
        rw [if_neg (by omega)]
        rfl
      have c1 : ¬ s3 12 3 ≤ nI i := c1
      rw [H3.1.2.2.1, nI_leI (by omega) (by omega)] at c1
      refine c_usefulX H3 (by omega) ?_
      refine nx _ _ ?_
      unfold hk_n4
      rw [if_pos (by omega)]
  refine hk_mth hk_m83 rfl rfl (n := 1000) ?_
  exact l7 4 0 (hk_u2 s 29 7 1) (by omega) (hk_F29_u (hk_F29_r s) (by omega)) (fun q hq => by rw [hk_u2o (by omega)]) (by rw [hk_u2s]; rfl) (fun j hj => absurd hj (Nat.not_lt_zero j)) (fun j hj => absurd hj (Nat.not_lt_zero j))
set_option maxHeartbeats 1000000 in
theorem c_sumUpX (H : hk_HC s fl gn cn N D I) (L : hk_Ly s fl gn cn N) (g1 : hk_Gd cn N I 10 X) (hI : hk_In fl gn N X) (h1 : ∀ s2, hk_F29 s s2 → (∀ q, s2 34 q = s 34 q) → s2 29 8 = nI (hk_pba fl gn X 10 N) → s2 29 9 = nI (hk_lg fl gn X N) → s2 29 10 = nI (hk_sdg X N) → k none (s2, lm, hk_RH i0 i1 b, al)) : hk_Cl (d + 3) 97 [.ref 29, .int (nI (hk_stX fl gn N X 4))] (s, lm, hk_RH i0 i1 b, al) k := by
  have hN := hk_HC_N H
  have I4 := hk_I4_of hN (by omega) g1 hI
  have em : (if (4 : Int32) < hk_u2 (hk_u2 (hk_u2 s 29 8 0) 29 9 0) 29 10 0 12 3 then 4 else hk_u2 (hk_u2 (hk_u2 s 29 8 0) 29 9 0) 29 10 0 12 3) = nI N := by
    rw [hk_u2o (by omega), hk_u2o (by omega), hk_u2o (by omega), H.1.2.2.1]
    exact hk_minI (m := 4) hN (by omega)
  have loop : ∀ (g i : Nat) (s3 : Nat → Nat → Int32), i + g = N → (∀ p q, p ≠ 29 → s3 p q = s p q) → s3 29 7 = s 29 7 → s3 29 8 = nI (hk_pba fl gn X 10 i) → s3 29 9 = nI (hk_lg fl gn X i) → s3 29 10 = nI (hk_sdg X i) → hk_Rn (d + 2) none hk_c97 (hk_sfx 32 hk_c97) [some (.ref 29), some (.int (nI (hk_stX fl gn N X 4))), some (.int (nI N)), some (.int (nI i))] [] (s3, lm, hk_RH i0 i1 b, al) k := by
    intro g
    induction g with
    | zero =>
      intro i s3 hi h3 e7 e8 e9 e10
      have e : i = N := by omega
      subst e
      refine hk_hd (n := 1000) (t := 32) rfl ?_
      refine And.intro (fun _ => ?_) (fun hc => absurd (Int32.le_refl _) hc)
      exact h1 s3 (fun p q p1 p2 => h3 p q (by omega)) (fun q => h3 34 q (by omega)) e8 e9 e10
    | succ g ih =>
      intro i s3 hi h3 e7 e8 e9 e10
      have b1 : ¬ nI N ≤ nI i := hk_nlt (by omega) (by omega)
      have ef : hk_e4 fl N i + hk_e4 gn N i * hk_dg X i = hk_tl fl gn X i := by
        unfold hk_e4 hk_tl
        rw [if_pos (by omega), if_pos (by omega)]
      have fm := hk_ft_le (X := X) (i := i) H
      rw [ef] at fm
      have lt := hk_lg_lt (fl := fl) (gn := gn) (X := X) i
      have fin : ∀ s4 : Nat → Nat → Int32, (∀ p q, p ≠ 29 → s4 p q = s p q) → s4 29 7 = s 29 7 → hk_HC s4 fl gn cn N D I ∧ hk_Ly s4 fl gn cn N := fun s4 q1 q2 => ⟨hk_HC_fr H (fun p q hp => q1 p q (by omega)), hk_Ly_fr L (fun p q hp => by
        rcases hp with ⟨rfl, rfl⟩ | hp
        · exact q2
        · exact q1 p q (by omega))⟩
      have emn : (if nI (hk_tl fl gn X i) < nI 10 then nI (hk_tl fl gn X i) else nI 10) = nI (min 10 (hk_tl fl gn X i)) := by
        by_cases c : hk_tl fl gn X i < 10
        · rw [if_pos ((nI_ltI (by omega) (by omega)).mpr c), Nat.min_eq_right (by omega)]
        · rw [if_neg (fun q => c ((nI_ltI (by omega) (by omega)).mp q)), Nat.min_eq_left (by omega)]
      obtain ⟨H3, L3⟩ := fin s3 h3 e7
      have S1p : ∀ (v : Int32) p q, p ≠ 29 → hk_u2 s3 29 8 v p q = s p q := fun v p q hp => by rw [hk_u2o (by omega)]; exact h3 p q hp
      have S2p : ∀ (v w : Int32) p q, p ≠ 29 → hk_u2 (hk_u2 s3 29 8 v) 29 10 w p q = s p q := fun v w p q hp => by rw [hk_u2o (by omega)]; exact S1p v p q hp
      have L1 := fun v => fin (hk_u2 s3 29 8 v) (S1p v) (by rw [hk_u2o (by omega)]; exact e7)
      have L2 := fun v w => fin (hk_u2 (hk_u2 s3 29 8 v) 29 10 w) (S2p v w) (by rw [hk_u2o (by omega), hk_u2o (by omega)]; exact e7)
      have v8 : s3 29 8 + (if nI (hk_tl fl gn X i) < nI 10 then nI (hk_tl fl gn X i) else nI 10) = nI (hk_pba fl gn X 10 (i + 1)) := by rw [emn, e8, nI_add]; rfl
      have v10 : ∀ v, hk_u2 s3 29 8 v 29 10 + nI (hk_dg X i) = nI (hk_sdg X (i + 1)) := fun v => by rw [hk_u2o (by omega), e10, nI_add]; rfl
      refine hk_hd (n := 1000) (t := 32) rfl ?_
      refine And.intro (fun hc => absurd hc b1) (fun _ => ?_)
      refine c_floatsTX H3 L3 I4 (by omega) ?_
      rw [ef]
      refine c_timesX (L1 (s3 29 8 + (if nI (hk_tl fl gn X i) < nI 10 then nI (hk_tl fl gn X i) else nI 10))).2 (hk_HC_g H) I4 (by omega) ?_
      refine c_floatsTX (L2 (s3 29 8 + (if nI (hk_tl fl gn X i) < nI 10 then nI (hk_tl fl gn X i) else nI 10)) (hk_u2 s3 29 8 (s3 29 8 + (if nI (hk_tl fl gn X i) < nI 10 then nI (hk_tl fl gn X i) else nI 10)) 29 10 + nI (hk_dg X i))).1 (L2 _ _).2 I4 (by omega) ?_
      rw [ef]
      refine And.intro (fun c1 => ?_) (fun c1 => ?_)
      · have c1 : nI 10 ≤ nI (hk_tl fl gn X i) := c1
        rw [nI_leI (by omega) (by omega)] at c1
        refine hk_Rn_cast (by rw [← nI_1]; rfl) (ih (i + 1) (hk_u2 (hk_u2 s3 29 8 (s3 29 8 + (if nI (hk_tl fl gn X i) < nI 10 then nI (hk_tl fl gn X i) else nI 10))) 29 10 (hk_u2 s3 29 8 (s3 29 8 + (if nI (hk_tl fl gn X i) < nI 10 then nI (hk_tl fl gn X i) else nI 10)) 29 10 + nI (hk_dg X i))) (by omega) (S2p _ _) (by rw [hk_u2o (by omega), hk_u2o (by omega)]; exact e7) (by rw [hk_u2o (by omega), hk_u2s]; exact v8) ?_ (by rw [hk_u2s]; exact v10 _))
        rw [hk_u2o (by omega), hk_u2o (by omega), e9, hk_lg, if_pos (by omega), Nat.add_zero]
      · have c1 : ¬ nI 10 ≤ nI (hk_tl fl gn X i) := c1
        rw [nI_leI (by omega) (by omega)] at c1
        refine hk_Rn_cast (by rw [← nI_1]; rfl) (ih (i + 1) (hk_u2 (hk_u2 (hk_u2 s3 29 8 (s3 29 8 + (if nI (hk_tl fl gn X i) < nI 10 then nI (hk_tl fl gn X i) else nI 10))) 29 10 (hk_u2 s3 29 8 (s3 29 8 + (if nI (hk_tl fl gn X i) < nI 10 then nI (hk_tl fl gn X i) else nI 10)) 29 10 + nI (hk_dg X i))) 29 9 (hk_u2 (hk_u2 s3 29 8 (s3 29 8 + (if nI (hk_tl fl gn X i) < nI 10 then nI (hk_tl fl gn X i) else nI 10))) 29 10 (hk_u2 s3 29 8 (s3 29 8 + (if nI (hk_tl fl gn X i) < nI 10 then nI (hk_tl fl gn X i) else nI 10)) 29 10 + nI (hk_dg X i)) 29 9 ||| ((1 : Int32) <<< (nI i &&& 31)))) (by omega) (fun p q hp => by rw [hk_u2o (by omega)]; exact S2p _ _ p q hp) (by rw [hk_u2o (by omega), hk_u2o (by omega), hk_u2o (by omega)]; exact e7) (by rw [hk_u2o (by omega), hk_u2o (by omega), hk_u2s]; exact v8) ?_ (by rw [hk_u2o (by omega), hk_u2s]; exact v10 _))
        rw [hk_u2s, hk_u2o (by omega), hk_u2o (by omega), e9, hk_or2 (by omega) lt, hk_lg, if_neg (by omega)]
  refine hk_mth hk_m97 rfl rfl (n := 1000) ?_
  refine hk_Rn_cast (L2 := [some (.ref 29), some (.int (nI (hk_stX fl gn N X 4))), some (.int (nI N)), some (.int (nI 0))]) ?_ (loop N 0 (hk_u2 (hk_u2 (hk_u2 s 29 8 0) 29 9 0) 29 10 0) (by omega) (fun p q hp => by rw [hk_u2o (by omega), hk_u2o (by omega), hk_u2o (by omega)]) (by rw [hk_u2o (by omega), hk_u2o (by omega), hk_u2o (by omega)]) (by rw [hk_u2o (by omega), hk_u2o (by omega), hk_u2s]; rfl) (by rw [hk_u2o (by omega), hk_u2s]; rfl) (by rw [hk_u2s]; rfl))
  show [some (Value.ref 29), some (.int (nI (hk_stX fl gn N X 4))), some (.int (if (4 : Int32) < hk_u2 (hk_u2 (hk_u2 s 29 8 0) 29 9 0) 29 10 0 12 3 then 4 else hk_u2 (hk_u2 (hk_u2 s 29 8 0) 29 9 0) 29 10 0 12 3)), some (.int 0)] = _
  rw [em]
  rfl
/-- the years of the plan -/
theorem c_yearsX (H : hk_HC s fl gn cn N D I) (h1 : ∀ s2, hk_F29 s s2 → hk_Pn s2 fl gn cn N D I → k none (s2, lm, hk_RH i0 i1 95, al)) : ∀ (g u : Nat) (s3 : Nat → Nat → Int32), u + g = 10 → hk_F29 s s3 → hk_Ly s3 fl gn cn N → hk_Mm s3 fl gn cn N D I → (∀ y, y < u → s3 34 y = nI (hk_lst fl gn cn N D I y (hk_pX fl gn cn N D I y))) → hk_Rn (d + 37) none hk_c82 (hk_sfx 65 hk_c82) [some (.ref 29), some (.int (nI (hk_stX fl gn N (hk_pX fl gn cn N D I u) 4))), some (.int (nI u))] [] (s3, lm, hk_RH i0 i1 95, al) k := by
  have hN := hk_HC_N H
  intro g
  induction g with
  | zero =>
    intro u s3 hu h3 L3 m3 e34
    have e : u = 10 := by omega
    subst e
    have H3 : hk_HC s3 fl gn cn N D I := hk_HC_fr H (fun p q hp => h3 p q (by omega) (by omega))
    obtain ⟨g1, gI⟩ := hk_pX_s (fl := fl) (gn := gn) (cn := cn) (D := D) (I := I) hN 10 (by omega)
    refine hk_hd (n := 1000) (t := 65) rfl ?_
    refine And.intro (fun _ => ?_) (fun hc => absurd (show (10 : Int32) ≤ nI 10 by decide) hc)
    refine c_sumUpX H3 L3 g1 gI (fun s4 h4 f34 e8 e9 e10 => ?_)
    exact h1 s4 (hk_F29_t h3 h4) ⟨fun y hy => (f34 y).trans (e34 y hy), e8, e9, e10⟩
  | succ g ih =>
    intro u s3 hu h3 L3 m3 e34
    have b1 : ¬ nI 10 ≤ nI u := hk_nlt (by omega) (by omega)
    have H3 : hk_HC s3 fl gn cn N D I := hk_HC_fr H (fun p q hp => h3 p q (by omega) (by omega))
    obtain ⟨g1, gI⟩ := hk_pX_s (fl := fl) (gn := gn) (cn := cn) (D := D) (I := I) hN u (by omega)
    obtain ⟨ls1, ls2, ls3⟩ := hk_lst_s (fl := fl) (gn := gn) (D := D) hN (by omega) g1
    have enx : hk_stX fl gn N (hk_pX fl gn cn N D I (u + 1)) 4 = hk_stX fl gn N (hk_pX fl gn cn N D I u) 4 + hk_sb (hk_sd fl gn N) (hk_lst fl gn cn N D I u (hk_pX fl gn cn N D I u)) 4 := hk_sbi hN (by omega) g1 ls1.1
    refine hk_hd (n := 1000) (t := 65) rfl ?_
    refine And.intro (fun hc => absurd hc b1) (fun _ => ?_)
    refine c_leastX (d := d + 1) (by omega) H3 L3 m3 g1 gI (fun s4 h4 m4 => ?_)
    refine hk_stn (i := nI u) (j := u) (by simp only [hk_lit, pk_mul, nI_add]) (by omega) (by decide) (fun s5 (hs5 : s5 = hk_u2 s4 34 (u) (nI (hk_lst fl gn cn N D I u (hk_pX fl gn cn N D I u)))) => ?_)
    have o5 : ∀ p q, p ≠ 34 → p ≠ 95 → s5 p q = s3 p q := fun p q q1 q2 => by rw [hs5, hk_u2o (by omega)]; exact h4 p q q2
    have v34 : s5 34 u = nI (hk_lst fl gn cn N D I u (hk_pX fl gn cn N D I u)) := by rw [hs5, hk_u2s]
    have L5 : hk_Ly s5 fl gn cn N := hk_Ly_fr L3 (fun p q hp => o5 p q (by omega) (by omega))
    have v32 := L5.2.2.2.1 _ ls2
    refine hk_ldi (i := nI u) (j := u) (by simp only [hk_lit, pk_mul, nI_add]) (by omega) (by decide) v34 ?_
    refine hk_ldi (i := nI (hk_lst fl gn cn N D I u (hk_pX fl gn cn N D I u))) (j := hk_lst fl gn cn N D I u (hk_pX fl gn cn N D I u)) (by simp only [hk_lit, pk_mul, nI_add]) (by omega) (by decide) v32 ?_
    refine hk_Rn_cast ?_ (ih (u + 1) s5 (by omega) (by rw [hs5]; exact hk_F29_u (fun p q p1 p2 => (h4 p q p2).trans (h3 p q p1 p2)) (by omega)) L5 (fun y hy X hG hI2 => ?_) (fun y hy => ?_))
    · rw [enx, ← nI_add, ← nI_1 u]
      rfl
    · rw [hs5, hk_u2o (by omega)]
      exact m4 y hy X hG hI2
    · by_cases e : y = u
      · rw [e]
        exact v34
      · rw [hs5, hk_u2o (by omega), h4 _ _ (by omega)]
        exact e34 y (by omega)
theorem hk_fillX {m : Nat} (hm : m ≤ 10000) {x : Int32} (e : x = nI (10 * m)) : (if (0 : Int32) < (if Int32.ofNat 100000 < x then Int32.ofNat 100000 else x) then (if Int32.ofNat 100000 < x then Int32.ofNat 100000 else x) else 0) = nI (10 * m) := by
  subst e
  have h : ¬ Int32.ofNat 100000 < nI (10 * m) := fun q => by
    have q : nI 100000 < nI (10 * m) := q
    rw [nI_ltI (by omega) (by omega)] at q
    omega
  rw [if_neg h]
  by_cases c : m = 0
  · subst c
    rfl
  · rw [if_pos (show (0 : Int32) < nI (10 * m) from nI_lt (a := 0) (by omega) (by omega))]
theorem hk_Mm0 {fl gn cn : Nat → Nat} {N D I : Nat} {s4 : Nat → Nat → Int32} (hN : N ≤ 4) (h : ∀ q, q < 10 * hk_sd fl gn N 4 → s4 95 q = -1) : hk_Mm s4 fl gn cn N D I := fun y hy X hG hI => by
  have sl := hk_sXl (hk_I4_of hN (by omega) hG hI) 4 (by omega)
  have um : y * hk_sd fl gn N 4 ≤ 9 * hk_sd fl gn N 4 := Nat.mul_le_mul_right _ (by omega)
  exact Or.inl (h _ (by omega))
theorem hk_stX0 {fl gn : Nat → Nat} {N : Nat} : ∀ h, hk_stX fl gn N 0 h = 0
  | 0 => rfl
  | h + 1 => by rw [hk_stX, hk_stX0 h, hk_dg00, Nat.zero_mul]
theorem c_make95X (H : hk_HC s fl gn cn N D I) (hP : s 29 11 = 0 ∨ hk_Pn s fl gn cn N D I) (h1 : ∀ s2, hk_F29 s s2 → hk_Pn s2 fl gn cn N D I → k none (s2, lm, hk_RH i0 i1 95, al)) : hk_Cl (d + 38) 82 [.ref 29] (s, lm, hk_RH i0 i1 95, al) k := by
  have hN := hk_HC_N H
  have sm := hk_sdm (fl := fl) (hk_HC_g H) 4
  refine hk_mth hk_m82 rfl rfl (n := 1000) ?_
  refine And.intro (fun c1 => ?_) (fun c1 => ?_)
  rotate_left
  · have c1 : ¬ s 29 11 = 0 := c1
    exact h1 s (hk_F29_r s) (hP.elim (fun q => absurd q c1) id)
  refine And.intro (Or.inr rfl) ?_
  refine c_layOutX (hk_HC_fr H (fun p q hp => hk_u2o (by omega))) (fun s2 h2 h4 L2 => ?_)
  have h3 : hk_F29 s s2 := hk_F29_t (hk_F29_u (hk_F29_r s) (by omega)) h2
  refine And.intro (fun _ => ?_) (fun hc => absurd (by decide) hc)
  refine hk_Cl_arg (a2 := [.ref 95, .int 0, .int (nI (10 * hk_sd fl gn N 4)), .int (-1)]) ?_ ?_
  · show [Value.ref 95, .int 0, .int (if (0 : Int32) < (if Int32.ofNat 100000 < 10 * s2 29 7 then Int32.ofNat 100000 else 10 * s2 29 7) then (if Int32.ofNat 100000 < 10 * s2 29 7 then Int32.ofNat 100000 else 10 * s2 29 7) else 0), .int (-1)] = _
    rw [hk_fillX (m := hk_sd fl gn N 4) (by omega) (by rw [L2.1]; exact pk_mul 10 _)]
  refine c_fill95 (m := 10 * hk_sd fl gn N 4) (by omega) (fun s4 h5 h6 => ?_)
  refine hk_Rn_cast (L2 := [some (.ref 29), some (.int (nI (hk_stX fl gn N (hk_pX fl gn cn N D I 0) 4))), some (.int (nI 0))]) ?_ (c_yearsX H h1 10 0 s4 (by omega) (fun p q a1 a2 => (h5 p q (by omega)).trans (h3 p q a1 a2)) (hk_Ly_fr L2 (fun p q hp => h5 p q (by omega))) (hk_Mm0 hN h6) (fun y hy => absurd hy (Nat.not_lt_zero y)))
  show [some (Value.ref 29), some (.int (nI 0)), some (.int (nI 0))] = _
  rw [show hk_stX fl gn N (hk_pX fl gn cn N D I 0) 4 = 0 from hk_stX0 4]
theorem c_make35X (ha : al.contains 95 = false) (H : hk_HC s fl gn cn N D I) (hP : s 29 11 = 0 ∨ hk_Pn s fl gn cn N D I) (h0 : hk_Pn s fl gn cn N D I → k none (s, lm, hk_RH i0 i1 35, al)) (h1 : ∀ s2, hk_F29 s s2 → hk_Pn s2 fl gn cn N D I → k none (s2, hk_z lm 95 0, hk_RH i0 i1 95, al ++ [95])) : hk_Cl (d + 38) 82 [.ref 29] (s, lm, hk_RH i0 i1 35, al) k := by
  have hN := hk_HC_N H
  have sm := hk_sdm (fl := fl) (hk_HC_g H) 4
  refine hk_mth hk_m82 rfl rfl (n := 1000) ?_
  refine And.intro (fun c1 => ?_) (fun c1 => ?_)
  rotate_left
  · have c1 : ¬ s 29 11 = 0 := c1
    exact h0 (hP.elim (fun q => absurd q c1) id)
  refine And.intro (Or.inr rfl) ?_
  refine c_layOutX (hk_HC_fr H (fun p q hp => hk_u2o (by omega))) (fun s2 h2 h4 L2 => ?_)
  have h3 : hk_F29 s s2 := hk_F29_t (hk_F29_u (hk_F29_r s) (by omega)) h2
  have z9 : ∀ p q, p ≠ 95 → hk_z s2 95 0 p q = s2 p q := fun p q hp => by
    unfold hk_z
    rw [if_neg hp]
  refine And.intro (fun hc => absurd hc (by decide)) (fun _ => ?_)
  refine hk_mkB rfl ha ?_
  refine hk_Cl_rr hk_rBg ?_
  refine hk_Cl_arg (a2 := [.ref 95, .int 0, .int (nI (10 * hk_sd fl gn N 4)), .int (-1)]) ?_ ?_
  · show [Value.ref 95, .int 0, .int (if (0 : Int32) < (if Int32.ofNat 100000 < 10 * hk_z s2 95 0 29 7 then Int32.ofNat 100000 else 10 * hk_z s2 95 0 29 7) then (if Int32.ofNat 100000 < 10 * hk_z s2 95 0 29 7 then Int32.ofNat 100000 else 10 * hk_z s2 95 0 29 7) else 0), .int (-1)] = _
    rw [hk_fillX (m := hk_sd fl gn N 4) (by omega) (by rw [z9 _ _ (by omega), L2.1]; exact pk_mul 10 _)]
  refine c_fill95 (m := 10 * hk_sd fl gn N 4) (by omega) (fun s4 h5 h6 => ?_)
  have h7 : ∀ p q, p ≠ 95 → s4 p q = s2 p q := fun p q hp => (h5 p q (fun c => hp c.1)).trans (z9 p q hp)
  refine hk_Rn_cast (L2 := [some (.ref 29), some (.int (nI (hk_stX fl gn N (hk_pX fl gn cn N D I 0) 4))), some (.int (nI 0))]) ?_ (c_yearsX H h1 10 0 s4 (by omega) (fun p q a1 a2 => (h7 p q a2).trans (h3 p q a1 a2)) (hk_Ly_fr L2 (fun p q hp => h7 p q (by omega))) (hk_Mm0 hN h6) (fun y hy => absurd hy (Nat.not_lt_zero y)))
  show [some (Value.ref 29), some (.int (nI 0)), some (.int (nI 0))] = _
  rw [show hk_stX fl gn N (hk_pX fl gn cn N D I 0) 4 = 0 from hk_stX0 4]
theorem c_atX (hP : hk_Pn s fl gn cn N D I) (hz : hk_rg z (-1) 11) (h1 : k (some (.int (hk_pvv fl gn cn N D I z))) (s, lm, hk_RH i0 i1 b, al)) : hk_Cl (d + 1) 98 [.ref 29, .int z] (s, lm, hk_RH i0 i1 b, al) k := by
  obtain ⟨e34, e8, e9, e10⟩ := hP
  unfold hk_pvv hk_pvN at h1
  refine hk_mth hk_m98 rfl rfl (n := 1000) ?_
  refine And.intro (fun c1 => ?_) (fun c1 => ?_)
  rotate_left
  · have c1 : ¬ ¬ z = nI 10 := c1
    have e := Classical.not_not.mp c1
    subst e
    rw [if_neg (by decide), nI_clamp (by omega), if_neg (by omega), if_pos rfl, ← e9] at h1
    exact h1
  have c1 : ¬ z = nI 10 := c1
  refine And.intro (fun c2 => ?_) (fun c2 => ?_)
  rotate_left
  · have c2 : ¬ ¬ z = nI 11 := c2
    have e := Classical.not_not.mp c2
    subst e
    rw [if_neg (by decide), nI_clamp (by omega), if_neg (by omega), if_neg (by omega), ← e10] at h1
    exact h1
  have c2 : ¬ z = nI 11 := c2
  refine And.intro (fun c3 => ?_) (fun c3 => ?_)
  · have c3 : z < 0 := c3
    have em : z = -1 := by
      have q1 := Int32.le_iff_toInt_le.mp (Int32.not_lt.mp hz.1)
      have q := Int32.lt_iff_toInt_lt.mp c3
      rw [show (0 : Int32).toInt = 0 from rfl] at q
      rw [show (-1 : Int32).toInt = -1 from rfl] at q1
      exact Int32.toInt_inj.mp (by rw [show (-1 : Int32).toInt = -1 from rfl]; omega)
    rw [if_pos em, ← e8] at h1
    exact h1
  have c3 : ¬ z < 0 := c3
  have nm : ¬ z = -1 := fun q => c3 (by rw [q]; decide)
  obtain ⟨j, hj, ej⟩ := hk_rng (n := 11) (by decide) c3 hz.2
  subst ej
  have h10 : j < 10 := by
    rcases Nat.lt_or_ge j 10 with q | q
    · exact q
    · exfalso
      rcases Nat.lt_or_ge j 11 with q2 | q2
      · exact c1 (by rw [show j = 10 by omega])
      · exact c2 (by rw [show j = 11 by omega])
  have v34 := e34 j h10
  rw [if_neg nm, nI_clamp (by omega), if_pos h10] at h1
  refine And.intro (fun hc => absurd hc (show ¬ nI 10 ≤ nI j from hk_nlt h10 (by omega))) (fun _ => ?_)
  refine hk_ldi (i := nI j) (j := j) (by simp only [hk_lit, pk_mul, nI_add]) (by omega) (by decide) v34 ?_
  exact h1
theorem c_plan95X (H : hk_HC s fl gn cn N D I) (hP : s 29 11 = 0 ∨ hk_Pn s fl gn cn N D I) (hb : ¬ hk_rg z (-1) 11 → k (some (.int (-2))) (s, lm, hk_RH i0 i1 95, al)) (hg : hk_rg z (-1) 11 → ∀ s2, hk_F29 s s2 → hk_Pn s2 fl gn cn N D I → k (some (.int (hk_pvv fl gn cn N D I z))) (s2, lm, hk_RH i0 i1 95, al)) : hk_Cl (d + 39) 81 [.ref 0, .int z] (s, lm, hk_RH i0 i1 95, al) k := by
  refine hk_mth hk_m81 rfl rfl (n := 1000) ?_
  refine c_within0 (fun (a : z < (-1) ∨ 11 < z) => ?_) (fun (p0 : ¬ z < (-1)) (q0 : ¬ 11 < z) => ?_)
  · refine And.intro (fun hc => absurd hc (by decide)) (fun _ => ?_)
    exact hb (fun q => a.elim q.1 q.2)
  refine And.intro (fun _ => ?_) (fun hc => absurd (by decide) hc)
  refine c_make95X H hP (fun s2 h2 p2 => ?_)
  exact c_atX p2 ⟨p0, q0⟩ (hg ⟨p0, q0⟩ s2 h2 p2)
theorem c_plan35X (ha : al.contains 95 = false) (H : hk_HC s fl gn cn N D I) (hP : s 29 11 = 0 ∨ hk_Pn s fl gn cn N D I) (hb : ¬ hk_rg z (-1) 11 → k (some (.int (-2))) (s, lm, hk_RH i0 i1 35, al)) (h0 : hk_rg z (-1) 11 → hk_Pn s fl gn cn N D I → k (some (.int (hk_pvv fl gn cn N D I z))) (s, lm, hk_RH i0 i1 35, al)) (hg : hk_rg z (-1) 11 → ∀ s2, hk_F29 s s2 → hk_Pn s2 fl gn cn N D I → k (some (.int (hk_pvv fl gn cn N D I z))) (s2, hk_z lm 95 0, hk_RH i0 i1 95, al ++ [95])) : hk_Cl (d + 39) 81 [.ref 0, .int z] (s, lm, hk_RH i0 i1 35, al) k := by
  refine hk_mth hk_m81 rfl rfl (n := 1000) ?_
  refine c_within0 (fun (a : z < (-1) ∨ 11 < z) => ?_) (fun (p0 : ¬ z < (-1)) (q0 : ¬ 11 < z) => ?_)
  · refine And.intro (fun hc => absurd hc (by decide)) (fun _ => ?_)
    exact hb (fun q => a.elim q.1 q.2)
  refine And.intro (fun _ => ?_) (fun hc => absurd (by decide) hc)
  refine c_make35X ha H hP (fun p2 => ?_) (fun s2 h2 p2 => ?_)
  · exact c_atX p2 ⟨p0, q0⟩ (h0 ⟨p0, q0⟩ p2)
  · exact c_atX p2 ⟨p0, q0⟩ (hg ⟨p0, q0⟩ s2 h2 p2)
end HKPG
