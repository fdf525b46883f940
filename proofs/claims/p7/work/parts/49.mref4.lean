/-! ===== the reference: calls over texts; tests, hands, storms ===== -/
section HKC5
variable {d n a bb r : Nat} {v w x y z : Int32} {s : Nat → Nat → Int32} {lm : Nat → Nat → Int64} {i0 i1 b : Nat} {al : List Nat} {k : Option Value → hk_H → Prop}
theorem m_isTruth (h : hk_RI (s 41) a bb r) {t p : Nat} (ht : t < 4) (hp : p < bb) (h1 : ∀ s2 lm2 u, u = 0 ∨ u = 1 → hk_FP s s2 → k (some (.int u)) (s2, lm2, hk_RH i0 i1 b, al)) : hk_Cl (d + 6) 161 [.ref 40, .int (nI t), .int (nI p)] (s, lm, hk_RH i0 i1 b, al) k := by
  obtain ⟨n, hn, en⟩ := h.2.2.2.2.2.2.2.1 t ht
  refine hk_mth hk_m161 rfl rfl (n := 1000) ?_
  refine m_reads ht hn en (fun s2 u ⟨f2, hu⟩ => ?_)
  refine And.intro (fun c1 => ?_) (fun c1 => ?_)
  · exact And.intro (Or.inl rfl) (h1 s2 lm _ (Or.inl rfl) f2)
  obtain ⟨kk, hh, q1, q2, q3⟩ := hu (Classical.not_not.mp c1)
  refine m_tellsOf (a := a) (r := r) (by rw [hk_FP_41 f2]; exact h) hp q2 q1 ⟨hh, q3⟩ (fun lm2 u2 => ?_)
  refine And.intro (fun c2 => ?_) (fun c2 => ?_)
  · exact And.intro (Or.inl rfl) (h1 s2 lm2 _ (Or.inl rfl) f2)
  · exact And.intro (Or.inr rfl) (h1 s2 lm2 _ (Or.inr rfl) f2)
theorem m_fault (h : hk_RI (s 41) a bb r) (h1 : ∀ s2 u, hk_Gm s s2 → hk_RI (s2 41) a bb r → k (some (.int u)) (s2, lm, hk_RH i0 i1 b, al)) : hk_Cl (d + 6) 189 [.ref 40, .int v] (s, lm, hk_RH i0 i1 b, al) k := by
  refine hk_mth hk_m189 rfl rfl (n := 1000) ?_
  refine m_isText2 (fun _ => ?_) (fun t e ht => ?_)
  · refine And.intro (fun _ => ?_) (fun hc => absurd (by decide) hc)
    exact h1 s _ (hk_Gm_r s) h
  refine And.intro (fun hc => absurd hc (by decide)) (fun _ => ?_)
  subst e
  obtain ⟨n, hn, en⟩ := h.2.2.2.2.2.2.2.1 t ht
  exact m_reads ht hn en (fun s2 u hu => h1 s2 u (hk_FP_G hu.1) (by rw [hk_FP_41 hu.1]; exact h))
theorem m_tells (h : hk_RI (s 41) a bb r) (h1 : ∀ s2 lm2 u, hk_Gm s s2 → hk_RI (s2 41) a bb r → k (some (.long u)) (s2, lm2, hk_RH i0 i1 b, al)) : hk_Cl (d + 6) 190 [.ref 40, .int v, .int w] (s, lm, hk_RH i0 i1 b, al) k := by
  have hb := h.1.2.1
  refine hk_mth hk_m190 rfl rfl (n := 1000) ?_
  refine m_isText2 (fun _ => ?_) (fun t e ht => ?_)
  · refine And.intro (fun _ => ?_) (fun hc => absurd (by decide) hc)
    exact h1 s lm _ (hk_Gm_r s) h
  refine And.intro (fun hc => absurd hc (by decide)) (fun _ => ?_)
  refine m_isn (c := 1) (by omega) h.2.1.2.1 (by omega) ?_ (fun p e2 hp => ?_)
  · refine And.intro (fun hc => absurd hc (by decide)) (fun _ => ?_)
    exact h1 s lm _ (hk_Gm_r s) h
  refine And.intro (fun _ => ?_) (fun hc => absurd (by decide) hc)
  subst e e2
  obtain ⟨n, hn, en⟩ := h.2.2.2.2.2.2.2.1 t ht
  refine m_reads ht hn en (fun s2 u ⟨f2, hu⟩ => ?_)
  have h2 : hk_RI (s2 41) a bb r := by rw [hk_FP_41 f2]; exact h
  refine And.intro (fun c1 => ?_) (fun c1 => ?_)
  · obtain ⟨kk, hh, q1, q2, q3⟩ := hu c1
    exact m_tellsOf h2 hp q2 q1 ⟨hh, q3⟩ (fun lm2 u2 => h1 s2 lm2 u2 (hk_FP_G f2) h2)
  · exact h1 s2 lm _ (hk_FP_G f2) h2
theorem m_replace (h : hk_RI (s 41) a bb r) (h1 : ∀ s2 lm2 u, hk_Gm s s2 → hk_RI (s2 41) a bb r → k (some (.int u)) (s2, lm2, hk_RH i0 i1 b, al)) : hk_Cl (d + 7) 160 [.ref 40, .int v, .int w] (s, lm, hk_RH i0 i1 b, al) k := by
  have ha := h.1.1
  have hb := h.1.2.1
  refine hk_mth hk_m160 rfl rfl (n := 1000) ?_
  refine m_isn (c := 1) (by omega) h.2.1.2.1 (by omega) ?_ (fun p e hp => ?_)
  · refine And.intro (fun _ => ?_) (fun hc => absurd (by decide) hc)
    exact h1 s lm _ (hk_Gm_r s) h
  refine And.intro (fun hc => absurd hc (by decide)) (fun _ => ?_)
  refine m_in (fun _ _ => ?_) (fun _ => ?_)
  rotate_left
  · refine And.intro (fun hc => absurd hc (by decide)) (fun _ => ?_)
    exact h1 s lm _ (hk_Gm_r s) h
  refine And.intro (fun _ => ?_) (fun hc => absurd (by decide) hc)
  subst e
  obtain ⟨⟨i, hi, ei⟩, _⟩ := h.2.2.2.2.1 p hp
  have ei' : s 41 (80 + 6 * p + 0) = nI i := ei
  refine m_plateOf (c := 0) (by omega) ?_
  have fin : ∀ (q : Nat) (s3 : Nat → Nat → Int32) (lm2 : Nat → Nat → Int64) (v3 : Int32), hk_Gm s s3 → hk_RI (s3 41) a bb r → hk_wp (d + 6) none hk_c160 k (q + 90) (hk_sfx 70 hk_c160) [some (.ref 40), some (.int (nI p)), some (.int w), some (.int v3), none] [] (s3, lm2, hk_RH i0 i1 b, al) := by
    intro q s3 lm2 v3 g3 h3
    refine hk_stn (i := 80 + 6 * nI p + 2) (j := 80 + 6 * p + 2) (by simp only [hk_lit, pk_mul, nI_add]) (by omega) (by decide) (fun s4 (hs4 : s4 = hk_u2 s3 41 (80 + 6 * p + 2) w) => ?_)
    refine hk_ldi (i := nI 7) (j := 7) (by simp only [hk_lit, pk_mul, nI_add]) (by omega) (by decide) rfl ?_
    refine hk_stn (i := 80 + 6 * nI p + 4) (j := 80 + 6 * p + 4) (by simp only [hk_lit, pk_mul, nI_add]) (by omega) (by decide) (fun s5 (hs5 : s5 = hk_u2 s4 41 (80 + 6 * p + 4) (s4 41 7)) => ?_)
    refine hk_stn (i := 80 + 6 * nI p + 5) (j := 80 + 6 * p + 5) (by simp only [hk_lit, pk_mul, nI_add]) (by omega) (by decide) (fun s6 (hs6 : s6 = hk_u2 s5 41 (80 + 6 * p + 5) 0) => ?_)
    have g4 : hk_Gm s s4 := by rw [hs4]; exact hk_Gm_u g3 (by omega) (fun _ => hk_nez (by omega))
    have h4 : hk_RI (s4 41) a bb r := by rw [hs4]; exact hk_RI_41 h3 (by omega)
    have g5 : hk_Gm s s5 := by rw [hs5]; exact hk_Gm_u g4 (by omega) (fun _ => hk_nez (by omega))
    have h5 : hk_RI (s5 41) a bb r := by rw [hs5]; exact hk_RI_41 h4 (by omega)
    exact h1 s6 lm2 _ (by rw [hs6]; exact hk_Gm_u g5 (by omega) (fun _ => hk_nez (by omega))) (by rw [hs6]; exact hk_RI_41 h5 (by omega))
  refine hk_Cl_arg (show [Value.ref 40, .int (s 41 (80 + 6 * p + 0)), .int 6] = [Value.ref 40, .int (nI i), .int 6] by rw [ei']) ?_
  refine m_shipOf (c := 6) (by omega) ?_
  refine And.intro (fun c1 => ?_) (fun c1 => ?_)
  · exact h1 s lm _ (hk_Gm_r s) h
  refine hk_Cl_arg (show [Value.ref 40, .int (s 41 (80 + 6 * p + 0)), .int 8] = [Value.ref 40, .int (nI i), .int 8] by rw [ei']) ?_
  refine m_shipOf (c := 8) (by omega) ?_
  refine And.intro (fun c2 => ?_) (fun c2 => ?_)
  · exact fin _ s lm _ (hk_Gm_r s) h
  have c2 : ¬ s 41 (20 + 10 * i + 8) = -1 := c2
  obtain ⟨t, ht, et⟩ := (h.2.2.2.1 i hi).elim (fun e => absurd e c2) id
  refine hk_Cl_arg (show [Value.ref 40, .int (s 41 (80 + 6 * p + 0)), .int 8] = [Value.ref 40, .int (nI i), .int 8] by rw [ei']) ?_
  refine m_shipOf (c := 8) (by omega) ?_
  refine hk_Cl_arg (show [Value.ref 40, .int (s 41 (20 + 10 * i + 8)), .int (nI p)] = [Value.ref 40, .int (nI t), .int (nI p)] by rw [et]) ?_
  refine m_isTruth h ht hp (fun s2 lm2 u hu f2 => ?_)
  have h2 : hk_RI (s2 41) a bb r := by rw [hk_FP_41 f2]; exact h
  refine And.intro (fun c3 => ?_) (fun c3 => ?_)
  · exact fin _ s2 lm2 _ (hk_FP_G f2) h2
  · exact h1 s2 lm2 _ (hk_FP_G f2) h2
theorem m_unlike (h : hk_RI (s 41) a bb r) (h1 : ∀ s2 lm2 u, hk_Gm s s2 → hk_RI (s2 41) a bb r → k (some (.int u)) (s2, lm2, hk_RH i0 i1 b, al)) : hk_Cl (d + 7) 192 [.ref 40, .int v, .int w, .int x, .int y] (s, lm, hk_RH i0 i1 b, al) k := by
  have ha := h.1.1
  have hb := h.1.2.1
  refine hk_mth hk_m192 rfl rfl (n := 1000) ?_
  refine m_isn (c := 0) (by omega) h.2.1.1 (by omega) ?_ (fun i e hi => ?_)
  · refine And.intro (fun _ => ?_) (fun hc => absurd (by decide) hc)
    exact h1 s lm _ (hk_Gm_r s) h
  refine And.intro (fun hc => absurd hc (by decide)) (fun _ => ?_)
  refine m_isText2 (fun _ => ?_) (fun t1 e1 ht1 => ?_)
  · refine And.intro (fun _ => ?_) (fun hc => absurd (by decide) hc)
    exact h1 s lm _ (hk_Gm_r s) h
  refine And.intro (fun hc => absurd hc (by decide)) (fun _ => ?_)
  refine m_isText2 (fun _ => ?_) (fun t2 e2 ht2 => ?_)
  · refine And.intro (fun _ => ?_) (fun hc => absurd (by decide) hc)
    exact h1 s lm _ (hk_Gm_r s) h
  refine And.intro (fun hc => absurd hc (by decide)) (fun _ => ?_)
  refine And.intro (fun c1 => ?_) (fun c1 => ?_)
  rotate_left
  · exact h1 s lm _ (hk_Gm_r s) h
  subst e1 e2
  have loop : ∀ (g j : Nat) (s3 : Nat → Nat → Int32) (lm2 : Nat → Nat → Int64) (e : Int32), j + g = bb → hk_FP s s3 → hk_Rn (d + 6) none hk_c192 (hk_sfx 38 hk_c192) [some (.ref 40), some (.int v), some (.int (nI t1)), some (.int (nI t2)), some (.int y), some (.int e), some (.int (nI j))] [] (s3, lm2, hk_RH i0 i1 b, al) k := by
    intro g
    induction g with
    | zero =>
      intro j s3 lm2 e hj f3
      have h3 : hk_RI (s3 41) a bb r := by rw [hk_FP_41 f3]; exact h
      have ej : j = bb := by omega
      subst ej
      refine hk_hd (n := 1000) (t := 38) rfl ?_
      refine hk_ldi (i := nI 1) (j := 1) (by simp only [hk_lit, pk_mul, nI_add]) (by omega) (by decide) h3.2.1.2.1 ?_
      refine And.intro (fun _ => ?_) (fun hc => absurd (Int32.le_refl _) hc)
      refine And.intro (fun c2 => ?_) (fun c2 => ?_)
      · exact h1 s3 lm2 _ (hk_FP_G f3) h3
      · exact h1 s3 lm2 _ (hk_FP_G f3) h3
    | succ g ih =>
      intro j s3 lm2 e hj f3
      have h3 : hk_RI (s3 41) a bb r := by rw [hk_FP_41 f3]; exact h
      have a1 : ¬ nI bb ≤ nI j := hk_nlt (by omega) (by omega)
      refine hk_hd (n := 1000) (t := 38) rfl ?_
      refine hk_ldi (i := nI 1) (j := 1) (by simp only [hk_lit, pk_mul, nI_add]) (by omega) (by decide) h3.2.1.2.1 ?_
      refine And.intro (fun hc => absurd hc a1) (fun _ => ?_)
      refine m_plateOf (c := 0) (by omega) ?_
      refine And.intro (fun c2 => ?_) (fun c2 => ?_)
      · exact hk_Rn_cast (by rw [← nI_1 j]; rfl) (ih (j + 1) s3 lm2 _ (by omega) f3)
      refine m_isTruth h3 ht1 (by omega) (fun s4 lm4 u hu f4 => ?_)
      have f5 := hk_FP_t f3 f4
      have h5 : hk_RI (s4 41) a bb r := by rw [hk_FP_41 f5]; exact h
      refine m_isTruth h5 ht2 (by omega) (fun s6 lm6 u2 hu2 f6 => ?_)
      have f7 := hk_FP_t f5 f6
      have h7 : hk_RI (s6 41) a bb r := by rw [hk_FP_41 f7]; exact h
      refine And.intro (fun c3 => ?_) (fun c3 => ?_)
      · exact hk_Rn_cast (by rw [← nI_1 j]; rfl) (ih (j + 1) s6 lm6 _ (by omega) f7)
      refine And.intro (fun c4 => ?_) (fun c4 => ?_)
      · exact hk_Rn_cast (by rw [← nI_1 j]; rfl) (ih (j + 1) s6 lm6 _ (by omega) f7)
      · exact h1 s6 lm6 _ (hk_FP_G f7) h7
  exact loop bb 0 s lm 0 (by omega) (hk_FP_r s)
theorem m_pop {j : Nat} {hp : hk_H} (hj : j < 2 ^ 31) (h1 : ∀ m, m ≤ 31 → k (some (.int (nI m))) hp) : hk_Cl (d + 1) 200 [.int (nI j)] hp k := by
  by_cases e : j = 0
  · subst e
    exact m_size0 (h1 0 (by omega))
  · exact hk_pop0 (by omega) hj (fun m _ hm => h1 m hm)
theorem m_tellsT (h4 : s 41 4 = nI n) (hn : n ≤ 20) (h1 : ∀ u, u = 0 ∨ u = 1 → k (some (.int u)) (s, lm, hk_RH i0 i1 b, al)) : hk_Cl (d + 1) 209 [.ref 40, .int v] (s, lm, hk_RH i0 i1 b, al) k := by
  have loop : ∀ (q j : Nat), j + q = n → hk_Rn d none hk_c209 (hk_sfx 2 hk_c209) [some (.ref 40), some (.int v), some (.int (nI j))] [] (s, lm, hk_RH i0 i1 b, al) k := by
    intro q
    induction q with
    | zero =>
      intro j hj
      have e : j = n := by omega
      subst e
      refine hk_hd (n := 1000) (t := 2) rfl ?_
      refine hk_ldi (i := nI 4) (j := 4) (by simp only [hk_lit, pk_mul, nI_add]) (by omega) (by decide) h4 ?_
      refine And.intro (fun _ => ?_) (fun hc => absurd (Int32.le_refl _) hc)
      exact And.intro (Or.inr rfl) (h1 _ (Or.inr rfl))
    | succ q ih =>
      intro j hj
      have a1 : ¬ nI n ≤ nI j := hk_nlt (by omega) (by omega)
      refine hk_hd (n := 1000) (t := 2) rfl ?_
      refine hk_ldi (i := nI 4) (j := 4) (by simp only [hk_lit, pk_mul, nI_add]) (by omega) (by decide) h4 ?_
      refine And.intro (fun hc => absurd hc a1) (fun _ => ?_)
      refine hk_ldi (i := 1678 + 2 * nI j) (j := 1678 + 2 * j) (by simp only [hk_lit, pk_mul, nI_add]) (by omega) (by decide) rfl ?_
      refine And.intro (fun c1 => ?_) (fun c1 => ?_)
      · refine hk_ldi (i := 1678 + 2 * nI j + 1) (j := 1678 + 2 * j + 1) (by simp only [hk_lit, pk_mul, nI_add]) (by omega) (by decide) rfl ?_
        refine And.intro (fun c2 => ?_) (fun c2 => ?_)
        · refine And.intro (fun _ => ?_) (fun hc => absurd (by decide) hc)
          exact hk_Rn_cast (by rw [← nI_1 j]; rfl) (ih (j + 1) (by omega))
        · refine And.intro (fun hc => absurd hc (by decide)) (fun _ => ?_)
          exact And.intro (Or.inl rfl) (h1 _ (Or.inl rfl))
      · refine hk_ldi (i := 1678 + 2 * nI j + 1) (j := 1678 + 2 * j + 1) (by simp only [hk_lit, pk_mul, nI_add]) (by omega) (by decide) rfl ?_
        refine And.intro (fun c2 => ?_) (fun c2 => ?_)
        · refine And.intro (fun hc => absurd hc (by decide)) (fun _ => ?_)
          exact And.intro (Or.inl rfl) (h1 _ (Or.inl rfl))
        · refine And.intro (fun _ => ?_) (fun hc => absurd (by decide) hc)
          exact hk_Rn_cast (by rw [← nI_1 j]; rfl) (ih (j + 1) (by omega))
  refine hk_mth hk_m209 rfl rfl (n := 1000) ?_
  exact loop n 0 (by omega)
theorem m_leaks (h : hk_RI (s 41) a bb r) (h1 : ∀ u, k (some (.int u)) (s, lm, hk_RH i0 i1 b, al)) : hk_Cl (d + 3) 208 [.ref 40, .int z] (s, lm, hk_RH i0 i1 b, al) k := by
  obtain ⟨n, hn, en⟩ := h.2.2.2.2.2.2.2.2.2.1
  refine hk_mth hk_m208 rfl rfl (n := 1000) ?_
  refine m_in (fun _ _ => ?_) (fun _ => ?_)
  rotate_left
  · refine And.intro (fun hc => absurd hc (by decide)) (fun _ => ?_)
    exact h1 _
  refine And.intro (fun _ => ?_) (fun hc => absurd (by decide) hc)
  have loop : ∀ (q j : Nat) (f e : Int32) (l5 : Option Value), j + q = 4096 → (f = -1 ∨ ∃ i, i < 4096 ∧ f = nI i) → hk_Rn (d + 2) none hk_c208 (hk_sfx 19 hk_c208) [some (.ref 40), some (.int z), some (.int f), some (.int e), some (.int (nI j)), l5] [] (s, lm, hk_RH i0 i1 b, al) k := by
    intro q
    induction q with
    | zero =>
      intro j f e l5 hj hf
      have ej : j = 4096 := by omega
      subst ej
      refine hk_hd (n := 1000) (t := 19) rfl ?_
      refine And.intro (fun _ => ?_) (fun hc => absurd (show (4096 : Int32) ≤ nI 4096 by decide) hc)
      refine And.intro (fun c1 => ?_) (fun c1 => ?_)
      · exact h1 _
      refine And.intro (fun c2 => ?_) (fun c2 => ?_)
      · exact h1 _
      · exact h1 _
    | succ q ih =>
      intro j f e l5 hj hf
      have a1 : ¬ nI 4096 ≤ nI j := hk_nlt (by omega) (by omega)
      have nx : ∀ (f e v5 : Int32), (f = -1 ∨ ∃ i, i < 4096 ∧ f = nI i) → hk_Rn (d + 2) none hk_c208 (hk_sfx 19 hk_c208) [some (.ref 40), some (.int z), some (.int f), some (.int e), some (.int (nI j + 1)), some (.int v5)] [] (s, lm, hk_RH i0 i1 b, al) k := fun f e v5 hf => hk_Rn_cast (by rw [nI_1]) (ih (j + 1) f e _ (by omega) hf)
      have hnew : nI j = -1 ∨ ∃ i, i < 4096 ∧ nI j = nI i := Or.inr ⟨j, by omega, rfl⟩
      have tl : ∀ (q : Nat) (v5 : Int32), hk_wp (d + 2) none hk_c208 k (q + 90) (hk_sfx 55 hk_c208) [some (.ref 40), some (.int z), some (.int f), some (.int e), some (.int (nI j)), l5] [.int v5] (s, lm, hk_RH i0 i1 b, al) := by
        intro q v5
        refine And.intro (fun c3 => ?_) (fun c3 => ?_)
        · refine And.intro (fun c4 => ?_) (fun c4 => ?_)
          · refine And.intro (fun c5 => ?_) (fun c5 => ?_)
            · exact nx _ _ _ hf
            · exact nx _ _ _ hnew
          · refine And.intro (fun c5 => ?_) (fun c5 => ?_)
            · exact nx _ _ _ hf
            · exact nx _ _ _ hnew
        · refine And.intro (fun c5 => ?_) (fun c5 => ?_)
          · exact nx _ _ _ hf
          · exact nx _ _ _ hnew
      refine hk_hd (n := 1000) (t := 19) rfl ?_
      refine And.intro (fun hc => absurd hc a1) (fun _ => ?_)
      refine m_tellsT en hn (fun u hu => ?_)
      refine And.intro (fun c1 => ?_) (fun c1 => ?_)
      · exact hk_Rn_cast (by rw [← nI_1 j]; rfl) (ih (j + 1) f e l5 (by omega) hf)
      refine And.intro (fun c2 => ?_) (fun c2 => ?_)
      · refine m_pop (by omega) (fun m1 hm1 => ?_)
        have c2 : ¬ f = -1 := c2
        obtain ⟨i, hi, ei⟩ := hf.elim (fun e => absurd e c2) id
        refine hk_Cl_arg (show [Value.int f] = [Value.int (nI i)] by rw [ei]) ?_
        refine m_pop (by omega) (fun m2 hm2 => ?_)
        exact tl _ _
      · exact tl _ _
  exact loop 4096 0 (-1) 0 none (by omega) (Or.inl rfl)
end HKC5
