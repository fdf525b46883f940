/-! ===== the reference: hands, storms ===== -/
section HKC6
variable {d n a bb r : Nat} {v w x y z : Int32} {s : Nat → Nat → Int32} {lm : Nat → Nat → Int64} {i0 i1 b : Nat} {al : List Nat} {k : Option Value → hk_H → Prop}
set_option maxHeartbeats 600000 in
theorem m_canDo {nh nw : Nat} (h5 : s 41 5 = nI nh) (hh : nh ≤ 8) (h6 : s 41 6 = nI nw) (hw : nw ≤ 8) (h1 : ∀ u, k (some (.int u)) (s, lm, hk_RH i0 i1 b, al)) : hk_Cl (d + 1) 215 [.ref 40, .int v] (s, lm, hk_RH i0 i1 b, al) k := by
  have loop : ∀ (q j : Nat) (l3 l4 l5 : Option Value), j + q = 32 → hk_Rn d none hk_c215 (hk_sfx 2 hk_c215) [some (.ref 40), some (.int v), some (.int (nI j)), l3, l4, l5] [] (s, lm, hk_RH i0 i1 b, al) k := by
    intro q
    induction q with
    | zero =>
      intro j l3 l4 l5 hj
      have e : j = 32 := by omega
      subst e
      refine hk_hd (n := 1000) (t := 2) rfl ?_
      refine And.intro (fun _ => ?_) (fun hc => absurd (show (32 : Int32) ≤ nI 32 by decide) hc)
      exact And.intro (Or.inr rfl) (h1 _)
    | succ q ih =>
      intro j l3 l4 l5 hj
      have a1 : ¬ nI 32 ≤ nI j := hk_nlt (by omega) (by omega)
      have l73 : ∀ (q i : Nat) (e : Int32) (l5 : Option Value), i + q = nw → hk_Rn d none hk_c215 (hk_sfx 73 hk_c215) [some (.ref 40), some (.int v), some (.int (nI j)), some (.int e), some (.int (nI i)), l5] [] (s, lm, hk_RH i0 i1 b, al) k := by
        intro q
        induction q with
        | zero =>
          intro i e l5 hi
          have ei : i = nw := by omega
          subst ei
          refine hk_hd (n := 1000) (t := 73) rfl ?_
          refine hk_ldi (i := nI 6) (j := 6) (by simp only [hk_lit, pk_mul, nI_add]) (by omega) (by decide) h6 ?_
          refine And.intro (fun _ => ?_) (fun hc => absurd (Int32.le_refl _) hc)
          refine And.intro (fun c1 => ?_) (fun c1 => ?_)
          · exact hk_Rn_cast (by rw [← nI_1 j]; rfl) (ih (j + 1) _ _ l5 (by omega))
          · exact And.intro (Or.inl rfl) (h1 _)
        | succ q ih2 =>
          intro i e l5 hi
          have a2 : ¬ nI nw ≤ nI i := hk_nlt (by omega) (by omega)
          refine hk_hd (n := 1000) (t := 73) rfl ?_
          refine hk_ldi (i := nI 6) (j := 6) (by simp only [hk_lit, pk_mul, nI_add]) (by omega) (by decide) h6 ?_
          refine And.intro (fun hc => absurd hc a2) (fun _ => ?_)
          refine And.intro (fun c1 => ?_) (fun c1 => ?_)
          · refine And.intro (fun _ => ?_) (fun hc => absurd (by decide) hc)
            exact hk_Rn_cast (by rw [← nI_1 i]; rfl) (ih2 (i + 1) _ _ (by omega))
          refine hk_ldi (i := 1824 + 3 * nI i) (j := 1824 + 3 * i) (by simp only [hk_lit, pk_mul, nI_add]) (by omega) (by decide) rfl ?_
          refine And.intro (fun c2 => ?_) (fun c2 => ?_)
          · refine And.intro (fun _ => ?_) (fun hc => absurd (by decide) hc)
            exact hk_Rn_cast (by rw [← nI_1 i]; rfl) (ih2 (i + 1) _ _ (by omega))
          · refine And.intro (fun hc => absurd hc (by decide)) (fun _ => ?_)
            refine hk_ldi (i := 1824 + 3 * nI i + 1) (j := 1824 + 3 * i + 1) (by simp only [hk_lit, pk_mul, nI_add]) (by omega) (by decide) rfl ?_
            exact hk_Rn_cast (by rw [← nI_1 i]; rfl) (ih2 (i + 1) _ _ (by omega))
      have l13 : ∀ (q i : Nat) (e : Int32) (l5 : Option Value), i + q = nh → hk_Rn d none hk_c215 (hk_sfx 13 hk_c215) [some (.ref 40), some (.int v), some (.int (nI j)), some (.int e), some (.int (nI i)), l5] [] (s, lm, hk_RH i0 i1 b, al) k := by
        intro q
        induction q with
        | zero =>
          intro i e l5 hi
          have ei : i = nh := by omega
          subst ei
          refine hk_hd (n := 1000) (t := 13) rfl ?_
          refine hk_ldi (i := nI 5) (j := 5) (by simp only [hk_lit, pk_mul, nI_add]) (by omega) (by decide) h5 ?_
          refine And.intro (fun _ => ?_) (fun hc => absurd (Int32.le_refl _) hc)
          exact l73 nw 0 e l5 (by omega)
        | succ q ih2 =>
          intro i e l5 hi
          have a2 : ¬ nI nh ≤ nI i := hk_nlt (by omega) (by omega)
          refine hk_hd (n := 1000) (t := 13) rfl ?_
          refine hk_ldi (i := nI 5) (j := 5) (by simp only [hk_lit, pk_mul, nI_add]) (by omega) (by decide) h5 ?_
          refine And.intro (fun hc => absurd hc a2) (fun _ => ?_)
          refine hk_ldi (i := 1808 + 2 * nI i) (j := 1808 + 2 * i) (by simp only [hk_lit, pk_mul, nI_add]) (by omega) (by decide) rfl ?_
          refine And.intro (fun c1 => ?_) (fun c1 => ?_)
          · exact hk_Rn_cast (by rw [← nI_1 i]; rfl) (ih2 (i + 1) _ _ (by omega))
          · refine hk_ldi (i := 1808 + 2 * nI i + 1) (j := 1808 + 2 * i + 1) (by simp only [hk_lit, pk_mul, nI_add]) (by omega) (by decide) rfl ?_
            exact hk_Rn_cast (by rw [← nI_1 i]; rfl) (ih2 (i + 1) _ _ (by omega))
      refine hk_hd (n := 1000) (t := 2) rfl ?_
      refine And.intro (fun hc => absurd hc a1) (fun _ => ?_)
      exact l13 nh 0 0 l5 (by omega)
  refine hk_mth hk_m215 rfl rfl (n := 1000) ?_
  exact loop 31 1 none none none (by omega)
theorem m_done (h : hk_RI (s 41) a bb r) (h1 : ∀ u, k (some (.int u)) (s, lm, hk_RH i0 i1 b, al)) : hk_Cl (d + 3) 214 [.ref 40, .int z] (s, lm, hk_RH i0 i1 b, al) k := by
  obtain ⟨nh, hh, eh⟩ := h.2.2.2.2.2.2.2.2.2.2.1
  obtain ⟨nw, hw, ew, _⟩ := h.2.2.2.2.2.2.2.2.2.2.2.1
  have eb : (1 : Int32) <<< (nI nw &&& 31) = nI (2 ^ nw) := by
    match nw, hw with
    | 0, _ => decide
    | 1, _ => decide
    | 2, _ => decide
    | 3, _ => decide
    | 4, _ => decide
    | 5, _ => decide
    | 6, _ => decide
    | 7, _ => decide
    | 8, _ => decide
  have hp : 2 ^ nw ≤ 256 := Nat.pow_le_pow_right (n := 2) (by omega) hw
  have hp1 : 1 ≤ 2 ^ nw := Nat.one_le_two_pow
  refine hk_mth hk_m214 rfl rfl (n := 1000) ?_
  refine m_in (fun _ _ => ?_) (fun _ => ?_)
  rotate_left
  · refine And.intro (fun hc => absurd hc (by decide)) (fun _ => ?_)
    exact h1 _
  refine And.intro (fun _ => ?_) (fun hc => absurd (by decide) hc)
  have loop : ∀ (g j : Nat) (e f : Int32) (l5 l6 : Option Value), j + g = 2 ^ nw → hk_Rn (d + 2) none hk_c214 (hk_sfx 19 hk_c214) [some (.ref 40), some (.int z), some (.int e), some (.int f), some (.int (nI j)), l5, l6] [] (s, lm, hk_RH i0 i1 b, al) k := by
    intro g
    induction g with
    | zero =>
      intro j e f l5 l6 hj
      have ej : j = 2 ^ nw := by omega
      have a1 : (1 : Int32) <<< (nI nw &&& 31) ≤ nI j := by rw [eb, ej]; exact Int32.le_refl _
      refine hk_hd (n := 1000) (t := 19) rfl ?_
      refine hk_ldi (i := nI 6) (j := 6) (by simp only [hk_lit, pk_mul, nI_add]) (by omega) (by decide) ew ?_
      refine And.intro (fun _ => ?_) (fun hc => absurd a1 hc)
      refine And.intro (fun c1 => ?_) (fun c1 => ?_)
      · exact h1 _
      · exact h1 _
    | succ g ih =>
      intro j e f l5 l6 hj
      have a1 : ¬ (1 : Int32) <<< (nI nw &&& 31) ≤ nI j := by rw [eb]; exact hk_nlt (by omega) (by omega)
      have nx : ∀ (e f v5 v6 : Int32), hk_Rn (d + 2) none hk_c214 (hk_sfx 19 hk_c214) [some (.ref 40), some (.int z), some (.int e), some (.int f), some (.int (nI j + 1)), some (.int v5), some (.int v6)] [] (s, lm, hk_RH i0 i1 b, al) k := fun e f v5 v6 => hk_Rn_cast (by rw [nI_1]) (ih (j + 1) e f _ _ (by omega))
      have l39 : ∀ (g i : Nat) (w5 : Int32), i + g = nw → hk_Rn (d + 2) none hk_c214 (hk_sfx 39 hk_c214) [some (.ref 40), some (.int z), some (.int e), some (.int f), some (.int (nI j)), some (.int w5), some (.int (nI i))] [] (s, lm, hk_RH i0 i1 b, al) k := by
        intro g
        induction g with
        | zero =>
          intro i w5 hi
          have ei : i = nw := by omega
          subst ei
          refine hk_hd (n := 1000) (t := 39) rfl ?_
          refine hk_ldi (i := nI 6) (j := 6) (by simp only [hk_lit, pk_mul, nI_add]) (by omega) (by decide) ew ?_
          refine And.intro (fun _ => ?_) (fun hc => absurd (Int32.le_refl _) hc)
          refine And.intro (fun c1 => ?_) (fun c1 => ?_)
          · exact nx _ _ _ _
          refine m_canDo eh hh ew hw (fun u => ?_)
          refine And.intro (fun c2 => ?_) (fun c2 => ?_)
          · exact nx _ _ _ _
          · exact nx _ _ _ _
        | succ g ih2 =>
          intro i w5 hi
          have a2 : ¬ nI nw ≤ nI i := hk_nlt (by omega) (by omega)
          refine hk_hd (n := 1000) (t := 39) rfl ?_
          refine hk_ldi (i := nI 6) (j := 6) (by simp only [hk_lit, pk_mul, nI_add]) (by omega) (by decide) ew ?_
          refine And.intro (fun hc => absurd hc a2) (fun _ => ?_)
          refine And.intro (fun c1 => ?_) (fun c1 => ?_)
          · exact hk_Rn_cast (by rw [← nI_1 i]; rfl) (ih2 (i + 1) _ (by omega))
          · refine hk_ldi (i := 1824 + 3 * nI i + 2) (j := 1824 + 3 * i + 2) (by simp only [hk_lit, pk_mul, nI_add]) (by omega) (by decide) rfl ?_
            exact hk_Rn_cast (by rw [← nI_1 i]; rfl) (ih2 (i + 1) _ (by omega))
      refine hk_hd (n := 1000) (t := 19) rfl ?_
      refine hk_ldi (i := nI 6) (j := 6) (by simp only [hk_lit, pk_mul, nI_add]) (by omega) (by decide) ew ?_
      refine And.intro (fun hc => absurd hc a1) (fun _ => ?_)
      exact l39 nw 0 0 (by omega)
  exact loop (2 ^ nw - 1) 1 0 0 none none (by omega)
/-- a storm is tried -/
def hk_Wt (s s3 : Nat → Nat → Int32) : Prop := (∀ p q, p < 40 ∨ 51 ≤ p ∨ p = 43 ∨ p = 44 → s3 p q = s p q) ∧ ∀ q, q < 2448 → s3 42 q = s 41 q
set_option maxHeartbeats 1000000 in
theorem m_worst (h : hk_RI (s 41) a bb r) (h1 : ∀ s2 u, (∀ p q, p < 40 ∨ 51 ≤ p ∨ p = 43 ∨ p = 44 → s2 p q = s p q) → (∀ q, q < 2448 → s2 41 q = s 41 q) → k (some (.int u)) (s2, lm, hk_RH i0 i1 b, al)) : hk_Cl (d + 6) 216 [.ref 40, .int v, .int w, .int x] (s, lm, hk_RH i0 i1 b, al) k := by
  have z0 := fun u => h1 s u (fun _ _ _ => rfl) (fun _ _ => rfl)
  obtain ⟨q, hq2, hq⟩ := h.2.2.2.2.2.2.1
  refine hk_mth hk_m216 rfl rfl (n := 1000) ?_
  refine m_in (fun _ _ => ?_) (fun _ => ?_)
  rotate_left
  · refine And.intro (fun _ => ?_) (fun hc => absurd (by decide) hc)
    exact z0 _
  refine And.intro (fun hc => absurd hc (by decide)) (fun _ => ?_)
  refine m_isAhead (fun _ => ?_) (fun ah => ?_)
  · refine And.intro (fun _ => ?_) (fun hc => absurd (by decide) hc)
    exact z0 _
  refine And.intro (fun hc => absurd hc (by decide)) (fun _ => ?_)
  refine m_in (fun _ _ => ?_) (fun _ => ?_)
  rotate_left
  · refine And.intro (fun hc => absurd hc (by decide)) (fun _ => ?_)
    exact z0 _
  refine And.intro (fun _ => ?_) (fun hc => absurd (by decide) hc)
  obtain ⟨m, hm, rfl⟩ := hk_rg1 (m := 60) (by decide) ah.1
  have hqm : q + m ≤ 599 := by
    have h := ah.2
    rw [hq, nI_add] at h
    have h : ¬ nI 599 < nI (q + m) := h
    rw [nI_ltI (by omega) (by omega)] at h
    omega
  have loop : ∀ (g j : Nat) (W M : Int32) (s2 : Nat → Nat → Int32) (l8 l9 : Option Value), j + g = q + m → hk_Wt s s2 → (∀ q, q < 2448 → s2 41 q = s 41 q) → hk_Rn (d + 5) none hk_c216 (hk_sfx 80 hk_c216) [some (.ref 40), some (.int v), some (.int (nI m)), some (.int x), some (.int (nI q)), some (.int W), some (.int M), some (.int (nI j)), l8, l9] [] (s2, lm, hk_RH i0 i1 b, al) k := by
    intro g
    induction g with
    | zero =>
      intro j W M s2 l8 l9 hj hJ hr
      have a1 : nI q + nI m ≤ nI j := by rw [nI_add]; exact nI_le (by omega) (by omega)
      refine hk_hd (n := 1000) (t := 80) rfl ?_
      refine And.intro (fun _ => ?_) (fun hc => absurd a1 hc)
      refine And.intro (fun c1 => ?_) (fun c1 => ?_)
      · exact h1 s2 _ hJ.1 hr
      · exact h1 s2 _ hJ.1 hr
    | succ g ih =>
      intro j W M s2 l8 l9 hj hJ hr
      have a1 : ¬ nI q + nI m ≤ nI j := by rw [nI_add]; exact hk_nlt (by omega) (by omega)
      have l155 : ∀ (g i : Nat) (W M : Int32) (v8 : Int32) (s3 : Nat → Nat → Int32), i + g = 2448 → hk_Wt s s3 → (∀ z, z < i → s3 41 z = s 41 z) → hk_Rn (d + 5) none hk_c216 (hk_sfx 155 hk_c216) [some (.ref 40), some (.int v), some (.int (nI m)), some (.int x), some (.int (nI q)), some (.int W), some (.int M), some (.int (nI j)), some (.int v8), some (.int (nI i))] [] (s3, lm, hk_RH i0 i1 b, al) k := by
        intro g
        induction g with
        | zero =>
          intro i W M v8 s3 hi hJ3 hr3
          have e : i = 2448 := by omega
          subst e
          refine hk_hd (n := 1000) (t := 155) rfl ?_
          refine And.intro (fun _ => ?_) (fun hc => absurd (show (2448 : Int32) ≤ nI 2448 by decide) hc)
          exact hk_Rn_cast (by rw [← nI_1 j]; rfl) (ih (j + 1) W M s3 (some (.int v8)) (some (.int (nI 2448))) (by omega) hJ3 hr3)
        | succ g ih2 =>
          intro i W M v8 s3 hi hJ3 hr3
          have b1 : ¬ nI 2448 ≤ nI i := hk_nlt (by omega) (by omega)
          refine hk_hd (n := 1000) (t := 155) rfl ?_
          refine And.intro (fun hc => absurd hc b1) (fun _ => ?_)
          refine hk_ldi (i := nI i) (j := i) (by simp only [hk_lit, pk_mul, nI_add]) (by omega) (by decide) (hJ3.2 i (by omega)) ?_
          refine hk_stn (i := nI i) (j := i) (by simp only [hk_lit, pk_mul, nI_add]) (by omega) (by decide) (fun s4 (hs4 : s4 = hk_u2 s3 41 (i) (s 41 i)) => ?_)
          refine hk_Rn_cast (by rw [← nI_1 i]; rfl) (ih2 (i + 1) W M v8 s4 (by omega) ⟨fun p z hp => ?_, fun z hz => ?_⟩ (fun z hz => ?_))
          · rw [hs4, hk_u2o (by omega)]; exact hJ3.1 p z hp
          · rw [hs4, hk_u2o (by omega)]; exact hJ3.2 z hz
          · rw [hs4]
            by_cases e : z = i
            · subst e; rw [hk_u2s]
            · rw [hk_u2o (by omega)]; exact hr3 z (by omega)
      have l110 : ∀ (g i : Nat) (e8 : Int32) (s3 : Nat → Nat → Int32), i + g = m → hk_Wt s s3 → hk_RI (s3 41) a bb r → s3 41 7 = nI (q + i) → hk_Rn (d + 5) none hk_c216 (hk_sfx 110 hk_c216) [some (.ref 40), some (.int v), some (.int (nI m)), some (.int x), some (.int (nI q)), some (.int W), some (.int M), some (.int (nI j)), some (.int e8), some (.int (nI i))] [] (s3, lm, hk_RH i0 i1 b, al) k := by
        intro g
        induction g with
        | zero =>
          intro i e8 s3 hi hJ3 h3 h7
          have e : i = m := by omega
          subst e
          refine hk_hd (n := 1000) (t := 110) rfl ?_
          refine And.intro (fun _ => ?_) (fun hc => absurd (Int32.le_refl _) hc)
          refine And.intro (fun c1 => ?_) (fun c1 => ?_)
          · exact l155 2448 0 _ _ e8 s3 (by omega) hJ3 (fun z hz => absurd hz (Nat.not_lt_zero z))
          refine And.intro (fun c2 => ?_) (fun c2 => ?_)
          · exact l155 2448 0 W M e8 s3 (by omega) hJ3 (fun z hz => absurd hz (Nat.not_lt_zero z))
          · exact l155 2448 0 _ _ e8 s3 (by omega) hJ3 (fun z hz => absurd hz (Nat.not_lt_zero z))
        | succ g ih2 =>
          intro i e8 s3 hi hJ3 h3 h7
          have b1 : ¬ nI m ≤ nI i := hk_nlt (by omega) (by omega)
          refine hk_hd (n := 1000) (t := 110) rfl ?_
          refine And.intro (fun hc => absurd hc b1) (fun _ => ?_)
          refine m_goes h3 h7 (by omega) (fun s4 u g4 h4 h74 => ?_)
          refine hk_Rn_cast (by rw [← nI_1 i]; rfl) (ih2 (i + 1) _ s4 (by omega) ⟨fun p z hp => ?_, fun z hz => ?_⟩ h4 h74)
          · rw [g4.1 p z (by omega)]; exact hJ3.1 p z hp
          · rw [g4.1 42 z (by omega)]; exact hJ3.2 z hz
      refine hk_hd (n := 1000) (t := 80) rfl ?_
      refine And.intro (fun hc => absurd hc a1) (fun _ => ?_)
      refine hk_ldi (i := 1848 + nI j) (j := 1848 + j) (by simp only [hk_lit, pk_mul, nI_add]) (by omega) (by decide) rfl ?_
      refine hk_stn (i := 1848 + nI j) (j := 1848 + j) (by simp only [hk_lit, pk_mul, nI_add]) (by omega) (by decide) (fun s3 (hs3 : s3 = hk_u2 s2 41 (1848 + j) (s2 41 (1848 + j) + v)) => ?_)
      refine l110 m 0 0 s3 (by omega) ⟨fun p z hp => ?_, fun z hz => ?_⟩ ?_ ?_
      · rw [hs3, hk_u2o (by omega)]; exact hJ.1 p z hp
      · rw [hs3, hk_u2o (by omega)]; exact hJ.2 z hz
      · rw [hs3]; exact hk_RI_41 (hk_RI_eq h hr) (by omega)
      · rw [hs3, hk_u2o (by omega), hr _ (by omega)]; exact hq
  have l33 : ∀ (g i : Nat) (s3 : Nat → Nat → Int32), i + g = 2448 → (∀ z, z < i → s3 42 z = s 41 z) → (∀ p z, p ≠ 42 → s3 p z = s p z) → hk_Rn (d + 5) none hk_c216 (hk_sfx 33 hk_c216) [some (.ref 40), some (.int v), some (.int (nI m)), some (.int x), some (.int (nI i)), none, none, none, none, none] [] (s3, lm, hk_RH i0 i1 b, al) k := by
    intro g
    induction g with
    | zero =>
      intro i s3 hi hz h3
      have e : i = 2448 := by omega
      subst e
      refine hk_hd (n := 1000) (t := 33) rfl ?_
      refine And.intro (fun _ => ?_) (fun hc => absurd (show (2448 : Int32) ≤ nI 2448 by decide) hc)
      refine hk_ldi (i := nI 7) (j := 7) (by simp only [hk_lit, pk_mul, nI_add]) (by omega) (by decide) ((h3 41 7 (by omega)).trans hq) ?_
      exact loop m q (-1) 0 s3 none none (by omega) ⟨fun p q hp => h3 p q (by omega), hz⟩ (fun z _ => h3 _ _ (by omega))
    | succ g ih =>
      intro i s3 hi hz h3
      have b1 : ¬ nI 2448 ≤ nI i := hk_nlt (by omega) (by omega)
      refine hk_hd (n := 1000) (t := 33) rfl ?_
      refine And.intro (fun hc => absurd hc b1) (fun _ => ?_)
      refine hk_ldi (i := nI i) (j := i) (by simp only [hk_lit, pk_mul, nI_add]) (by omega) (by decide) (h3 41 i (by omega)) ?_
      refine hk_stn (i := nI i) (j := i) (by simp only [hk_lit, pk_mul, nI_add]) (by omega) (by decide) (fun s4 (hs4 : s4 = hk_u2 s3 42 (i) (s 41 i)) => ?_)
      refine hk_Rn_cast (by rw [← nI_1 i]; rfl) (ih (i + 1) s4 (by omega) (fun z hz2 => ?_) (fun p z hp => ?_))
      · rw [hs4]
        by_cases e : z = i
        · subst e; rw [hk_u2s]
        · rw [hk_u2o (by omega)]; exact hz z (by omega)
      · rw [hs4, hk_u2o (by omega)]; exact h3 p z hp
  exact l33 2448 0 s (by omega) (fun z hz => absurd hz (Nat.not_lt_zero z)) (fun _ _ _ => rfl)
end HKC6
