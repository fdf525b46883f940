/-! ===== the reference tells; replace, unlike ===== -/
theorem hk_FP_41 {s s2 : Nat → Nat → Int32} (h : hk_FP s s2) : s2 41 = s 41 := by
  funext q
  exact h 41 q (by omega) (by omega) (by omega) (by omega)
theorem hk_FP_G {s s2 : Nat → Nat → Int32} (h : hk_FP s s2) : hk_Gm s s2 := ⟨fun p q hp => h p q (by omega) (by omega) (by omega) (by omega), fun q _ => h 41 q (by omega) (by omega) (by omega) (by omega)⟩
section HKC4
variable {d n a bb r i k m o : Nat} {v w x y z : Int32} {s : Nat → Nat → Int32} {lm : Nat → Nat → Int64} {i0 i1 b : Nat} {al : List Nat} {K : Option Value → hk_H → Prop}
theorem m_twoOf {u1 u2 : Int64} {hp : hk_H} (h1 : ∀ u, K (some (.long u)) hp) : hk_Cl (d + 1) 172 [.int v, .long u1, .long u2] hp K := by
  refine hk_mth hk_m172 rfl rfl (n := 1000) ?_
  refine And.intro (fun c0 => ?_) (fun c0 => ?_)
  · exact h1 _
  refine And.intro (fun c0 => ?_) (fun c0 => ?_)
  · refine And.intro (fun c1 => ?_) (fun c1 => ?_)
    · refine And.intro (fun h => c1 (by rw [show u2 = 0 from h]; exact hk_lc0 0)) ?_
      exact h1 _
    · exact h1 _
  refine And.intro (fun c0 => ?_) (fun c0 => ?_)
  · exact h1 _
  refine And.intro (fun c0 => ?_) (fun c0 => ?_)
  · exact h1 _
  refine And.intro (fun c0 => ?_) (fun c0 => ?_)
  · refine And.intro (fun c1 => ?_) (fun c1 => ?_)
    · exact h1 _
    · exact h1 _
  refine And.intro (fun c0 => ?_) (fun c0 => ?_)
  · refine And.intro (fun c1 => ?_) (fun c1 => ?_)
    · exact h1 _
    · exact h1 _
  refine And.intro (fun c0 => ?_) (fun c0 => ?_)
  · refine And.intro (fun c1 => ?_) (fun c1 => ?_)
    · exact h1 _
    · exact h1 _
  refine And.intro (fun c0 => ?_) (fun c0 => ?_)
  · refine And.intro (fun c1 => ?_) (fun c1 => ?_)
    · exact h1 _
    refine And.intro (fun c2 => ?_) (fun c2 => ?_)
    · exact h1 _
    · exact h1 _
  refine And.intro (fun c1 => ?_) (fun c1 => ?_)
  · exact h1 _
  refine And.intro (fun c2 => ?_) (fun c2 => ?_)
  · exact h1 _
  · exact h1 _
theorem m_named (h : hk_RI (s 41) a bb r) {p : Nat} (hp : p < bb) (h1 : ∀ u, K (some (.long u)) (s, lm, hk_RH i0 i1 b, al)) : hk_Cl (d + 3) 171 [.ref 40, .int (nI p), .int w] (s, lm, hk_RH i0 i1 b, al) K := by
  have ha := h.1.1
  have hb := h.1.2.1
  refine hk_mth hk_m171 rfl rfl (n := 1000) ?_
  refine And.intro (fun c0 => ?_) (fun c0 => ?_)
  · refine m_plateOf (c := 2) (by omega) ?_
    exact h1 _
  refine And.intro (fun c0 => ?_) (fun c0 => ?_)
  · refine hk_ldi (i := nI 7) (j := 7) (by simp only [hk_lit, pk_mul, nI_add]) (by omega) (by decide) rfl ?_
    refine m_plateOf (c := 4) (by omega) ?_
    exact h1 _
  refine And.intro (fun c0 => ?_) (fun c0 => ?_)
  · refine m_plateOf (c := 1) (by omega) ?_
    exact h1 _
  refine And.intro (fun c0 => ?_) (fun c0 => ?_)
  · obtain ⟨⟨i, hi, ei⟩, _⟩ := h.2.2.2.2.1 p hp
    have ei' : s 41 (80 + 6 * p + 0) = nI i := ei
    refine m_plateOf (c := 0) (by omega) ?_
    refine hk_Cl_arg (show [Value.ref 40, .int (s 41 (80 + 6 * p + 0))] = [Value.ref 40, .int (nI i)] by rw [ei']) ?_
    refine m_firstStuff h.2.1.2.1 hb (by omega) (fun u => ?_)
    exact h1 _
  refine And.intro (fun c0 => ?_) (fun c0 => ?_)
  · refine m_plateOf (c := 5) (by omega) ?_
    exact h1 _
  refine m_plateOf (c := 3) (by omega) ?_
  exact h1 _
set_option maxHeartbeats 1000000 in
theorem m_tellsOf (h : hk_RI (s 41) a bb r) {p k : Nat} (hp : p < bb) (hk : s 40 4 = nI k) (hk2 : k ≤ 60) (hv : ∃ q, hk_vh (s 45) k = some q) (h1 : ∀ lm2 u, K (some (.long u)) (s, lm2, hk_RH i0 i1 b, al)) : hk_Cl (d + 4) 170 [.ref 40, .int (nI p)] (s, lm, hk_RH i0 i1 b, al) K := by
  have hb := h.1.2.1
  have pre : ∀ j, j ≤ k → ∃ q, hk_vh (s 45) j = some q := by
    intro j
    have : ∀ g j, j + g = k → ∃ q, hk_vh (s 45) j = some q := by
      intro g
      induction g with
      | zero => intro j hj; rw [show j = k by omega]; exact hv
      | succ g ih =>
        intro j hj
        obtain ⟨q, hq⟩ := ih (j + 1) (by omega)
        rw [hk_vh] at hq
        cases e : hk_vh (s 45) j with
        | none => rw [e] at hq; cases hq
        | some q2 => exact ⟨q2, rfl⟩
    intro hj
    exact this (k - j) j (by omega)
  have loop : ∀ (g j q : Nat) (lm : Nat → Nat → Int64) (l4 : Option Value), j + g = k → hk_vh (s 45) j = some q → q ≤ j → hk_Rn (d + 3) none hk_c170 (hk_sfx 4 hk_c170) [some (.ref 40), some (.int (nI p)), some (.int (nI q)), some (.int (nI j)), l4] [] (s, lm, hk_RH i0 i1 b, al) K := by
    intro g
    induction g with
    | zero =>
      intro j q lm l4 hj hq hqj
      have e : j = k := by omega
      subst e
      have a1 : s 40 4 ≤ nI j := by rw [hk]; exact Int32.le_refl _
      refine hk_hd (n := 1000) (t := 4) rfl ?_
      refine And.intro (fun _ => ?_) (fun hc => absurd a1 hc)
      refine And.intro (show vp_in (nI 0) 70 from vp_in_nI (by omega) (by decide)) ?_
      exact h1 _ _
    | succ g ih =>
      intro j q lm l4 hj hq hqj
      have a1 : ¬ s 40 4 ≤ nI j := by rw [hk]; exact hk_nlt (by omega) (by omega)
      obtain ⟨q2, hq2⟩ := pre (j + 1) (by omega)
      have hq3 := hq2
      rw [hk_vh, hq] at hq3
      simp only [Option.bind_some] at hq3
      have nx : ∀ (lm : Nat → Nat → Int64) (q2 : Nat) (v4 : Int32), hk_vh (s 45) (j + 1) = some q2 → q2 ≤ j + 1 → hk_Rn (d + 3) none hk_c170 (hk_sfx 4 hk_c170) [some (.ref 40), some (.int (nI p)), some (.int (nI q2)), some (.int (nI j + 1)), some (.int v4)] [] (s, lm, hk_RH i0 i1 b, al) K := fun lm q2 v4 h1 h2 => hk_Rn_cast (by rw [nI_1]) (ih (j + 1) q2 lm _ (by omega) h1 h2)
      refine hk_hd (n := 1000) (t := 4) rfl ?_
      refine And.intro (fun hc => absurd hc a1) (fun _ => ?_)
      refine hk_ldi (i := nI j) (j := j) (by simp only [hk_lit, pk_mul, nI_add]) (by omega) (by decide) rfl ?_
      refine And.intro (fun c0 => ?_) (fun c0 => ?_)
      · -- PUSH
        have c0 : s 45 j = 0 := c0
        rw [if_pos (Or.inl c0)] at hq3
        refine And.intro (fun hc => absurd hc (show ¬ ¬ s 45 j = 0 from fun q => q c0)) (fun _ => ?_)
        refine hk_ldi (i := nI j) (j := j) (by simp only [hk_lit, pk_mul, nI_add]) (by omega) (by decide) rfl ?_
        refine And.intro (show vp_in (nI q) 70 from vp_in_nI (by omega) (by decide)) ?_
        cases hq3
        exact hk_Rn_cast (by rw [← nI_1 q]; rfl) (nx _ (q + 1) _ hq2 (by omega))
      have c0 : ¬ s 45 j = 0 := c0
      refine And.intro (fun c1 => ?_) (fun c1 => ?_)
      rotate_left
      · have c1 : s 45 j = 1 := Classical.not_not.mp c1
        rw [if_pos (Or.inr c1)] at hq3
        refine And.intro (fun _ => ?_) (fun hc => absurd c0 hc)
        refine hk_ldi (i := nI j) (j := j) (by simp only [hk_lit, pk_mul, nI_add]) (by omega) (by decide) rfl ?_
        refine m_named h hp (fun u => ?_)
        refine And.intro (show vp_in (nI q) 70 from vp_in_nI (by omega) (by decide)) ?_
        cases hq3
        exact hk_Rn_cast (by rw [← nI_1 q]; rfl) (nx _ (q + 1) _ hq2 (by omega))
      have c1 : ¬ s 45 j = 1 := c1
      rw [if_neg (fun e => e.elim c0 c1)] at hq3
      refine And.intro (fun c2 => ?_) (fun c2 => ?_)
      rotate_left
      · have c2 : s 45 j = 3 := Classical.not_not.mp c2
        rw [if_pos (Or.inr c2)] at hq3
        by_cases hq1 : 1 ≤ q
        · rw [if_pos hq1] at hq3
          cases hq3
          have vi : vp_in (nI q - 1) 70 := by
            obtain ⟨q4, rfl⟩ : ∃ q4, q = q4 + 1 := ⟨q - 1, by omega⟩
            rw [nI_pred]
            exact vp_in_nI (by omega) (by decide)
          refine And.intro vi ?_
          refine And.intro vi ?_
          exact nx _ q _ hq2 (by omega)
        · rw [if_neg hq1] at hq3
          cases hq3
      have c2 : ¬ s 45 j = 3 := c2
      refine And.intro (fun c3 => ?_) (fun c3 => ?_)
      rotate_left
      · have c3 : s 45 j = 2 := Classical.not_not.mp c3
        rw [if_pos (Or.inl c3)] at hq3
        by_cases hq1 : 1 ≤ q
        · rw [if_pos hq1] at hq3
          cases hq3
          have vi : vp_in (nI q - 1) 70 := by
            obtain ⟨q4, rfl⟩ : ∃ q4, q = q4 + 1 := ⟨q - 1, by omega⟩
            rw [nI_pred]
            exact vp_in_nI (by omega) (by decide)
          refine And.intro vi ?_
          refine And.intro (fun c4 => ?_) (fun c4 => ?_)
          · refine And.intro vi ?_
            exact nx _ q _ hq2 (by omega)
          · refine And.intro vi ?_
            exact nx _ q _ hq2 (by omega)
        · rw [if_neg hq1] at hq3
          cases hq3
      have c3 : ¬ s 45 j = 2 := c3
      rw [if_neg (fun e => e.elim c3 c2)] at hq3
      by_cases hq1 : 2 ≤ q
      · rw [if_pos hq1] at hq3
        cases hq3
        obtain ⟨q4, rfl⟩ : ∃ q4, q = q4 + 2 := ⟨q - 2, by omega⟩
        have e1 : nI (q4 + 2) + -1 = nI (q4 + 1) := pk_m1 (q4 + 1)
        have vi : vp_in (nI (q4 + 2) + -1 - 1) 70 := by
          rw [e1, nI_pred]
          exact vp_in_nI (by omega) (by decide)
        have vj : vp_in (nI (q4 + 2) + -1) 70 := by
          rw [e1]
          exact vp_in_nI (by omega) (by decide)
        refine And.intro vi ?_
        refine And.intro vj ?_
        refine m_twoOf (fun u => ?_)
        refine And.intro vi ?_
        refine hk_Rn_cast (by rw [show nI (q4 + 2 - 1) = nI (q4 + 1) from rfl, ← e1]; rfl) (nx _ (q4 + 2 - 1) _ hq2 (by omega))
      · rw [if_neg hq1] at hq3
        cases hq3
  refine hk_mth hk_m170 rfl rfl (n := 1000) ?_
  exact loop k 0 0 lm none (by omega) rfl (by omega)
end HKC4
