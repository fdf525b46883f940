/-! ===== Table ===== -/
section HKT
variable {d t n : Nat} {r c v : Int32} {s : Nat → Nat → Int32} {lm : Nat → Nat → Int64} {i0 i1 b : Nat} {al : List Nat} {k : Option Value → hk_H → Prop}
/-- a row that is there; one that isn't -/
theorem c_has (ht : hk_tb t) (h1 : ¬ r < 0 → ¬ s t 3 ≤ r → k (some (.int 1)) (s, lm, hk_RH i0 i1 b, al)) (h0 : r < 0 ∨ s t 3 ≤ r → k (some (.int 0)) (s, lm, hk_RH i0 i1 b, al)) : hk_Cl (d + 1) 14 [.ref t, .int r] (s, lm, hk_RH i0 i1 b, al) k := by
  rcases ht with rfl | rfl | rfl | rfl | rfl | rfl | rfl | rfl | rfl
  all_goals
    refine hk_mth hk_m14 rfl rfl (n := 1000) ?_
    refine And.intro (fun c1 => ?_) (fun c1 => ?_)
    · exact And.intro (Or.inl rfl) (h0 (Or.inl c1))
    refine And.intro (fun c2 => ?_) (fun c2 => ?_)
    · exact And.intro (Or.inl rfl) (h0 (Or.inr c2))
    exact And.intro (Or.inr rfl) (h1 c1 c2)
theorem c_full (ht : hk_tb t) (h1 : s t 0 ≤ s t 3 → k (some (.int 1)) (s, lm, hk_RH i0 i1 b, al)) (h0 : s t 3 < s t 0 → k (some (.int 0)) (s, lm, hk_RH i0 i1 b, al)) : hk_Cl (d + 1) 4 [.ref t] (s, lm, hk_RH i0 i1 b, al) k := by
  rcases ht with rfl | rfl | rfl | rfl | rfl | rfl | rfl | rfl | rfl
  all_goals
    refine hk_mth hk_m4 rfl rfl (n := 1000) ?_
    refine And.intro (fun c1 => ?_) (fun c1 => ?_)
    · exact And.intro (Or.inl rfl) (h0 c1)
    · exact And.intro (Or.inr rfl) (h1 (Int32.not_lt.mp c1))
/-- a cell's place -/
theorem hk_cell (ht : hk_tb t) (hw : hk_tw s t n) {i j m : Nat} (hi : i < m) (hm : m ≤ hk_mo t) (hj : j < hk_co t) : vp_in (nI i * s t 1 + nI j) (hk_mo t * hk_co t) ∧ (nI i * s t 1 + nI j).toNatClampNeg = i * hk_co t + j := by
  rw [hw.2.1]
  have h1 : hk_mo t * hk_co t < 2 ^ 30 := by rcases ht with rfl | rfl | rfl | rfl | rfl | rfl | rfl | rfl | rfl <;> decide
  obtain ⟨h2, h3, h4, h5⟩ := hk_ixin hi hm hj h1
  exact ⟨h4, h5⟩
theorem hk_mo31 (ht : hk_tb t) : hk_mo t < 2 ^ 30 ∧ hk_co t < 2 ^ 30 := by
  rcases ht with rfl | rfl | rfl | rfl | rfl | rfl | rfl | rfl | rfl <;> decide
theorem c_get_in (ht : hk_tb t) (hw : hk_tw s t n) {i j : Nat} (hi : i < n) (hj : j < hk_co t) (h1 : k (some (.int (s (t + 1) (i * hk_co t + j)))) (s, lm, hk_RH i0 i1 b, al)) : hk_Cl (d + 1) 16 [.ref t, .int (nI i), .int (nI j)] (s, lm, hk_RH i0 i1 b, al) k := by
  obtain ⟨g1, g2⟩ := hk_cell ht hw hi hw.2.2.2 hj
  obtain ⟨g3, g4⟩ := hk_mo31 ht
  have a1 : ¬ nI i < 0 := nI_pos (by have := hw.2.2.2; omega)
  have a2 : ¬ s t 3 ≤ nI i := by rw [hw.2.2.1]; exact hk_nlt hi (by have := hw.2.2.2; omega)
  have a3 : ¬ nI j < 0 := nI_pos (by omega)
  have a4 : nI j < s t 1 := by rw [hw.2.1]; exact nI_lt hj (by omega)
  rw [← g2] at h1
  rcases ht with rfl | rfl | rfl | rfl | rfl | rfl | rfl | rfl | rfl
  all_goals
    refine hk_mth hk_m16 rfl rfl (n := 1000) ?_
    refine And.intro (fun hc => absurd hc a1) (fun _ => ?_)
    refine And.intro (fun hc => absurd hc a2) (fun _ => ?_)
    refine And.intro (fun hc => absurd hc a3) (fun _ => ?_)
    refine And.intro (fun _ => ?_) (fun hc => absurd a4 hc)
    exact And.intro g1 h1
theorem c_get_out (ht : hk_tb t) (hr : r < 0 ∨ s t 3 ≤ r) (h1 : k (some (.int 0)) (s, lm, hk_RH i0 i1 b, al)) : hk_Cl (d + 1) 16 [.ref t, .int r, .int c] (s, lm, hk_RH i0 i1 b, al) k := by
  rcases ht with rfl | rfl | rfl | rfl | rfl | rfl | rfl | rfl | rfl
  all_goals
    refine hk_mth hk_m16 rfl rfl (n := 1000) ?_
    refine And.intro (fun c1 => ?_) (fun c1 => ?_)
    · exact h1
    refine And.intro (fun c2 => ?_) (fun c2 => ?_)
    · exact h1
    exact absurd hr (fun q => q.elim c1 c2)
theorem c_put_in (ht : hk_tb t) (hw : hk_tw s t n) {i j : Nat} (hi : i < hk_mo t) (hj : j < hk_co t) (h1 : k none (hk_u2 s (t + 1) (i * hk_co t + j) v, lm, hk_RH i0 i1 b, al)) : hk_Cl (d + 1) 5 [.ref t, .int (nI i), .int (nI j), .int v] (s, lm, hk_RH i0 i1 b, al) k := by
  obtain ⟨g1, g2⟩ := hk_cell ht hw hi (Nat.le_refl _) hj
  obtain ⟨g3, g4⟩ := hk_mo31 ht
  have a1 : ¬ nI i < 0 := nI_pos (by omega)
  have a2 : ¬ s t 0 ≤ nI i := by rw [hw.1]; exact hk_nlt hi (by omega)
  have a3 : ¬ nI j < 0 := nI_pos (by omega)
  have a4 : ¬ s t 1 ≤ nI j := by rw [hw.2.1]; exact hk_nlt hj (by omega)
  rw [← g2] at h1
  rcases ht with rfl | rfl | rfl | rfl | rfl | rfl | rfl | rfl | rfl
  all_goals
    refine hk_mth hk_m5 rfl rfl (n := 1000) ?_
    refine And.intro (fun hc => absurd hc a1) (fun _ => ?_)
    refine And.intro (fun hc => absurd hc a2) (fun _ => ?_)
    refine And.intro (fun hc => absurd hc a3) (fun _ => ?_)
    refine And.intro (fun hc => absurd hc a4) (fun _ => ?_)
    exact And.intro g1 h1
end HKT
