/-! ===== digest, leaks, done, fault on fresh objects ===== -/
section HKR
variable {d t c n : Nat} {r v w x y z : Int32} {s : Nat → Nat → Int32} {lm : Nat → Nat → Int64} {i0 i1 b : Nat} {al : List Nat} {k : Option Value → hk_H → Prop} {hp : hk_H}
theorem hk_pop0 {j : Nat} (h0 : 0 < j) (hj : j < 2 ^ 31) (h1 : ∀ m, 0 < m → m ≤ 31 → k (some (.int (nI m))) hp) : hk_Cl (d + 1) 200 [.int (nI j)] hp k := by
  have loop : ∀ (q i m : Nat), i < 2 ^ q → m + q ≤ 31 → (0 < m ∨ 0 < i) → hk_Rn d none hk_c200 (hk_sfx 4 hk_c200) [some (.int (nI j)), some (.int (nI m)), some (.int (nI i))] [] hp k := by
    intro q
    induction q with
    | zero =>
      intro i m hi hm hz
      have e : i = 0 := by omega
      subst e
      refine hk_hd (n := 1000) (t := 4) rfl ?_
      refine And.intro (fun _ => ?_) (fun hc => absurd (by decide) hc)
      exact h1 m (by omega) (by omega)
    | succ q ih =>
      intro i m hi hm hz
      have hq : 2 ^ (q + 1) = 2 * 2 ^ q := by rw [Nat.pow_succ]; omega
      have hq2 : 2 ^ (q + 1) ≤ 2 ^ 31 := Nat.pow_le_pow_right (by omega) (by omega)
      by_cases hi0 : i = 0
      · subst hi0
        refine hk_hd (n := 1000) (t := 4) rfl ?_
        refine And.intro (fun _ => ?_) (fun hc => absurd (by decide) hc)
        exact h1 m (by omega) (by omega)
      have a1 : ¬ nI i ≤ 0 := nI_nle (by omega) (by omega)
      have e1 : nI m + (nI i &&& 1) = nI (m + i % 2) := by
        rw [pk_andN (by omega) 1 (by decide), nI_add]
      have e2 : nI i >>> ((1 : Int32) &&& 31) = nI (i / 2) := by
        rw [pk_shrN (by omega) _ 1 (by decide)]
      refine hk_hd (n := 1000) (t := 4) rfl ?_
      refine And.intro (fun hc => absurd hc a1) (fun _ => ?_)
      refine hk_Rn_cast (L2 := [some (.int (nI j)), some (.int (nI (m + i % 2))), some (.int (nI (i / 2)))]) ?_ (ih (i / 2) (m + i % 2) (by omega) (by omega) (by omega))
      show [some (Value.int (nI j)), some (Value.int (nI m + (nI i &&& 1))), some (Value.int (nI i >>> ((1 : Int32) &&& 31)))] = _
      rw [e1, e2]
  refine hk_mth hk_m200 rfl rfl (n := 1000) ?_
  exact loop 31 j 0 (by omega) (by omega) (Or.inr h0)
theorem m_size0 (h1 : k (some (.int 0)) hp) : hk_Cl (d + 1) 200 [.int 0] hp k := by
  refine hk_mth hk_m200 rfl rfl (n := 1000) ?_
  refine hk_hd (n := 1000) (t := 4) rfl ?_
  refine And.intro (fun _ => ?_) (fun hc => absurd (by decide) hc)
  exact h1
end HKR
section HKP5
variable {v w x z y : Int32}
end HKP5
