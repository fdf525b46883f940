/-! ===== calls of single numbers, both sides ===== -/
section HKA
variable {d : Nat} {v z : Int32} {s : Nat → Nat → Int32} {lm : Nat → Nat → Int64} {i0 i1 b : Nat} {al : List Nat} {k : Option Value → hk_H → Prop}
theorem c_wear (hb : z < 0 ∨ 2 < z ∨ v < 0 ∨ 50 < v → k (some (.int (-2))) (s, lm, hk_RH i0 i1 b, al)) (hg : ∀ j, z = nI j → j < 3 → ¬ v < 0 → ¬ 50 < v → k (some (.int (s 20 j))) (hk_u2 s 20 j v, lm, hk_RH i0 i1 b, al)) : hk_Cl (d + 2) 19 [.ref 0, .int z, .int v] (s, lm, hk_RH i0 i1 b, al) k := by
  refine hk_mth hk_m19 rfl rfl (n := 1000) ?_
  refine c_within (fun (a1 : ¬ z < 0) (a2 : ¬ 2 < z) => ?_) (fun (a : z < 0 ∨ 2 < z) => ?_)
  · refine And.intro (fun hc => absurd hc (by decide)) (fun _ => ?_)
    refine c_within (fun (a3 : ¬ v < 0) (a4 : ¬ 50 < v) => ?_) (fun (a : v < 0 ∨ 50 < v) => ?_)
    · refine And.intro (fun _ => ?_) (fun hc => absurd (by decide) hc)
      obtain ⟨j, hj, rfl⟩ := hk_rng (n := 2) (by decide) a1 a2
      refine hk_ldi (i := nI j) (j := j) (by simp only [hk_lit, pk_mul, nI_add]) (by omega) (by decide) rfl ?_
      refine hk_sti (i := nI j) (j := j) (by simp only [hk_lit, pk_mul, nI_add]) (by omega) (by decide) ?_
      exact hg j rfl (by omega) a3 a4
    · refine And.intro (fun hc => absurd hc (by decide)) (fun _ => ?_)
      exact hb (Or.inr (Or.inr a))
  · refine And.intro (fun _ => ?_) (fun hc => absurd (by decide) hc)
    exact hb (a.elim Or.inl (fun q => Or.inr (Or.inl q)))
theorem m_wear (hb : z < 0 ∨ 2 < z ∨ v < 0 ∨ 50 < v → k (some (.int (-2))) (s, lm, hk_RH i0 i1 b, al)) (hg : ∀ j, z = nI j → j < 3 → ¬ v < 0 → ¬ 50 < v → k (some (.int (s 41 (12 + j)))) (hk_u2 s 41 (12 + j) v, lm, hk_RH i0 i1 b, al)) : hk_Cl (d + 2) 143 [.ref 40, .int z, .int v] (s, lm, hk_RH i0 i1 b, al) k := by
  refine hk_mth hk_m143 rfl rfl (n := 1000) ?_
  refine m_in (fun (a1 : ¬ z < 0) (a2 : ¬ 2 < z) => ?_) (fun (a : z < 0 ∨ 2 < z) => ?_)
  · refine And.intro (fun hc => absurd hc (by decide)) (fun _ => ?_)
    refine m_in (fun (a3 : ¬ v < 0) (a4 : ¬ 50 < v) => ?_) (fun (a : v < 0 ∨ 50 < v) => ?_)
    · refine And.intro (fun hc => absurd hc (by decide)) (fun _ => ?_)
      obtain ⟨j, hj, rfl⟩ := hk_rng (n := 2) (by decide) a1 a2
      refine hk_Cl_arg (hk_v3 (show (12 : Int32) + nI j = nI (12 + j) from nI_add 12 j)) ?_
      exact m_puts (by omega) (hg j rfl (by omega) a3 a4)
    · refine And.intro (fun _ => ?_) (fun hc => absurd (by decide) hc)
      exact hb (Or.inr (Or.inr a))
  · refine And.intro (fun _ => ?_) (fun hc => absurd (by decide) hc)
    exact hb (a.elim Or.inl (fun q => Or.inr (Or.inl q)))
end HKA
