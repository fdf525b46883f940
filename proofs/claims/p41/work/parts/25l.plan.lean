/-! ===== the plan with no ship told ===== -/
section HKL1
variable {d t c n : Nat} {r v w x y z : Int32} {s : Nat → Nat → Int32} {lm : Nat → Nat → Int64} {i0 i1 b : Nat} {al : List Nat} {k : Option Value → hk_H → Prop} {hp : hk_H}
theorem c_rangeCheck {N a e : Nat} (h1 : a ≤ e) (h2 : e ≤ N) (hN : N < 2 ^ 31) (h3 : k none (s, lm, hk_RH i0 i1 b, al)) : hk_Cl (d + 1) 86 [.int (nI N), .int (nI a), .int (nI e)] (s, lm, hk_RH i0 i1 b, al) k := by
  have b1 : nI a ≤ nI e := nI_le h1 (by omega)
  have b2 : (0 : Int32) ≤ nI a := nI_pos' (by omega)
  have b3 : nI e ≤ nI N := nI_le h2 (by omega)
  refine hk_mth hk_m86 rfl rfl (n := 1000) ?_
  refine And.intro (fun _ => ?_) (fun hc => absurd b1 hc)
  refine And.intro (fun _ => ?_) (fun hc => absurd b2 hc)
  refine And.intro (fun _ => ?_) (fun hc => absurd b3 hc)
  exact h3
theorem c_fill95 {m : Nat} (hm : m ≤ 100000) (h1 : ∀ s2, (∀ p q, ¬ (p = 95 ∧ q < m) → s2 p q = s p q) → (∀ q, q < m → s2 95 q = v) → k none (s2, lm, hk_RH i0 i1 b, al)) : hk_Cl (d + 2) 85 [.ref 95, .int 0, .int (nI m), .int v] (s, lm, hk_RH i0 i1 b, al) k := by
  have loop : ∀ (g i : Nat) (s3 : Nat → Nat → Int32), i + g = m → (∀ p q, ¬ (p = 95 ∧ q < m) → s3 p q = s p q) → (∀ q, q < i → s3 95 q = v) → hk_Rn (d + 1) none hk_c85 (hk_sfx 10 hk_c85) [some (.ref 95), some (.int 0), some (.int (nI m)), some (.int v), some (.int (nI i))] [] (s3, lm, hk_RH i0 i1 b, al) k := by
    intro g
    induction g with
    | zero =>
      intro i s3 hi h2 h3
      have e : i = m := by omega
      subst e
      refine hk_hd (n := 1000) (t := 10) rfl ?_
      refine And.intro (fun _ => ?_) (fun hc => absurd (Int32.le_refl _) hc)
      exact h1 s3 h2 h3
    | succ g ih =>
      intro i s3 hi h2 h3
      have b1 : ¬ nI m ≤ nI i := hk_nlt (by omega) (by omega)
      refine hk_hd (n := 1000) (t := 10) rfl ?_
      refine And.intro (fun hc => absurd hc b1) (fun _ => ?_)
      refine hk_stn (i := nI i) (j := i) (by simp only [hk_lit, pk_mul, nI_add]) (by omega) (by decide) (fun s4 (hs4 : s4 = hk_u2 s3 95 (i) v) => ?_)
      refine hk_Rn_cast (by rw [← nI_1]; rfl) (ih (i + 1) s4 (by omega) (fun p q hp => ?_) (fun q hq => ?_))
      · rw [hs4, hk_u2o (by omega)]
        exact h2 p q hp
      · rw [hs4]
        by_cases e : q = i
        · subst e; rw [hk_u2s]
        · rw [hk_u2o (by omega)]; exact h3 q (by omega)
  refine hk_mth hk_m85 rfl rfl (n := 1000) ?_
  refine c_rangeCheck (N := 100000) (a := 0) (by omega) hm (by decide) ?_
  exact loop m 0 s (by omega) (fun _ _ _ => rfl) (fun q hq => absurd hq (Nat.not_lt_zero q))
end HKL1
