/-! ===== the class ends on any contents: the plan ===== -/
def hk_F29 (s s2 : Nat → Nat → Int32) : Prop := ∀ p q, ¬ (29 ≤ p ∧ p ≤ 35) → p ≠ 95 → s2 p q = s p q
theorem hk_F29_t {s s2 s3 : Nat → Nat → Int32} (a : hk_F29 s s2) (c : hk_F29 s2 s3) : hk_F29 s s3 := fun p q h1 h2 => (c p q h1 h2).trans (a p q h1 h2)
theorem hk_F29_r (s : Nat → Nat → Int32) : hk_F29 s s := fun _ _ _ _ => rfl
theorem hk_F29_u {s s2 : Nat → Nat → Int32} {p q : Nat} {v : Int32} (a : hk_F29 s s2) (hp : 29 ≤ p ∧ p ≤ 35 ∨ p = 95) : hk_F29 s (hk_u2 s2 p q v) := fun p' q' h1 h2 => by
  rw [hk_u2o (by omega)]
  exact a p' q' h1 h2
section HKA5
variable {d n : Nat} {v w x z : Int32} {s : Nat → Nat → Int32} {lm : Nat → Nat → Int64} {i0 i1 b : Nat} {al : List Nat} {k : Option Value → hk_H → Prop}
end HKA5
