/-! ===== the class ends on any contents: months, lay, storms ===== -/
theorem hk_tb35 {t : Nat} (h : hk_tb t) : t ≠ 3 ∧ t ≠ 5 ∧ t < 20 := by
  rcases h with rfl | rfl | rfl | rfl | rfl | rfl | rfl | rfl | rfl <;> decide
section HKA4
variable {d n : Nat} {v w x z : Int32} {s : Nat → Nat → Int32} {lm : Nat → Nat → Int64} {i0 i1 b : Nat} {al : List Nat} {k : Option Value → hk_H → Prop}
/-! storms -/
def hk_F25 (s s2 : Nat → Nat → Int32) : Prop := ∀ p q, ¬ (25 ≤ p ∧ p ≤ 28) → s2 p q = s p q
end HKA4
