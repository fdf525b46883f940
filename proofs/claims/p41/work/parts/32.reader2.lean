/-! ===== the class's reader ends on any text: the words of its grammar ===== -/
section HKA3
variable {d L o : Nat} {v w : Int32} {s : Nat → Nat → Int32} {lm : Nat → Nat → Int64} {i0 i1 b : Nat} {al : List Nat} {k : Option Value → hk_H → Prop}
/-- all texts have 60 signs at most -/
def hk_TL (s : Nat → Nat → Int32) : Prop := ∀ j, j < 4 → ∃ m, m ≤ 60 ∧ s 11 (j * 61) = nI m
end HKA3
