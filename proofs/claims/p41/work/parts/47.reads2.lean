/-! ===== the reference reads any text: the loop ===== -/
section HKC3
variable {d n a bb r i k m o : Nat} {v w x y z : Int32} {s : Nat → Nat → Int32} {lm : Nat → Nat → Int64} {i0 i1 b : Nat} {al : List Nat} {K : Option Value → hk_H → Prop}
theorem hk_tg_p {v : Nat} (h2 : 2 ≤ v) (h3 : v ≤ 12) : 1 ≤ hk_tg v := by
  match v, h2, h3 with
  | 2, _, _ => decide
  | 3, _, _ => decide
  | 4, _, _ => decide
  | 5, _, _ => decide
  | 6, _, _ => decide
  | 7, _, _ => decide
  | 8, _, _ => decide
  | 9, _, _ => decide
  | 10, _, _ => decide
  | 11, _, _ => decide
  | 12, _, _ => decide
end HKC3
