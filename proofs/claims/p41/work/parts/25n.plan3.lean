/-! ===== the reference's plan with no ship told ===== -/
/-- a count downwards -/
def hk_dn (g : Nat) : Int32 := match g with
  | 0 => -1
  | g + 1 => nI g
theorem hk_dn_s (g : Nat) : nI g + (-1) = hk_dn g := by
  cases g with
  | zero => decide
  | succ g => exact pk_m1 g
theorem hk_yx {g x : Nat} : nI g * 14641 + nI x = nI (g * 14641 + x) := by
  rw [show nI g * (14641 : Int32) = nI (g * 14641) from pk_mul g 14641, nI_add]
section HKN1
variable {d t c n : Nat} {r v w x y z : Int32} {s : Nat → Nat → Int32} {lm : Nat → Nat → Int64} {i0 i1 b : Nat} {al : List Nat} {k : Option Value → hk_H → Prop} {hp : hk_H}
end HKN1
