/-! ===== the reference tells; replace, unlike ===== -/
theorem hk_FP_41 {s s2 : Nat → Nat → Int32} (h : hk_FP s s2) : s2 41 = s 41 := by
  funext q
  exact h 41 q (by omega) (by omega) (by omega) (by omega)
theorem hk_FP_G {s s2 : Nat → Nat → Int32} (h : hk_FP s s2) : hk_Gm s s2 := ⟨fun p q hp => h p q (by omega) (by omega) (by omega) (by omega), fun q _ => h 41 q (by omega) (by omega) (by omega) (by omega)⟩
section HKC4
variable {d n a bb r i k m o : Nat} {v w x y z : Int32} {s : Nat → Nat → Int32} {lm : Nat → Nat → Int64} {i0 i1 b : Nat} {al : List Nat} {K : Option Value → hk_H → Prop}
end HKC4
