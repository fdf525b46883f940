/-! ===== the plan with no ship told: made; the reference's ===== -/
section HKM1
variable {d t c n : Nat} {r v w x y z : Int32} {s : Nat → Nat → Int32} {lm : Nat → Nat → Int64} {rr : Nat → Nat → Nat} {i0 i1 b : Nat} {al : List Nat} {k : Option Value → hk_H → Prop} {hp : hk_H}
theorem hk_mkB {nx : hk_L → List Value → hk_H → Prop} {L : hk_L} {r : List Value} {v : Int32} (e : v = nI 100000) (ha : al.contains 95 = false) (P : nx L (.ref 95 :: r) (hk_z s 95 0, hk_z lm 95 0, hk_z rr 95 0, al ++ [95])) : (¬ v < 0 ∧ v.toNatClampNeg ≤ 200000) ∧ hk_mk hk_SH 95 100000 False nx L r (s, lm, rr, al) 2 v.toNatClampNeg := by
  subst e
  rw [nI_clamp (by omega)]
  refine ⟨⟨nI_pos (by omega), by omega⟩, ?_⟩
  unfold hk_mk hk_np
  simp only
  rw [ha]
  exact P
end HKM1
