/-! ===== one call on fresh objects, both sides ===== -/
def hk_rmo (al : List Nat) : Prop := al.length ≤ 600000 ∧ hk_sl hk_SH hk_cls al ≤ 7302250
theorem hk_st0_o {s : Nat → Nat → Int32} {p q : Nat} (h : p ≠ 41 ∨ 1421 < q ∨ (14 < q ∧ q < 1412)) : hk_st0 s p q = s p q := by
  unfold hk_st0
  iterate 11 rw [hk_u2o (by omega)]
theorem hk_st0_z {q : Nat} (h : 1421 < q ∨ (14 < q ∧ q < 1412)) : hk_F0s 41 q = 0 := by
  unfold hk_F0s
  rw [hk_st0_o (Or.inr h)]
  rfl
theorem hk_wr {z v : Int32} {j : Nat} (e : z = nI j) (hj : j < 3) (h1 : ¬ v < 0) (h2 : ¬ 50 < v) : ¬ (z < 0 ∨ 2 < z ∨ v < 0 ∨ 50 < v) := by
  subst e
  rintro (h | h | h | h)
  · exact nI_pos (by omega) h
  · have h5 : nI 2 < nI j := h
    rw [nI_ltI (by omega) (by omega)] at h5
    omega
  · exact h1 h
  · exact h2 h
section HKP
variable {v w x z y : Int32}
end HKP
