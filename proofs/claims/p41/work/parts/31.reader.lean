/-! ===== the class's reader ends on any text ===== -/
theorem hk_lc0 (x : Int64) : lg_cmp x x = 0 := by
  unfold lg_cmp
  rw [if_neg Int64.lt_irrefl, if_pos rfl]
def hk_R24 (s s2 : Nat → Nat → Int32) : Prop := ∀ p q, p ≠ 24 → s2 p q = s p q
theorem hk_R24_t {s s2 s3 : Nat → Nat → Int32} (a : hk_R24 s s2) (c : hk_R24 s2 s3) : hk_R24 s s3 := fun p q h => (c p q h).trans (a p q h)
theorem hk_R24_u {s s2 : Nat → Nat → Int32} {q : Nat} {v : Int32} (a : hk_R24 s s2) : hk_R24 s (hk_u2 s2 24 q v) := fun p q h => by
  rw [hk_u2o (fun e => h e.1)]
  exact a p q h
theorem hk_R24_r (s : Nat → Nat → Int32) : hk_R24 s s := fun _ _ _ => rfl
section HKA2
variable {d L o : Nat} {v w : Int32} {s : Nat → Nat → Int32} {lm : Nat → Nat → Int64} {i0 i1 b : Nat} {al : List Nat} {k : Option Value → hk_H → Prop}
end HKA2
