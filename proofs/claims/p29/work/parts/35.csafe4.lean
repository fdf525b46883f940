/-! ===== the class ends on any contents: the plan made; leaks, hands, counts ===== -/
theorem hk_rx44 (i : Nat) : (hk_rx i)[44]? = none := by
  unfold hk_rx
  split <;> rfl
theorem hk_rBg {i0 i1 : Nat} : hk_uR (hk_z (hk_RH i0 i1 35) 95 0) 29 6 95 = hk_RH i0 i1 95 := by
  funext p q
  match p with
  | 0 => rfl
  | 1 => rfl
  | 2 => rfl
  | 3 => rfl
  | 4 => rfl
  | 5 => rfl
  | 6 => rfl
  | 7 => rfl
  | 8 => rfl
  | 9 => rfl
  | 10 => rfl
  | 11 => rfl
  | 12 => rfl
  | 13 => rfl
  | 14 => rfl
  | 15 => rfl
  | 16 => rfl
  | 17 => rfl
  | 18 => rfl
  | 19 => rfl
  | 20 => rfl
  | 21 => rfl
  | 22 => rfl
  | 23 => rfl
  | 24 => rfl
  | 25 => rfl
  | 26 => rfl
  | 27 => rfl
  | 28 => rfl
  | 29 => match q with | 0 => rfl | 1 => rfl | 2 => rfl | 3 => rfl | 4 => rfl | 5 => rfl | 6 => rfl | q + 7 => rfl
  | 30 => rfl
  | 31 => rfl
  | 32 => rfl
  | 33 => rfl
  | 34 => rfl
  | 35 => rfl
  | 36 => rfl
  | 37 => rfl
  | 38 => rfl
  | 39 => rfl
  | 40 => rfl
  | 41 => rfl
  | 42 => rfl
  | 43 => rfl
  | 44 => rfl
  | 45 => rfl
  | 46 => rfl
  | 47 => rfl
  | 48 => rfl
  | 49 => rfl
  | 50 => rfl
  | p + 51 =>
    show (if p + 51 = 95 then (fun _ => 0) else hk_RH i0 i1 35 (p + 51)) q = hk_RH i0 i1 95 (p + 51) q
    by_cases h : p + 51 = 95
    · rw [if_pos h]
      have e : p = 44 := by omega
      subst e
      show 0 = (((hk_rx (i0 + i1))[44]?).getD [])[q]?.getD 0
      rw [hk_rx44]
      rfl
    · rw [if_neg h]
      rfl
section HKA6
variable {d n : Nat} {v w x z : Int32} {s : Nat → Nat → Int32} {lm : Nat → Nat → Int64} {rr : Nat → Nat → Nat} {i0 i1 b : Nat} {al : List Nat} {k : Option Value → hk_H → Prop}
/-! leaks -/
def hk_F36 (s s2 : Nat → Nat → Int32) : Prop := ∀ p q, p ≠ 36 → s2 p q = s p q
theorem hk_F36_TW {s s2 : Nat → Nat → Int32} (a : hk_F36 s s2) (h : hk_TW s) : hk_TW s2 := hk_TW_fr h (fun t q ht => a t q (by have := hk_tb35 ht; omega))
theorem hk_F36_u {s s2 : Nat → Nat → Int32} {q : Nat} {v : Int32} (a : hk_F36 s s2) : hk_F36 s (hk_u2 s2 36 q v) := fun p' q' h1 => by
  rw [hk_u2o (by omega)]
  exact a p' q' h1
/-! hands -/
def hk_F37 (s s2 : Nat → Nat → Int32) : Prop := ∀ p q, ¬ (37 ≤ p ∧ p ≤ 39) → s2 p q = s p q
theorem hk_F37_u {s s2 : Nat → Nat → Int32} {p q : Nat} {v : Int32} (a : hk_F37 s s2) (hp : 37 ≤ p ∧ p ≤ 39) : hk_F37 s (hk_u2 s2 p q v) := fun p' q' h1 => by
  rw [hk_u2o (by omega)]
  exact a p' q' h1
theorem hk_F37_tw {s s2 : Nat → Nat → Int32} {t : Nat} (a : hk_F37 s s2) (ht : hk_tb t) (h : hk_tw s t n) : hk_tw s2 t n := by
  have := hk_tb35 ht
  obtain ⟨a1, a2, a3, a4⟩ := h
  exact ⟨by rw [a _ _ (by omega)]; exact a1, by rw [a _ _ (by omega)]; exact a2, by rw [a _ _ (by omega)]; exact a3, a4⟩
end HKA6
