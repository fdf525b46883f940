/-! ===== the reference's plan: states that can be come to ===== -/
def hk_cap (N y h : Nat) : Nat := if h < N then y else 0
/-- a state that money and years allow -/
def hk_Gd (cn : Nat → Nat) (N I y X : Nat) : Prop := X < 14641 ∧ (∀ h, h < 4 → hk_dg X h ≤ hk_cap N y h) ∧ hk_dq cn X 0 N ≤ I * y
theorem hk_bit0 (h : Nat) : ¬ 0 / 2 ^ h % 2 = 1 := by
  rw [Nat.zero_div]
  decide
/-- as omega has it -/
theorem hk_dg4 (X : Nat) : hk_dg X 0 = X % 11 ∧ hk_dg X 1 = X / 11 % 11 ∧ hk_dg X 2 = X / 121 % 11 ∧ hk_dg X 3 = X / 1331 % 11 := ⟨by unfold hk_dg; rw [Nat.pow_zero, Nat.div_one], rfl, rfl, rfl⟩
theorem hk_dt4 {X set N : Nat} (hN : N ≤ 4) : ∃ b0 b1 b2 b3, hk_dt X set N = X + b0 + 11 * b1 + 121 * b2 + 1331 * b3 ∧ (b0 = if 0 < N ∧ set / 2 ^ 0 % 2 = 1 then 1 else 0) ∧ (b1 = if 1 < N ∧ set / 2 ^ 1 % 2 = 1 then 1 else 0) ∧ (b2 = if 2 < N ∧ set / 2 ^ 2 % 2 = 1 then 1 else 0) ∧ (b3 = if 3 < N ∧ set / 2 ^ 3 % 2 = 1 then 1 else 0) := by
  refine ⟨_, _, _, _, ?_, rfl, rfl, rfl, rfl⟩
  match N, hN with
  | 0, _ => simp [hk_dt]
  | 1, _ => simp only [hk_dt]; split <;> simp_all
  | 2, _ => simp only [hk_dt]; split <;> split <;> simp_all
  | 3, _ => simp only [hk_dt]; split <;> split <;> split <;> simp_all
  | 4, _ => simp only [hk_dt]; split <;> split <;> split <;> split <;> simp_all
theorem hk_base {a0 a1 a2 a3 : Nat} (h0 : a0 ≤ 10) (h1 : a1 ≤ 10) (h2 : a2 ≤ 10) (h3 : a3 ≤ 10) : (a0 + 11 * a1 + 121 * a2 + 1331 * a3) % 11 = a0 ∧ (a0 + 11 * a1 + 121 * a2 + 1331 * a3) / 11 % 11 = a1 ∧ (a0 + 11 * a1 + 121 * a2 + 1331 * a3) / 121 % 11 = a2 ∧ (a0 + 11 * a1 + 121 * a2 + 1331 * a3) / 1331 % 11 = a3 := by
  refine ⟨by omega, by omega, by omega, by omega⟩
/-- docked: the digits -/
theorem hk_dg_dt {X set N y : Nat} (hN : N ≤ 4) (hX : X < 14641) (hd : ∀ h, h < 4 → hk_dg X h ≤ 9) : hk_dt X set N < 14641 ∧ ∀ h, h < 4 → hk_dg (hk_dt X set N) h = hk_dg X h + (if h < N ∧ set / 2 ^ h % 2 = 1 then 1 else 0) := by
  obtain ⟨b0, b1, b2, b3, e, e0, e1, e2, e3⟩ := hk_dt4 (X := X) (set := set) hN
  obtain ⟨x0, x1, x2, x3⟩ := hk_dg4 X
  have d0 := hd 0 (by omega)
  have d1 := hd 1 (by omega)
  have d2 := hd 2 (by omega)
  have d3 := hd 3 (by omega)
  rw [x0] at d0
  rw [x1] at d1
  rw [x2] at d2
  rw [x3] at d3
  have c0 : b0 ≤ 1 := by rw [e0]; split <;> omega
  have c1 : b1 ≤ 1 := by rw [e1]; split <;> omega
  have c2 : b2 ≤ 1 := by rw [e2]; split <;> omega
  have c3 : b3 ≤ 1 := by rw [e3]; split <;> omega
  obtain ⟨y0, y1, y2, y3⟩ := hk_base (a0 := X % 11 + b0) (a1 := X / 11 % 11 + b1) (a2 := X / 121 % 11 + b2) (a3 := X / 1331 % 11 + b3) (by omega) (by omega) (by omega) (by omega)
  have eX : X = X % 11 + 11 * (X / 11 % 11) + 121 * (X / 121 % 11) + 1331 * (X / 1331 % 11) := by omega
  have eY : hk_dt X set N = X % 11 + b0 + 11 * (X / 11 % 11 + b1) + 121 * (X / 121 % 11 + b2) + 1331 * (X / 1331 % 11 + b3) := by
    rw [e, Nat.mul_add, Nat.mul_add, Nat.mul_add]
    omega
  refine ⟨by omega, fun h hh => ?_⟩
  obtain ⟨z0, z1, z2, z3⟩ := hk_dg4 (hk_dt X set N)
  match h, hh with
  | 0, _ => rw [z0, x0, ← e0, eY]; exact y0
  | 1, _ => rw [z1, x1, ← e1, eY]; exact y1
  | 2, _ => rw [z2, x2, ← e2, eY]; exact y2
  | 3, _ => rw [z3, x3, ← e3, eY]; exact y3
theorem hk_dq_dt {cn : Nat → Nat} {X X2 set N : Nat} (hd : ∀ h, h < N → hk_dg X2 h = hk_dg X h + (if set / 2 ^ h % 2 = 1 then 1 else 0)) : ∀ h, h ≤ N → hk_dq cn X2 0 h = hk_dq cn X set h
  | 0, _ => rfl
  | h + 1, hh => by
    rw [hk_dq, hk_dq, hk_dq_dt hd h (by omega), if_neg (hk_bit0 h), hd h (by omega)]
    by_cases c : set / 2 ^ h % 2 = 1
    · rw [if_pos c, if_pos c, Nat.add_mul]
      omega
    · rw [if_neg c, if_neg c]
      simp only [Nat.add_zero]
theorem hk_Gd_next {fl gn cn : Nat → Nat} {N D I y X set : Nat} (hN : N ≤ 4) (hy : y ≤ 9) (g : hk_Gd cn N I y X) (r : hk_dr fl gn cn N D I X y set) : hk_Gd cn N I (y + 1) (hk_dt X set N) := by
  obtain ⟨h1, h2, h3⟩ := g
  have h9 : ∀ h, h < 4 → hk_dg X h ≤ 9 := fun h hh => by
    have := h2 h hh
    unfold hk_cap at this
    split at this <;> omega
  obtain ⟨q1, q2⟩ := hk_dg_dt (y := y) (set := set) hN h1 h9
  refine ⟨q1, fun h hh => ?_, ?_⟩
  · rw [q2 h hh]
    have := h2 h hh
    unfold hk_cap at this ⊢
    by_cases c : h < N
    · rw [if_pos c] at this ⊢
      split <;> omega
    · rw [if_neg c] at this ⊢
      rw [if_neg (fun q => c q.1)]
      omega
  · rw [hk_dq_dt (X := X) (set := set) (N := N) (fun h hh => ?_) N (Nat.le_refl _)]
    · exact r.2.2
    · rw [q2 h (by omega)]
      by_cases c : set / 2 ^ h % 2 = 1
      · rw [if_pos ⟨hh, c⟩, if_pos c]
      · rw [if_neg (fun q => c q.2), if_neg c]
theorem hk_dr0 {fl gn cn : Nat → Nat} {N D I y X : Nat} (g : hk_Gd cn N I y X) : hk_dr fl gn cn N D I X y 0 := by
  refine ⟨by rw [hk_pc, dif_pos rfl]; omega, fun h _ q => absurd q (hk_bit0 h), ?_⟩
  have := g.2.2
  have h2 : I * y ≤ I * (y + 1) := Nat.mul_le_mul_left I (by omega)
  omega
/-- how many float -/
def hk_fc (fl gn : Nat → Nat) (X y : Nat) : Nat → Nat
  | 0 => 0
  | h + 1 => hk_fc fl gn X y h + (if y < fl h + gn h * hk_dg X h then 1 else 0)
theorem hk_fc_le {fl gn : Nat → Nat} {X y : Nat} : ∀ h, hk_fc fl gn X y h ≤ h
  | 0 => Nat.le_refl _
  | h + 1 => by
    have := hk_fc_le (fl := fl) (gn := gn) (X := X) (y := y) h
    rw [hk_fc]
    split <;> omega
/-- the row of a year's bests stands -/
def hk_Bq (f : Nat → Int32) (fl gn cn : Nat → Nat) (N D I y X : Nat) : Prop := ∃ v, v ≤ 256 * (10 - y) ∧ f (y * 14641 + X) = nI v ∧ (y < 10 → ∃ set, set < 2 ^ N ∧ hk_dr fl gn cn N D I X y set ∧ f ((y + 1) * 14641 + hk_dt X set N) - nI (hk_pc set) + 64 * nI (hk_fc fl gn X y N) = f (y * 14641 + X))
