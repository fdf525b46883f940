/-! ===== the class's planner: what it comes to ===== -/
/-- places of the state: a ship's number of dockings, the stride -/
def hk_n4 (fl gn : Nat → Nat) (N h : Nat) : Nat := if h < N then hk_pnd fl gn h else 0
def hk_e4 (c : Nat → Nat) (N h : Nat) : Nat := if h < N then c h else 0
def hk_sd (fl gn : Nat → Nat) (N : Nat) : Nat → Nat
  | 0 => 1
  | h + 1 => hk_sd fl gn N h * (hk_n4 fl gn N h + 1)
def hk_stX (fl gn : Nat → Nat) (N X : Nat) : Nat → Nat
  | 0 => 0
  | h + 1 => hk_stX fl gn N X h + hk_dg X h * hk_sd fl gn N h
/-- a sum over the bits of a set -/
def hk_sb (c : Nat → Nat) (set : Nat) : Nat → Nat
  | 0 => 0
  | h + 1 => hk_sb c set h + (if set / 2 ^ h % 2 = 1 then c h else 0)
def hk_I4 (fl gn : Nat → Nat) (N X : Nat) : Prop := ∀ h, h < 4 → hk_dg X h ≤ hk_n4 fl gn N h
section HKPC
variable {fl gn cn : Nat → Nat} {N D I y X X2 set : Nat}
theorem hk_nd9 {h : Nat} (hg : 1 ≤ gn h) : hk_pnd fl gn h ≤ 9 := by
  unfold hk_pnd
  by_cases c : fl h = 0 ∨ 10 ≤ fl h
  · rw [if_pos c]
    omega
  · rw [if_neg c]
    have h1 : (10 - fl h + gn h - 1) / gn h ≤ 9 := by
      rw [Nat.div_le_iff_le_mul_add_pred (by omega)]
      have := Nat.mul_le_mul hg (show 9 ≤ 9 by omega)
      omega
    exact h1
theorem hk_n49 (hg : ∀ h, h < N → 1 ≤ gn h) (h : Nat) : hk_n4 fl gn N h ≤ 9 := by
  unfold hk_n4
  by_cases c : h < N
  · rw [if_pos c]
    exact hk_nd9 (hg h c)
  · rw [if_neg c]
    omega
theorem hk_sd1 : ∀ h, 1 ≤ hk_sd fl gn N h
  | 0 => Nat.le_refl _
  | h + 1 => by
    have ih := hk_sd1 h
    have := Nat.mul_le_mul ih (show 1 ≤ hk_n4 fl gn N h + 1 by omega)
    rw [hk_sd]
    omega
theorem hk_sdm (hg : ∀ h, h < N → 1 ≤ gn h) : ∀ h, hk_sd fl gn N h ≤ 10 ^ h
  | 0 => Nat.le_refl _
  | h + 1 => by
    have ih := hk_sdm hg h
    have := hk_n49 (fl := fl) hg h
    rw [hk_sd, Nat.pow_succ]
    exact Nat.mul_le_mul ih (by omega)
theorem hk_sXl (hI : hk_I4 fl gn N X) : ∀ h, h ≤ 4 → hk_stX fl gn N X h < hk_sd fl gn N h
  | 0, _ => by show 0 < 1; omega
  | h + 1, hh => by
    have ih := hk_sXl hI h (by omega)
    have := Nat.mul_le_mul_right (hk_sd fl gn N h) (show hk_dg X h + 1 ≤ hk_n4 fl gn N h + 1 by have := hI h (by omega); omega)
    rw [Nat.add_mul, Nat.one_mul] at this
    rw [hk_stX, hk_sd, Nat.mul_comm (hk_sd fl gn N h)]
    omega
/-- the state's places -/
theorem hk_sXf {i : Nat} : ∀ g, ∃ r c, hk_stX fl gn N X (i + 1 + g) = hk_stX fl gn N X (i + 1) + hk_sd fl gn N (i + 1) * r ∧ hk_sd fl gn N (i + 1 + g) = hk_sd fl gn N (i + 1) * c
  | 0 => ⟨0, 1, by
    show hk_stX fl gn N X (i + 1) = hk_stX fl gn N X (i + 1) + hk_sd fl gn N (i + 1) * 0
    rw [Nat.mul_zero]
    rfl, by
    show hk_sd fl gn N (i + 1) = hk_sd fl gn N (i + 1) * 1
    rw [Nat.mul_one]⟩
  | g + 1 => by
    obtain ⟨r, c, h1, h2⟩ := hk_sXf (i := i) g
    refine ⟨r + hk_dg X (i + 1 + g) * c, c * (hk_n4 fl gn N (i + 1 + g) + 1), ?_, ?_⟩
    · show hk_stX fl gn N X (i + 1 + g) + hk_dg X (i + 1 + g) * hk_sd fl gn N (i + 1 + g) = _
      rw [h1, h2, Nat.mul_add, Nat.mul_left_comm, Nat.add_assoc]
    · show hk_sd fl gn N (i + 1 + g) * (hk_n4 fl gn N (i + 1 + g) + 1) = _
      rw [h2, Nat.mul_assoc]
theorem hk_sXd (hI : hk_I4 fl gn N X) {i : Nat} (hi : i < 4) : hk_stX fl gn N X 4 / hk_sd fl gn N i % (hk_n4 fl gn N i + 1) = hk_dg X i := by
  obtain ⟨r, c, h1, h2⟩ := hk_sXf (fl := fl) (gn := gn) (N := N) (X := X) (i := i) (3 - i)
  have h3 := hk_sXl hI i (by omega)
  have hd := hI i hi
  rw [show i + 1 + (3 - i) = 4 by omega] at h1
  have e : hk_stX fl gn N X 4 = hk_stX fl gn N X i + hk_sd fl gn N i * (hk_dg X i + (hk_n4 fl gn N i + 1) * r) := by
    rw [h1]
    show hk_stX fl gn N X i + hk_dg X i * hk_sd fl gn N i + hk_sd fl gn N i * (hk_n4 fl gn N i + 1) * r = _
    rw [Nat.mul_comm (hk_dg X i), Nat.mul_assoc, Nat.mul_add (hk_sd fl gn N i) (hk_dg X i), Nat.add_assoc]
  have hp := hk_sd1 (fl := fl) (gn := gn) (N := N) i
  rw [e, Nat.add_mul_div_left _ _ (by omega), Nat.div_eq_of_lt h3, Nat.zero_add, Nat.add_mul_mod_self_left]
  exact Nat.mod_eq_of_lt (by omega)
theorem hk_sXi (hX : X < 14641) (hX2 : X2 < 14641) (h1 : hk_I4 fl gn N X) (h2 : hk_I4 fl gn N X2) (e : hk_stX fl gn N X 4 = hk_stX fl gn N X2 4) : X = X2 := by
  have d : ∀ h, h < 4 → hk_dg X h = hk_dg X2 h := fun h hh => by rw [← hk_sXd h1 hh, e, hk_sXd h2 hh]
  obtain ⟨x0, x1, x2, x3⟩ := hk_dg4 X
  obtain ⟨y0, y1, y2, y3⟩ := hk_dg4 X2
  have d0 := d 0 (by omega)
  have d1 := d 1 (by omega)
  have d2 := d 2 (by omega)
  have d3 := d 3 (by omega)
  rw [x0, y0] at d0
  rw [x1, y1] at d1
  rw [x2, y2] at d2
  rw [x3, y3] at d3
  omega
theorem hk_I4_of (hN : N ≤ 4) (hy : y ≤ 10) (g1 : hk_Gd cn N I y X) (hI : hk_In fl gn N X) : hk_I4 fl gn N X := fun h hh => by
  unfold hk_n4
  by_cases c : h < N
  · rw [if_pos c]
    exact hI h c
  · have := g1.2.1 h hh
    unfold hk_cap at this
    rw [if_neg c] at this ⊢
    exact this
theorem hk_sXn (hs : ∀ h, h < 4 → hk_dg X2 h = hk_dg X h + (if set / 2 ^ h % 2 = 1 then 1 else 0)) : ∀ h, h ≤ 4 → hk_stX fl gn N X2 h = hk_stX fl gn N X h + hk_sb (hk_sd fl gn N) set h
  | 0, _ => rfl
  | h + 1, hh => by
    rw [hk_stX, hk_stX, hk_sb, hk_sXn hs h (by omega), hs h (by omega)]
    by_cases c : set / 2 ^ h % 2 = 1
    · rw [if_pos c, if_pos c, Nat.add_mul, Nat.one_mul]
      omega
    · rw [if_neg c, if_neg c]
      simp only [Nat.add_zero]
      omega
theorem hk_sbN (hN : N ≤ 4) {c : Nat → Nat} (h0 : ∀ h, N ≤ h → h < 4 → ¬ set / 2 ^ h % 2 = 1) : hk_sb (hk_e4 c N) set 4 = hk_sb c set N := by
  have h1 : ∀ h, h ≤ N → hk_sb (hk_e4 c N) set h = hk_sb c set h := fun h => by
    induction h with
    | zero => intro _; rfl
    | succ h ih =>
      intro hh
      rw [hk_sb, hk_sb, ih (by omega)]
      unfold hk_e4
      rw [if_pos (show h < N by omega)]
  have h2 : ∀ g, N + g ≤ 4 → hk_sb (hk_e4 c N) set (N + g) = hk_sb c set N := fun g => by
    induction g with
    | zero => intro _; exact h1 N (Nat.le_refl _)
    | succ g ih =>
      intro hh
      show hk_sb (hk_e4 c N) set (N + g) + (if set / 2 ^ (N + g) % 2 = 1 then hk_e4 c N (N + g) else 0) = _
      rw [ih (by omega), if_neg (h0 (N + g) (by omega) (by omega))]
      rfl
  have := h2 (4 - N) (by omega)
  rw [show N + (4 - N) = 4 by omega] at this
  exact this
theorem hk_dqb : ∀ h, hk_dq cn X set h = hk_dq cn X 0 h + hk_sb cn set h
  | 0 => rfl
  | h + 1 => by
    rw [hk_dq, hk_dq, hk_sb, hk_dqb h, if_neg (hk_bit0 h)]
    omega
theorem hk_dqN (hN : N ≤ 4) (h0 : ∀ h, N ≤ h → h < 4 → hk_dg X h = 0) : hk_dq (hk_e4 cn N) X 0 4 = hk_dq cn X 0 N := by
  have h1 : ∀ h, h ≤ N → hk_dq (hk_e4 cn N) X 0 h = hk_dq cn X 0 h := fun h => by
    induction h with
    | zero => intro _; rfl
    | succ h ih =>
      intro hh
      rw [hk_dq, hk_dq, ih (by omega), if_neg (hk_bit0 h), if_neg (hk_bit0 h)]
      unfold hk_e4
      rw [if_pos (show h < N by omega)]
  have h2 : ∀ g, N + g ≤ 4 → hk_dq (hk_e4 cn N) X 0 (N + g) = hk_dq cn X 0 N := fun g => by
    induction g with
    | zero => intro _; exact h1 N (Nat.le_refl _)
    | succ g ih =>
      intro hh
      show hk_dq (hk_e4 cn N) X 0 (N + g) + hk_dg X (N + g) * hk_e4 cn N (N + g) + (if 0 / 2 ^ (N + g) % 2 = 1 then hk_e4 cn N (N + g) else 0) = _
      rw [ih (by omega), h0 (N + g) (by omega) (by omega), if_neg (hk_bit0 _), Nat.zero_mul]
      rfl
  have := h2 (4 - N) (by omega)
  rw [show N + (4 - N) = 4 by omega] at this
  exact this
/-- ships that may be docked -/
def hk_rdy (fl gn : Nat → Nat) (N y X : Nat) : Nat → Nat
  | 0 => 0
  | h + 1 => hk_rdy fl gn N y X h + (if hk_dg X h < hk_n4 fl gn N h ∧ y < hk_e4 fl N h + hk_e4 gn N h * hk_dg X h then 2 ^ h else 0)
theorem hk_rdy_lt : ∀ h, hk_rdy fl gn N y X h < 2 ^ h
  | 0 => by
    show 0 < 2 ^ 0
    decide
  | h + 1 => by
    have ih := hk_rdy_lt h
    rw [hk_rdy, Nat.pow_succ]
    split <;> omega
theorem hk_rdy_b {h : Nat} (hh : h < 4) : hk_rdy fl gn N y X 4 / 2 ^ h % 2 = 1 ↔ hk_dg X h < hk_n4 fl gn N h ∧ y < hk_e4 fl N h + hk_e4 gn N h * hk_dg X h := by
  have q : ∀ h : Nat, ∃ c : Nat, c ≤ 1 ∧ (c = 1 ↔ hk_dg X h < hk_n4 fl gn N h ∧ y < hk_e4 fl N h + hk_e4 gn N h * hk_dg X h) ∧ (if hk_dg X h < hk_n4 fl gn N h ∧ y < hk_e4 fl N h + hk_e4 gn N h * hk_dg X h then 2 ^ h else 0) = c * 2 ^ h := fun h => by
    by_cases e : hk_dg X h < hk_n4 fl gn N h ∧ y < hk_e4 fl N h + hk_e4 gn N h * hk_dg X h
    · exact ⟨1, by omega, ⟨fun _ => e, fun _ => rfl⟩, by rw [if_pos e, Nat.one_mul]⟩
    · exact ⟨0, by omega, ⟨fun q => by omega, fun q => absurd q e⟩, by rw [if_neg e, Nat.zero_mul]⟩
  obtain ⟨c0, a0, b0, e0⟩ := q 0
  obtain ⟨c1, a1, b1, e1⟩ := q 1
  obtain ⟨c2, a2, b2, e2⟩ := q 2
  obtain ⟨c3, a3, b3, e3⟩ := q 3
  have e : hk_rdy fl gn N y X 4 = c0 + 2 * c1 + 4 * c2 + 8 * c3 := by
    simp only [hk_rdy]
    rw [e0, e1, e2, e3]
    omega
  rw [e]
  match h, hh with
  | 0, _ => rw [← b0, Nat.pow_zero, Nat.div_one]; omega
  | 1, _ => rw [← b1, Nat.pow_one]; omega
  | 2, _ => rw [← b2, show 2 ^ 2 = 4 from rfl]; omega
  | 3, _ => rw [← b3, show 2 ^ 3 = 8 from rfl]; omega
/-- the class's three questions are hk_pdc -/
theorem hk_pdc_i (hN : N ≤ 4) (hy : y ≤ 10) (g1 : hk_Gd cn N I y X) (hs : set < 16) : ((∀ h, h < 4 → set / 2 ^ h % 2 = 1 → hk_rdy fl gn N y X 4 / 2 ^ h % 2 = 1) ∧ hk_pc set ≤ D ∧ hk_sb (hk_e4 cn N) set 4 + hk_dq cn X 0 N ≤ I * (y + 1)) ↔ hk_pdc fl gn cn N D I X y set := by
  have nb : set < 2 ^ N ↔ ∀ h, N ≤ h → h < 4 → ¬ set / 2 ^ h % 2 = 1 := by
    match N, hN with
    | 0, _ =>
      constructor
      · intro q h _ h4
        have e : set = 0 := by omega
        rw [e]
        exact hk_bit0 h
      · intro q
        have q0 := q 0 (by omega) (by omega)
        have q1 := q 1 (by omega) (by omega)
        have q2 := q 2 (by omega) (by omega)
        have q3 := q 3 (by omega) (by omega)
        rw [Nat.pow_zero, Nat.div_one] at q0
        rw [Nat.pow_one] at q1
        rw [show 2 ^ 2 = 4 from rfl] at q2
        rw [show 2 ^ 3 = 8 from rfl] at q3
        omega
    | 1, _ =>
      constructor
      · intro q h h1 h4
        match h, h1, h4 with
        | 1, _, _ => rw [Nat.pow_one]; omega
        | 2, _, _ => rw [show 2 ^ 2 = 4 from rfl]; omega
        | 3, _, _ => rw [show 2 ^ 3 = 8 from rfl]; omega
      · intro q
        have q1 := q 1 (by omega) (by omega)
        have q2 := q 2 (by omega) (by omega)
        have q3 := q 3 (by omega) (by omega)
        rw [Nat.pow_one] at q1
        rw [show 2 ^ 2 = 4 from rfl] at q2
        rw [show 2 ^ 3 = 8 from rfl] at q3
        omega
    | 2, _ =>
      constructor
      · intro q h h1 h4
        match h, h1, h4 with
        | 2, _, _ => rw [show 2 ^ 2 = 4 from rfl]; omega
        | 3, _, _ => rw [show 2 ^ 3 = 8 from rfl]; omega
      · intro q
        have q2 := q 2 (by omega) (by omega)
        have q3 := q 3 (by omega) (by omega)
        rw [show 2 ^ 2 = 4 from rfl] at q2
        rw [show 2 ^ 3 = 8 from rfl] at q3
        omega
    | 3, _ =>
      constructor
      · intro q h h1 h4
        match h, h1, h4 with
        | 3, _, _ => rw [show 2 ^ 3 = 8 from rfl]; omega
      · intro q
        have q3 := q 3 (by omega) (by omega)
        rw [show 2 ^ 3 = 8 from rfl] at q3
        omega
    | 4, _ => exact ⟨fun _ h h1 h4 => by omega, fun _ => by omega⟩
  constructor
  · rintro ⟨q1, q2, q3⟩
    have nn : ∀ h, N ≤ h → h < 4 → ¬ set / 2 ^ h % 2 = 1 := fun h h1 h4 hb => by
      have := ((hk_rdy_b h4).mp (q1 h h4 hb)).1
      unfold hk_n4 at this
      rw [if_neg (by omega)] at this
      omega
    rw [hk_sbN hN nn] at q3
    refine ⟨nb.mpr nn, ⟨q2, fun h hh hb => ?_, ?_⟩, fun h hh hb => ?_⟩
    · have := ((hk_rdy_b (by omega)).mp (q1 h (by omega) hb)).2
      unfold hk_e4 at this
      rw [if_pos hh, if_pos hh] at this
      exact this
    · rw [hk_dqb]
      omega
    · have := ((hk_rdy_b (by omega)).mp (q1 h (by omega) hb)).1
      unfold hk_n4 at this
      rw [if_pos hh] at this
      exact this
  · rintro ⟨q1, ⟨q2, q3, q4⟩, q5⟩
    have nn := nb.mp q1
    rw [hk_dqb] at q4
    refine ⟨fun h hh hb => (hk_rdy_b hh).mpr ?_, q2, by rw [hk_sbN hN nn]; omega⟩
    have hn : h < N := by
      rcases Nat.lt_or_ge h N with e | e
      · exact e
      · exact absurd hb (nn h e hh)
    unfold hk_n4 hk_e4
    rw [if_pos hn, if_pos hn, if_pos hn]
    exact ⟨q5 h hn hb, q3 h hn hb⟩
end HKPC
theorem hk_and16 : ∀ a, a < 16 → ∀ c, c < 16 → (nI a &&& (nI c ^^^ -1) = 0 ↔ ∀ h, h < 4 → a / 2 ^ h % 2 = 1 → c / 2 ^ h % 2 = 1) := by decide +kernel
/-- the planner's layout stands -/
def hk_Ly (s : Nat → Nat → Int32) (fl gn cn : Nat → Nat) (N : Nat) : Prop := s 29 7 = nI (hk_sd fl gn N 4) ∧ (∀ i, i < 4 → s 30 i = nI (hk_n4 fl gn N i)) ∧ (∀ i, i < 4 → s 31 i = nI (hk_sd fl gn N i)) ∧ (∀ j, j < 16 → s 32 j = nI (hk_sb (hk_sd fl gn N) j 4)) ∧ ∀ j, j < 16 → s 33 j = nI (hk_sb (hk_e4 cn N) j 4)
theorem hk_Ly_fr {s s2 : Nat → Nat → Int32} {fl gn cn : Nat → Nat} {N : Nat} (h : hk_Ly s fl gn cn N) (e : ∀ p q, p = 29 ∧ q = 7 ∨ 30 ≤ p ∧ p ≤ 33 → s2 p q = s p q) : hk_Ly s2 fl gn cn N := by
  obtain ⟨h1, h2, h3, h4, h5⟩ := h
  exact ⟨by rw [e _ _ (by omega)]; exact h1, fun i hi => by rw [e _ _ (by omega)]; exact h2 i hi, fun i hi => by rw [e _ _ (by omega)]; exact h3 i hi, fun i hi => by rw [e _ _ (by omega)]; exact h4 i hi, fun i hi => by rw [e _ _ (by omega)]; exact h5 i hi⟩
/-- the house's hulls are these -/
def hk_HC (s : Nat → Nat → Int32) (fl gn cn : Nat → Nat) (N D I : Nat) : Prop := hk_tw s 12 N ∧ s 1 15 = nI D ∧ s 1 16 = nI I ∧ D ≤ 3 ∧ I ≤ 1000 ∧ ∀ h, h < N → s 13 (h * 3) = nI (fl h) ∧ s 13 (h * 3 + 1) = nI (gn h) ∧ s 13 (h * 3 + 2) = nI (cn h) ∧ fl h ≤ 10 ∧ gn h ≤ 10 ∧ cn h ≤ 1000 ∧ 1 ≤ gn h
theorem hk_HC_fr {s s2 : Nat → Nat → Int32} {fl gn cn : Nat → Nat} {N D I : Nat} (h : hk_HC s fl gn cn N D I) (e : ∀ p q, p ≤ 23 → s2 p q = s p q) : hk_HC s2 fl gn cn N D I := by
  obtain ⟨h1, h2, h3, h4, h5, h6⟩ := h
  exact ⟨hk_tw_f h1 (fun q => e _ _ (by omega)), by rw [e _ _ (by omega)]; exact h2, by rw [e _ _ (by omega)]; exact h3, h4, h5, fun h hh => by rw [e _ _ (by omega), e _ _ (by omega), e _ _ (by omega)]; exact h6 h hh⟩
section HKPD
variable {d n a bb r : Nat} {v w x z : Int32} {s : Nat → Nat → Int32} {lm : Nat → Nat → Int64} {i0 i1 b : Nat} {al : List Nat} {k : Option Value → hk_H → Prop} {hp : hk_H} {fl gn cn : Nat → Nat} {N D I X y : Nat}
theorem hk_HC_N (h : hk_HC s fl gn cn N D I) : N ≤ 4 := h.1.2.2.2
theorem hk_HC_g (h : hk_HC s fl gn cn N D I) : ∀ h', h' < N → 1 ≤ gn h' := fun h' hh => (h.2.2.2.2.2 h' hh).2.2.2.2.2.2
theorem c_hF (H : hk_HC s fl gn cn N D I) {i : Nat} (hi : i < 4) (h1 : k (some (.int (nI (hk_e4 fl N i)))) (s, lm, hk_RH i0 i1 b, al)) : hk_Cl (d + 1) 16 [.ref 12, .int (nI i), .int (nI 0)] (s, lm, hk_RH i0 i1 b, al) k := by
  unfold hk_e4 at h1
  by_cases c : i < N
  · rw [if_pos c, ← (H.2.2.2.2.2 i c).1] at h1
    exact c_get_in (by simp [hk_tb]) H.1 c (j := 0) (by decide) h1
  · rw [if_neg c] at h1
    exact c_get_out (by simp [hk_tb]) (Or.inr (by rw [H.1.2.2.1]; exact nI_le (by omega) (by omega))) h1
theorem c_hG (H : hk_HC s fl gn cn N D I) {i : Nat} (hi : i < 4) (h1 : k (some (.int (nI (hk_e4 gn N i)))) (s, lm, hk_RH i0 i1 b, al)) : hk_Cl (d + 1) 16 [.ref 12, .int (nI i), .int (nI 1)] (s, lm, hk_RH i0 i1 b, al) k := by
  unfold hk_e4 at h1
  by_cases c : i < N
  · rw [if_pos c, ← (H.2.2.2.2.2 i c).2.1] at h1
    exact c_get_in (by simp [hk_tb]) H.1 c (j := 1) (by decide) h1
  · rw [if_neg c] at h1
    exact c_get_out (by simp [hk_tb]) (Or.inr (by rw [H.1.2.2.1]; exact nI_le (by omega) (by omega))) h1
theorem c_hC (H : hk_HC s fl gn cn N D I) {i : Nat} (hi : i < 4) (h1 : k (some (.int (nI (hk_e4 cn N i)))) (s, lm, hk_RH i0 i1 b, al)) : hk_Cl (d + 1) 16 [.ref 12, .int (nI i), .int (nI 2)] (s, lm, hk_RH i0 i1 b, al) k := by
  unfold hk_e4 at h1
  by_cases c : i < N
  · rw [if_pos c, ← (H.2.2.2.2.2 i c).2.2.1] at h1
    exact c_get_in (by simp [hk_tb]) H.1 c (j := 2) (by decide) h1
  · rw [if_neg c] at h1
    exact c_get_out (by simp [hk_tb]) (Or.inr (by rw [H.1.2.2.1]; exact nI_le (by omega) (by omega))) h1
theorem hk_e4_le {c : Nat → Nat} {m h : Nat} (hc : ∀ h, h < N → c h ≤ m) : hk_e4 c N h ≤ m := by
  unfold hk_e4
  by_cases q : h < N
  · rw [if_pos q]
    exact hc h q
  · rw [if_neg q]
    omega
theorem c_timesX (L : hk_Ly s fl gn cn N) (hg : ∀ h, h < N → 1 ≤ gn h) (hI : hk_I4 fl gn N X) {i : Nat} (hi : i < 4) (h1 : k (some (.int (nI (hk_dg X i)))) (s, lm, hk_RH i0 i1 b, al)) : hk_Cl (d + 1) 91 [.ref 29, .int (nI i), .int (nI (hk_stX fl gn N X 4))] (s, lm, hk_RH i0 i1 b, al) k := by
  have s1 := hk_sd1 (fl := fl) (gn := gn) (N := N) i
  have s2 := hk_sdm (fl := fl) hg i
  have s3 : 10 ^ i ≤ 10 ^ 4 := Nat.pow_le_pow_right (by omega) (by omega)
  have t1 := hk_sXl hI 4 (by omega)
  have t2 := hk_sdm (fl := fl) hg 4
  have n9 := hk_n49 (fl := fl) hg i
  have e30 := L.2.1 i hi
  have e31 := L.2.2.1 i hi
  have eq : nI (hk_stX fl gn N X 4) / nI (hk_sd fl gn N i) = nI (hk_stX fl gn N X 4 / hk_sd fl gn N i) := pk_div (by omega) (by omega) (by omega)
  have hq : hk_stX fl gn N X 4 / hk_sd fl gn N i ≤ hk_stX fl gn N X 4 := Nat.div_le_self _ _
  have er := pk_rem (a := hk_stX fl gn N X 4 / hk_sd fl gn N i) (d := hk_n4 fl gn N i + 1) (by omega) (by omega) (by omega)
  rw [hk_sXd hI hi, ← eq, ← nI_1] at er
  rw [← er] at h1
  refine hk_mth hk_m91 rfl rfl (n := 1000) ?_
  refine hk_ldi (i := nI i) (j := i) (by simp only [hk_lit, pk_mul, nI_add]) (by omega) (by decide) e31 ?_
  refine And.intro (fun hc => absurd hc (nI_nle (by omega) (by omega))) (fun _ => ?_)
  refine hk_ldi (i := nI i) (j := i) (by simp only [hk_lit, pk_mul, nI_add]) (by omega) (by decide) e30 ?_
  refine And.intro (fun _ => ?_) (fun hc => absurd (nI_pos' (by omega)) hc)
  refine hk_ldi (i := nI i) (j := i) (by simp only [hk_lit, pk_mul, nI_add]) (by omega) (by decide) e31 ?_
  refine And.intro (nI_ne0 (by omega) (by omega)) ?_
  refine hk_ldi (i := nI i) (j := i) (by simp only [hk_lit, pk_mul, nI_add]) (by omega) (by decide) e30 ?_
  refine And.intro (show ¬ nI (hk_n4 fl gn N i) + 1 = 0 by rw [nI_1]; exact nI_ne0 (by omega) (by omega)) ?_
  exact h1
theorem c_floatsTX (H : hk_HC s fl gn cn N D I) (L : hk_Ly s fl gn cn N) (hI : hk_I4 fl gn N X) {i : Nat} (hi : i < 4) (h1 : k (some (.int (nI (hk_e4 fl N i + hk_e4 gn N i * hk_dg X i)))) (s, lm, hk_RH i0 i1 b, al)) : hk_Cl (d + 2) 90 [.ref 29, .int (nI i), .int (nI (hk_stX fl gn N X 4))] (s, lm, hk_RH i0 i1 b, al) k := by
  refine hk_mth hk_m90 rfl rfl (n := 1000) ?_
  refine c_hF H hi ?_
  refine c_timesX L (hk_HC_g H) hI hi ?_
  refine c_hG H hi ?_
  have e : nI (hk_e4 fl N i) + nI (hk_dg X i) * nI (hk_e4 gn N i) = nI (hk_e4 fl N i + hk_e4 gn N i * hk_dg X i) := by rw [pk_mul, nI_add, Nat.mul_comm]
  rw [← e] at h1
  exact h1
theorem hk_ft_le (H : hk_HC s fl gn cn N D I) {i : Nat} : hk_e4 fl N i + hk_e4 gn N i * hk_dg X i ≤ 110 := by
  have h1 := hk_e4_le (N := N) (c := fl) (m := 10) (h := i) (fun h hh => (H.2.2.2.2.2 h hh).2.2.2.1)
  have h2 := hk_e4_le (N := N) (c := gn) (m := 10) (h := i) (fun h hh => (H.2.2.2.2.2 h hh).2.2.2.2.1)
  have h3 : hk_dg X i < 11 := Nat.mod_lt _ (by omega)
  have := Nat.mul_le_mul h2 (show hk_dg X i ≤ 10 by omega)
  omega
theorem c_dockableX (H : hk_HC s fl gn cn N D I) (L : hk_Ly s fl gn cn N) (hI : hk_I4 fl gn N X) (hy : y < 20) (h1 : k (some (.int (nI (hk_rdy fl gn N y X 4)))) (s, lm, hk_RH i0 i1 b, al)) : hk_Cl (d + 3) 93 [.ref 29, .int (nI y), .int (nI (hk_stX fl gn N X 4))] (s, lm, hk_RH i0 i1 b, al) k := by
  have loop : ∀ (g i : Nat), i + g = 4 → hk_Rn (d + 2) none hk_c93 (hk_sfx 5 hk_c93) [some (.ref 29), some (.int (nI y)), some (.int (nI (hk_stX fl gn N X 4))), some (.int (nI (hk_rdy fl gn N y X i))), some (.int (nI i))] [] (s, lm, hk_RH i0 i1 b, al) k := by
    intro g
    induction g with
    | zero =>
      intro i hi
      have e : i = 4 := by omega
      subst e
      refine hk_hd (n := 1000) (t := 5) rfl ?_
      refine And.intro (fun _ => ?_) (fun hc => absurd (show (4 : Int32) ≤ nI 4 by decide) hc)
      exact h1
    | succ g ih =>
      intro i hi
      have b1 : ¬ nI 4 ≤ nI i := hk_nlt (by omega) (by omega)
      have lt := hk_rdy_lt (fl := fl) (gn := gn) (N := N) (y := y) (X := X) i
      have n9 := hk_n49 (fl := fl) (hk_HC_g H) i
      have fm := hk_ft_le (X := X) (i := i) H
      have dm : hk_dg X i < 11 := Nat.mod_lt _ (by omega)
      have e30 := L.2.1 i (by omega)
      have nn : ¬ (hk_dg X i < hk_n4 fl gn N i ∧ y < hk_e4 fl N i + hk_e4 gn N i * hk_dg X i) → hk_Rn (d + 2) none hk_c93 (hk_sfx 5 hk_c93) [some (.ref 29), some (.int (nI y)), some (.int (nI (hk_stX fl gn N X 4))), some (.int (nI (hk_rdy fl gn N y X i))), some (.int (nI i + 1))] [] (s, lm, hk_RH i0 i1 b, al) k := fun c => by
        refine hk_Rn_cast ?_ (ih (i + 1) (by omega))
        have e : hk_rdy fl gn N y X (i + 1) = hk_rdy fl gn N y X i := by simp only [hk_rdy, if_neg c, Nat.add_zero]
        rw [e, nI_1]
      refine hk_hd (n := 1000) (t := 5) rfl ?_
      refine And.intro (fun hc => absurd hc b1) (fun _ => ?_)
      refine c_timesX L (hk_HC_g H) hI (by omega) ?_
      refine hk_ldi (i := nI i) (j := i) (by simp only [hk_lit, pk_mul, nI_add]) (by omega) (by decide) e30 ?_
      refine And.intro (fun c1 => ?_) (fun c1 => ?_)
      · have c1 : nI (hk_n4 fl gn N i) ≤ nI (hk_dg X i) := c1
        rw [nI_leI (by omega) (by omega)] at c1
        exact nn (fun q => by omega)
      have c1 : ¬ nI (hk_n4 fl gn N i) ≤ nI (hk_dg X i) := c1
      rw [nI_leI (by omega) (by omega)] at c1
      refine c_floatsTX H L hI (by omega) ?_
      refine And.intro (fun c2 => ?_) (fun c2 => ?_)
      · have c2 : nI (hk_e4 fl N i + hk_e4 gn N i * hk_dg X i) ≤ nI y := c2
        rw [nI_leI (by omega) (by omega)] at c2
        exact nn (fun q => by omega)
      have c2 : ¬ nI (hk_e4 fl N i + hk_e4 gn N i * hk_dg X i) ≤ nI y := c2
      rw [nI_leI (by omega) (by omega)] at c2
      refine hk_Rn_cast ?_ (ih (i + 1) (by omega))
      rw [hk_rdy, if_pos ⟨by omega, by omega⟩, ← hk_or2 (by omega) lt, ← nI_1 i]
      rfl
  refine hk_mth hk_m93 rfl rfl (n := 1000) ?_
  exact loop 4 0 (by omega)
theorem c_coinX (H : hk_HC s fl gn cn N D I) (L : hk_Ly s fl gn cn N) (hI : hk_I4 fl gn N X) (g1 : hk_Gd cn N I y X) (hy : y < 10) (h1 : k (some (.int (nI (I * (y + 1) - hk_dq cn X 0 N)))) (s, lm, hk_RH i0 i1 b, al)) : hk_Cl (d + 2) 94 [.ref 29, .int (nI y), .int (nI (hk_stX fl gn N X 4))] (s, lm, hk_RH i0 i1 b, al) k := by
  have hN := hk_HC_N H
  have h0 : ∀ h, N ≤ h → h < 4 → hk_dg X h = 0 := fun h h2 h3 => by
    have := g1.2.1 h h3
    unfold hk_cap at this
    rw [if_neg (by omega)] at this
    omega
  have eq4 := hk_dqN (cn := cn) hN h0
  have le : hk_dq cn X 0 N ≤ I * (y + 1) := by
    have := g1.2.2
    have : I * y ≤ I * (y + 1) := Nat.mul_le_mul_left I (by omega)
    omega
  rw [← pk_sub le, ← eq4] at h1
  have loop : ∀ (g i : Nat), i + g = 4 → hk_Rn (d + 1) none hk_c94 (hk_sfx 15 hk_c94) [some (.ref 29), some (.int (nI y)), some (.int (nI (hk_stX fl gn N X 4))), some (.int (nI (I * (y + 1)) - nI (hk_dq (hk_e4 cn N) X 0 i))), some (.int (nI i))] [] (s, lm, hk_RH i0 i1 b, al) k := by
    intro g
    induction g with
    | zero =>
      intro i hi
      have e : i = 4 := by omega
      subst e
      refine hk_hd (n := 1000) (t := 15) rfl ?_
      refine And.intro (fun _ => ?_) (fun hc => absurd (show (4 : Int32) ≤ nI 4 by decide) hc)
      exact h1
    | succ g ih =>
      intro i hi
      have b1 : ¬ nI 4 ≤ nI i := hk_nlt (by omega) (by omega)
      refine hk_hd (n := 1000) (t := 15) rfl ?_
      refine And.intro (fun hc => absurd hc b1) (fun _ => ?_)
      refine c_timesX L (hk_HC_g H) hI (by omega) ?_
      refine c_hC H (by omega) ?_
      refine hk_Rn_cast ?_ (ih (i + 1) (by omega))
      have e : hk_dq (hk_e4 cn N) X 0 (i + 1) = hk_dq (hk_e4 cn N) X 0 i + hk_dg X i * hk_e4 cn N i := by simp only [hk_dq, if_neg (hk_bit0 i), Nat.add_zero]
      have e2 : nI (I * (y + 1)) - nI (hk_dq (hk_e4 cn N) X 0 (i + 1)) = nI (I * (y + 1)) - nI (hk_dq (hk_e4 cn N) X 0 i) - nI (hk_dg X i) * nI (hk_e4 cn N i) := by rw [e, ← hk_sub3, pk_mul]
      rw [e2, ← nI_1 i]
      rfl
  have st := loop 4 0 (by omega)
  have e0 : nI (I * (y + 1)) - nI (hk_dq (hk_e4 cn N) X 0 0) = nI I * (nI y + 1) := by
    rw [nI_1, pk_mul, hk_dq, pk_sub (by omega)]
    rfl
  rw [e0, ← H.2.2.1] at st
  refine hk_mth hk_m94 rfl rfl (n := 1000) ?_
  exact st
theorem c_mayDockX (H : hk_HC s fl gn cn N D I) (L : hk_Ly s fl gn cn N) (g1 : hk_Gd cn N I y X) (hy : y < 10) {j : Nat} (hj : j < 16) (h1 : hk_pdc fl gn cn N D I X y j → k (some (.int 1)) (s, lm, hk_RH i0 i1 b, al)) (h0 : ¬ hk_pdc fl gn cn N D I X y j → k (some (.int 0)) (s, lm, hk_RH i0 i1 b, al)) : hk_Cl (d + 2) 95 [.ref 29, .int (nI j), .int (nI (hk_rdy fl gn N y X 4)), .int (nI (I * (y + 1) - hk_dq cn X 0 N))] (s, lm, hk_RH i0 i1 b, al) k := by
  have hN := hk_HC_N H
  have hi := hk_pdc_i (fl := fl) (gn := gn) (D := D) hN (by omega) g1 hj
  rw [← hi] at h1 h0
  have lt := hk_rdy_lt (fl := fl) (gn := gn) (N := N) (y := y) (X := X) 4
  have e33 := L.2.2.2.2 j hj
  have hpc := hk_pc_le j j (Nat.le_refl _)
  have hD := H.2.2.2.1
  have le : hk_dq cn X 0 N ≤ I * (y + 1) := by
    have := g1.2.2
    have : I * y ≤ I * (y + 1) := Nat.mul_le_mul_left I (by omega)
    omega
  have hI2 : I * (y + 1) ≤ 1000 * 10 := Nat.mul_le_mul H.2.2.2.2.1 (by omega)
  have cb : ∀ h, h ≤ 4 → hk_sb (hk_e4 cn N) j h ≤ 1000 * h := fun h => by
    induction h with
    | zero => intro _; exact Nat.le_refl _
    | succ h ih =>
      intro hh
      have := ih (by omega)
      have := hk_e4_le (N := N) (c := cn) (m := 1000) (h := h) (fun h hh => (H.2.2.2.2.2 h hh).2.2.2.2.2.1)
      rw [hk_sb]
      split <;> omega
  have cb4 := cb 4 (by omega)
  have an := hk_and16 j hj (hk_rdy fl gn N y X 4) lt
  refine hk_mth hk_m95 rfl rfl (n := 1000) ?_
  refine And.intro (fun c1 => ?_) (fun c1 => ?_)
  · have c1 : ¬ nI j &&& (nI (hk_rdy fl gn N y X 4) ^^^ -1) = 0 := c1
    rw [an] at c1
    exact And.intro (Or.inl rfl) (h0 (fun q => c1 q.1))
  have c1 : ¬ ¬ nI j &&& (nI (hk_rdy fl gn N y X 4) ^^^ -1) = 0 := c1
  rw [an, Classical.not_not] at c1
  refine c_bitE (by omega) ?_
  refine And.intro (fun c2 => ?_) (fun c2 => ?_)
  · have c2 : s 1 15 < nI (hk_pc j) := c2
    rw [H.2.1, nI_ltI (by omega) (by omega)] at c2
    exact And.intro (Or.inl rfl) (h0 (fun q => by omega))
  have c2 : ¬ s 1 15 < nI (hk_pc j) := c2
  rw [H.2.1, nI_ltI (by omega) (by omega)] at c2
  refine hk_ldi (i := nI j) (j := j) (by simp only [hk_lit, pk_mul, nI_add]) (by omega) (by decide) e33 ?_
  refine And.intro (fun c3 => ?_) (fun c3 => ?_)
  · have c3 : nI (I * (y + 1) - hk_dq cn X 0 N) < nI (hk_sb (hk_e4 cn N) j 4) := c3
    rw [nI_ltI (by omega) (by omega)] at c3
    exact And.intro (Or.inl rfl) (h0 (fun q => by omega))
  · have c3 : ¬ nI (I * (y + 1) - hk_dq cn X 0 N) < nI (hk_sb (hk_e4 cn N) j 4) := c3
    rw [nI_ltI (by omega) (by omega)] at c3
    exact And.intro (Or.inr rfl) (h1 ⟨c1, by omega, by omega⟩)
end HKPD
