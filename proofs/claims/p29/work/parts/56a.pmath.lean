/-! ===== the plan: the class's best and the reference's come to the same ===== -/
def hk_tl (fl gn : Nat → Nat) (X h : Nat) : Nat := fl h + gn h * hk_dg X h
def hk_pnd (fl gn : Nat → Nat) (h : Nat) : Nat := if fl h = 0 ∨ 10 ≤ fl h then 0 else (10 - fl h + gn h - 1) / gn h
def hk_In (fl gn : Nat → Nat) (N X : Nat) : Prop := ∀ h, h < N → hk_dg X h ≤ hk_pnd fl gn h
/-- sets that the class may dock -/
def hk_pdc (fl gn cn : Nat → Nat) (N D I X y set : Nat) : Prop := set < 2 ^ N ∧ hk_dr fl gn cn N D I X y set ∧ ∀ h, h < N → set / 2 ^ h % 2 = 1 → hk_dg X h < hk_pnd fl gn h
def hk_sdg (X : Nat) : Nat → Nat
  | 0 => 0
  | h + 1 => hk_sdg X h + hk_dg X h
def hk_pba (fl gn : Nat → Nat) (X y : Nat) : Nat → Nat
  | 0 => 0
  | h + 1 => hk_pba fl gn X y h + min y (hk_tl fl gn X h)
def hk_pwo (fl gn : Nat → Nat) (X : Nat) : Nat → Nat
  | 0 => 0
  | h + 1 => hk_pwo fl gn X h + (1000 * min 10 (hk_tl fl gn X h) - hk_dg X h)
def hk_bsm (set : Nat) : Nat → Nat
  | 0 => 0
  | h + 1 => hk_bsm set h + (if set / 2 ^ h % 2 = 1 then 1 else 0)
noncomputable def hk_pmx (dc : Nat → Prop) (v : Nat → Nat) : Nat → Nat
  | 0 => 0
  | j + 1 => @ite _ (dc j) (Classical.propDecidable _) (max (hk_pmx dc v j) (v j)) (hk_pmx dc v j)
theorem hk_pmx_y {dc : Nat → Prop} {v : Nat → Nat} {j : Nat} (h : dc j) : hk_pmx dc v (j + 1) = max (hk_pmx dc v j) (v j) := by rw [hk_pmx, if_pos h]
theorem hk_pmx_n {dc : Nat → Prop} {v : Nat → Nat} {j : Nat} (h : ¬ dc j) : hk_pmx dc v (j + 1) = hk_pmx dc v j := by rw [hk_pmx, if_neg h]
theorem hk_pmx_le {dc : Nat → Prop} {v : Nat → Nat} {i : Nat} (h : dc i) : ∀ j, i < j → v i ≤ hk_pmx dc v j
  | 0, hj => absurd hj (Nat.not_lt_zero i)
  | j + 1, hj => by
    by_cases e : i = j
    · subst e
      rw [hk_pmx_y h]
      omega
    · have ih := hk_pmx_le (v := v) h j (by omega)
      by_cases c : dc j
      · rw [hk_pmx_y c]
        omega
      · rw [hk_pmx_n c]
        exact ih
theorem hk_pmx_at {dc : Nat → Prop} {v : Nat → Nat} : ∀ j, hk_pmx dc v j = 0 ∨ ∃ i, i < j ∧ dc i ∧ hk_pmx dc v j = v i
  | 0 => Or.inl rfl
  | j + 1 => by
    have ih := hk_pmx_at (dc := dc) (v := v) j
    by_cases c : dc j
    · rw [hk_pmx_y c]
      by_cases m : hk_pmx dc v j ≤ v j
      · exact Or.inr ⟨j, by omega, c, by omega⟩
      · have em : max (hk_pmx dc v j) (v j) = hk_pmx dc v j := by omega
        rw [em]
        rcases ih with e | ⟨i, hi, hd, e⟩
        · exact Or.inl e
        · exact Or.inr ⟨i, by omega, hd, e⟩
    · rw [hk_pmx_n c]
      rcases ih with e | ⟨i, hi, hd, e⟩
      · exact Or.inl e
      · exact Or.inr ⟨i, by omega, hd, e⟩
/-- the class's best of a state, g years from the end -/
noncomputable def hk_C (fl gn cn : Nat → Nat) (N D I : Nat) : Nat → Nat → Nat
  | 0, X => hk_pwo fl gn X N
  | g + 1, X => hk_pmx (fun set => hk_pdc fl gn cn N D I X (9 - g) set) (fun set => hk_C fl gn cn N D I g (hk_dt X set N)) 16
/-- what the reference's row of bests says -/
def hk_pRR (R : Nat → Nat → Nat) (fl gn cn : Nat → Nat) (N D I : Nat) : Prop := (∀ X, hk_Gd cn N I 10 X → R 10 X = 0) ∧ ∀ y, y < 10 → ∀ X, hk_Gd cn N I y X → (∃ set, set < 2 ^ N ∧ hk_dr fl gn cn N D I X y set ∧ R y X + hk_pc set = R (y + 1) (hk_dt X set N) + 64 * hk_fc fl gn X y N) ∧ ∀ set, set < 2 ^ N → hk_dr fl gn cn N D I X y set → R (y + 1) (hk_dt X set N) + 64 * hk_fc fl gn X y N ≤ R y X + hk_pc set
theorem hk_pc4 {j : Nat} (h : j < 16) : hk_pc j = j % 2 + j / 2 % 2 + j / 4 % 2 + j / 8 % 2 := by
  have u : ∀ j, hk_pc j = if j = 0 then 0 else j % 2 + hk_pc (j / 2) := fun j => by
    rw [hk_pc]
    split <;> rfl
  have z : hk_pc 0 = 0 := by rw [u]; rfl
  have h1 : ∀ j, j < 2 → hk_pc j = j % 2 := fun j hj => by
    rw [u]
    by_cases e : j = 0
    · rw [if_pos e, e]
    · rw [if_neg e, show j / 2 = 0 by omega, z, Nat.add_zero]
  have h2 : ∀ j, j < 4 → hk_pc j = j % 2 + j / 2 % 2 := fun j hj => by
    rw [u]
    by_cases e : j = 0
    · rw [if_pos e, e]
    · rw [if_neg e, h1 _ (by omega)]
  have h3 : ∀ j, j < 8 → hk_pc j = j % 2 + j / 2 % 2 + j / 4 % 2 := fun j hj => by
    rw [u]
    by_cases e : j = 0
    · rw [if_pos e, e]
    · rw [if_neg e, h2 _ (by omega), Nat.div_div_eq_div_mul]
      omega
  rw [u]
  by_cases e : j = 0
  · rw [if_pos e, e]
  · rw [if_neg e, h3 _ (by omega), Nat.div_div_eq_div_mul, Nat.div_div_eq_div_mul]
    omega
theorem hk_if2 (a : Nat) : (if a % 2 = 1 then 1 else 0) = a % 2 := by split <;> omega
theorem hk_pcb {N set : Nat} (hN : N ≤ 4) (hs : set < 2 ^ N) : hk_pc set = hk_bsm set N := by
  have h16 : set < 16 := Nat.lt_of_lt_of_le hs (Nat.pow_le_pow_right (n := 2) (by omega) hN)
  rw [hk_pc4 h16]
  match N, hN, hs with
  | 0, _, hs => simp only [hk_bsm]; omega
  | 1, _, hs => simp only [hk_bsm, hk_if2, Nat.pow_zero, Nat.div_one]; omega
  | 2, _, hs => simp only [hk_bsm, hk_if2, Nat.pow_zero, Nat.div_one, Nat.pow_one]; omega
  | 3, _, hs => simp only [hk_bsm, hk_if2, Nat.pow_zero, Nat.div_one, Nat.pow_one, show 2 ^ 2 = 4 from rfl]; omega
  | 4, _, hs => simp only [hk_bsm, hk_if2, Nat.pow_zero, Nat.div_one, Nat.pow_one, show 2 ^ 2 = 4 from rfl, show 2 ^ 3 = 8 from rfl]; omega
/-- a set made smaller -/
theorem hk_psub {N set : Nat} (hN : N ≤ 4) (P : Nat → Prop) : ∃ s', s' < 2 ^ N ∧ ∀ h, h < N → (s' / 2 ^ h % 2 = 1 ↔ set / 2 ^ h % 2 = 1 ∧ P h) := by
  have bt : ∀ Q : Prop, ∃ c : Nat, c ≤ 1 ∧ (c = 1 ↔ Q) := fun Q => (Classical.em Q).elim (fun q => ⟨1, by omega, by simp [q]⟩) (fun q => ⟨0, by omega, by simp [q]⟩)
  obtain ⟨b0, c0, e0⟩ := bt (set / 2 ^ 0 % 2 = 1 ∧ P 0)
  obtain ⟨b1, c1, e1⟩ := bt (set / 2 ^ 1 % 2 = 1 ∧ P 1)
  obtain ⟨b2, c2, e2⟩ := bt (set / 2 ^ 2 % 2 = 1 ∧ P 2)
  obtain ⟨b3, c3, e3⟩ := bt (set / 2 ^ 3 % 2 = 1 ∧ P 3)
  match N, hN with
  | 0, _ => exact ⟨0, by decide, fun h hh => absurd hh (Nat.not_lt_zero h)⟩
  | 1, _ =>
    refine ⟨b0, by omega, fun h hh => ?_⟩
    match h, hh with
    | 0, _ => rw [← e0, Nat.pow_zero, Nat.div_one]; omega
  | 2, _ =>
    refine ⟨b0 + 2 * b1, by omega, fun h hh => ?_⟩
    match h, hh with
    | 0, _ => rw [← e0, Nat.pow_zero, Nat.div_one]; omega
    | 1, _ => rw [← e1, Nat.pow_one]; omega
  | 3, _ =>
    refine ⟨b0 + 2 * b1 + 4 * b2, by omega, fun h hh => ?_⟩
    match h, hh with
    | 0, _ => rw [← e0, Nat.pow_zero, Nat.div_one]; omega
    | 1, _ => rw [← e1, Nat.pow_one]; omega
    | 2, _ => rw [← e2, show 2 ^ 2 = 4 from rfl]; omega
  | 4, _ =>
    refine ⟨b0 + 2 * b1 + 4 * b2 + 8 * b3, by omega, fun h hh => ?_⟩
    match h, hh with
    | 0, _ => rw [← e0, Nat.pow_zero, Nat.div_one]; omega
    | 1, _ => rw [← e1, Nat.pow_one]; omega
    | 2, _ => rw [← e2, show 2 ^ 2 = 4 from rfl]; omega
    | 3, _ => rw [← e3, show 2 ^ 3 = 8 from rfl]; omega
section HKPM
variable {fl gn cn : Nat → Nat} {N D I y X X2 set : Nat} {R : Nat → Nat → Nat}
theorem hk_Gd9 (hy : y ≤ 9) (g : hk_Gd cn N I y X) : ∀ h, h < 4 → hk_dg X h ≤ 9 := fun h hh => by
  have := g.2.1 h hh
  unfold hk_cap at this
  split at this <;> omega
theorem hk_dgs (hN : N ≤ 4) (hy : y ≤ 9) (g : hk_Gd cn N I y X) {h : Nat} (hh : h < N) : hk_dg (hk_dt X set N) h = hk_dg X h + (if set / 2 ^ h % 2 = 1 then 1 else 0) := by
  rw [(hk_dg_dt (y := y) (set := set) hN g.1 (hk_Gd9 hy g)).2 h (by omega)]
  by_cases c : set / 2 ^ h % 2 = 1
  · rw [if_pos ⟨hh, c⟩, if_pos c]
  · rw [if_neg (fun q => c q.2), if_neg c]
theorem hk_sdg_dt (hd : ∀ h, h < N → hk_dg X2 h = hk_dg X h + (if set / 2 ^ h % 2 = 1 then 1 else 0)) : ∀ h, h ≤ N → hk_sdg X2 h = hk_sdg X h + hk_bsm set h
  | 0, _ => rfl
  | h + 1, hh => by
    rw [hk_sdg, hk_sdg, hk_bsm, hk_sdg_dt hd h (by omega), hd h (by omega)]
    omega
theorem hk_tl_dt {h : Nat} (hd : hk_dg X2 h = hk_dg X h + (if set / 2 ^ h % 2 = 1 then 1 else 0)) : hk_tl fl gn X2 h = hk_tl fl gn X h + (if set / 2 ^ h % 2 = 1 then gn h else 0) := by
  unfold hk_tl
  rw [hd]
  by_cases c : set / 2 ^ h % 2 = 1
  · rw [if_pos c, if_pos c, Nat.mul_add]
    omega
  · rw [if_neg c, if_neg c]
    rfl
theorem hk_dq_mono : ∀ n, (∀ h, h < n → hk_dg X h ≤ hk_dg X2 h) → hk_dq cn X set n ≤ hk_dq cn X2 set n
  | 0, _ => Nat.le_refl _
  | n + 1, hd => by
    have ih : hk_dq cn X set n ≤ hk_dq cn X2 set n := hk_dq_mono n (fun h hh => hd h (by omega))
    have := Nat.mul_le_mul_right (cn n) (hd n (by omega))
    rw [hk_dq, hk_dq]
    omega
theorem hk_dq_sub {s2 : Nat} : ∀ n, (∀ h, h < n → s2 / 2 ^ h % 2 = 1 → set / 2 ^ h % 2 = 1) → hk_dq cn X s2 n ≤ hk_dq cn X set n
  | 0, _ => Nat.le_refl _
  | n + 1, hd => by
    have ih : hk_dq cn X s2 n ≤ hk_dq cn X set n := hk_dq_sub n (fun h hh => hd h (by omega))
    rw [hk_dq, hk_dq]
    by_cases c : s2 / 2 ^ n % 2 = 1
    · rw [if_pos c, if_pos (hd n (by omega) c)]
      omega
    · rw [if_neg c]
      omega
theorem hk_bsm_sub {s2 : Nat} : ∀ n, (∀ h, h < n → s2 / 2 ^ h % 2 = 1 → set / 2 ^ h % 2 = 1) → hk_bsm s2 n ≤ hk_bsm set n ∧ (hk_bsm s2 n = hk_bsm set n → ∀ h, h < n → set / 2 ^ h % 2 = 1 → s2 / 2 ^ h % 2 = 1)
  | 0, _ => ⟨Nat.le_refl _, fun _ h hh => absurd hh (Nat.not_lt_zero h)⟩
  | n + 1, hd => by
    obtain ⟨i1, i2⟩ := hk_bsm_sub n (fun h hh => hd h (by omega))
    rw [hk_bsm, hk_bsm]
    by_cases c : s2 / 2 ^ n % 2 = 1
    · rw [if_pos c, if_pos (hd n (by omega) c)]
      refine ⟨by omega, fun e h hh hb => ?_⟩
      by_cases eh : h = n
      · rw [eh]
        exact c
      · exact i2 (by omega) h (by omega) hb
    · rw [if_neg c]
      by_cases c2 : set / 2 ^ n % 2 = 1
      · rw [if_pos c2]
        exact ⟨by omega, fun e => by omega⟩
      · rw [if_neg c2]
        refine ⟨by omega, fun e h hh hb => ?_⟩
        by_cases eh : h = n
        · rw [eh] at hb
          exact absurd hb c2
        · exact i2 (by omega) h (by omega) hb
theorem hk_fc_c : ∀ n, (∀ h, h < n → (y < hk_tl fl gn X h ↔ y < hk_tl fl gn X2 h)) → hk_fc fl gn X y n = hk_fc fl gn X2 y n
  | 0, _ => rfl
  | n + 1, hd => by
    have e := hd n (by omega)
    unfold hk_tl at e
    rw [hk_fc, hk_fc, hk_fc_c n (fun h hh => hd h (by omega))]
    by_cases c : y < fl n + gn n * hk_dg X n
    · rw [if_pos c, if_pos (e.mp c)]
    · rw [if_neg c, if_neg (fun q => c (e.mpr q))]
/-- dockings that bring nothing bring nothing -/
def hk_Mo (fl gn : Nat → Nat) (N X X2 : Nat) : Prop := ∀ h, h < N → hk_dg X2 h = hk_dg X h ∨ (10 ≤ hk_tl fl gn X h ∧ hk_dg X h ≤ hk_dg X2 h)
theorem hk_Mo_le (h : hk_Mo fl gn N X X2) {h' : Nat} (hh : h' < N) : hk_dg X h' ≤ hk_dg X2 h' := by
  rcases h h' hh with e | e
  · omega
  · exact e.2
theorem hk_Mo_fl (hy : y < 10) (h : hk_Mo fl gn N X X2) {h' : Nat} (hh : h' < N) : y < hk_tl fl gn X h' ↔ y < hk_tl fl gn X2 h' := by
  have hm := Nat.mul_le_mul_left (gn h') (hk_Mo_le h hh)
  unfold hk_tl
  rcases h h' hh with e | ⟨e, e2⟩
  · rw [e]
  · unfold hk_tl at e
    constructor <;> intro q <;> omega
theorem hk_Rm (hN : N ≤ 4) (hR : hk_pRR R fl gn cn N D I) : ∀ g, g ≤ 10 → ∀ X X2, hk_Gd cn N I (10 - g) X → hk_Gd cn N I (10 - g) X2 → hk_Mo fl gn N X X2 → R (10 - g) X2 ≤ R (10 - g) X
  | 0, _, X, X2, g1, g2, _ => by
    rw [hR.1 X g1, hR.1 X2 g2]
    exact Nat.le_refl _
  | g + 1, hg, X, X2, g1, g2, hm => by
    have e10 : 10 - g = 10 - (g + 1) + 1 := by omega
    have hy : 10 - (g + 1) ≤ 9 := by omega
    obtain ⟨⟨set, q1, q2, q3⟩, _⟩ := hR.2 (10 - (g + 1)) (by omega) X2 g2
    have d1 : hk_dr fl gn cn N D I X (10 - (g + 1)) set := ⟨q2.1, fun h hh hb => (hk_Mo_fl (by omega) hm hh).mpr (q2.2.1 h hh hb), Nat.le_trans (hk_dq_mono N (fun h hh => hk_Mo_le hm hh)) q2.2.2⟩
    have ub := (hR.2 (10 - (g + 1)) (by omega) X g1).2 set q1 d1
    have n1 := hk_Gd_next hN hy g1 d1
    have n2 := hk_Gd_next hN hy g2 q2
    rw [← e10] at n1 n2 q3 ub
    have ih := hk_Rm hN hR g (by omega) _ _ n1 n2 (fun h hh => by
      rw [hk_dgs hN hy g1 hh, hk_dgs hN hy g2 hh, hk_tl_dt (hk_dgs hN hy g1 hh)]
      rcases hm h hh with e | ⟨e, e2⟩
      · exact Or.inl (by omega)
      · exact Or.inr ⟨by omega, by omega⟩)
    have ef := hk_fc_c (fl := fl) (gn := gn) (y := 10 - (g + 1)) N (fun h hh => hk_Mo_fl (by omega) hm hh)
    omega
/-- docked as often as is of use: it floats to the end -/
theorem hk_nd10 {h : Nat} (hg : 1 ≤ gn h) (h1 : hk_pnd fl gn h ≤ hk_dg X h) (h2 : hk_dg X h ≤ hk_pnd fl gn h) (hf : y < hk_tl fl gn X h) : 10 ≤ hk_tl fl gn X h := by
  have e : hk_dg X h = hk_pnd fl gn h := by omega
  unfold hk_tl at hf ⊢
  rw [e] at hf ⊢
  unfold hk_pnd at hf ⊢
  by_cases c : fl h = 0 ∨ 10 ≤ fl h
  · rw [if_pos c] at hf ⊢
    rcases c with c | c
    · rw [c, Nat.mul_zero] at hf
      omega
    · omega
  · rw [if_neg c]
    have hd := Nat.div_add_mod (10 - fl h + gn h - 1) (gn h)
    have hl := Nat.mod_lt (10 - fl h + gn h - 1) (show 0 < gn h by omega)
    omega
/-- a set that docks to no use is beaten -/
theorem hk_exc (hN : N ≤ 4) (hg : ∀ h, h < N → 1 ≤ gn h) (hR : hk_pRR R fl gn cn N D I) (hy : y < 10) (g1 : hk_Gd cn N I y X) (hI : hk_In fl gn N X) (hs : set < 2 ^ N) (hr : hk_dr fl gn cn N D I X y set) (hn : ¬ hk_pdc fl gn cn N D I X y set) : R (y + 1) (hk_dt X set N) + 64 * hk_fc fl gn X y N < R y X + hk_pc set := by
  obtain ⟨s2, h1, h2⟩ := hk_psub (set := set) hN (fun h => hk_dg X h < hk_pnd fl gn h)
  have hsb : ∀ h, h < N → s2 / 2 ^ h % 2 = 1 → set / 2 ^ h % 2 = 1 := fun h hh hb => ((h2 h hh).mp hb).1
  obtain ⟨b1, b2⟩ := hk_bsm_sub N hsb
  have hlt : hk_bsm s2 N < hk_bsm set N := by
    rcases Nat.lt_or_ge (hk_bsm s2 N) (hk_bsm set N) with q | q
    · exact q
    · refine absurd ⟨hs, hr, fun h hh hb => ?_⟩ hn
      exact ((h2 h hh).mp (b2 (by omega) h hh hb)).2
  have p1 := hk_pcb hN hs
  have p2 := hk_pcb hN h1
  have d2 : hk_dr fl gn cn N D I X y s2 := ⟨by have := hr.1; omega, fun h hh hb => hr.2.1 h hh (hsb h hh hb), Nat.le_trans (hk_dq_sub N hsb) hr.2.2⟩
  have ub := (hR.2 y hy X g1).2 s2 h1 d2
  have n1 := hk_Gd_next hN (by omega) g1 d2
  have n2 := hk_Gd_next hN (by omega) g1 hr
  have e10 : y + 1 = 10 - (9 - y) := by omega
  rw [e10] at n1 n2
  have m := hk_Rm hN hR (9 - y) (by omega) _ _ n1 n2 (fun h hh => by
    rw [hk_dgs hN (by omega) g1 hh, hk_dgs hN (by omega) g1 hh, hk_tl_dt (hk_dgs hN (by omega) g1 hh)]
    by_cases c : set / 2 ^ h % 2 = 1
    · by_cases c2 : hk_dg X h < hk_pnd fl gn h
      · left
        rw [if_pos c, if_pos ((h2 h hh).mpr ⟨c, c2⟩)]
      · right
        have c3 : ¬ s2 / 2 ^ h % 2 = 1 := fun q => c2 ((h2 h hh).mp q).2
        rw [if_pos c, if_neg c3, if_neg c3]
        have := hk_nd10 (fl := fl) (hg h hh) (Nat.not_lt.mp c2) (hI h hh) (hr.2.1 h hh c)
        exact ⟨by omega, by omega⟩
    · left
      rw [if_neg c, if_neg (fun q => c (hsb h hh q))])
  rw [← e10] at m
  omega
theorem hk_pba_n (hy : y < 10) (hd : ∀ h, h < N → hk_dg X2 h = hk_dg X h + (if set / 2 ^ h % 2 = 1 then 1 else 0)) (hf : ∀ h, h < N → set / 2 ^ h % 2 = 1 → y < hk_tl fl gn X h) : ∀ h, h ≤ N → hk_pba fl gn X2 (y + 1) h = hk_pba fl gn X y h + hk_fc fl gn X y h
  | 0, _ => rfl
  | h + 1, hh => by
    have ih := hk_pba_n hy hd hf h (by omega)
    have ht := hk_tl_dt (fl := fl) (gn := gn) (hd h (by omega))
    have hf := hf h (by omega)
    rw [hk_pba, hk_pba, hk_fc, ih, ht]
    show _ + min (y + 1) (hk_tl fl gn X h + _) = _ + min y (hk_tl fl gn X h) + (hk_fc fl gn X y h + (if y < hk_tl fl gn X h then 1 else 0))
    by_cases c : set / 2 ^ h % 2 = 1
    · have := hf c
      rw [if_pos c, if_pos this]
      omega
    · rw [if_neg c]
      by_cases c2 : y < hk_tl fl gn X h
      · rw [if_pos c2]
        omega
      · rw [if_neg c2]
        omega
theorem hk_pwo_e (hg : ∀ h, h < N → 1 ≤ gn h) (h10 : ∀ h, h < N → hk_dg X h ≤ 10) (hI : hk_In fl gn N X) : ∀ h, h ≤ N → hk_pwo fl gn X h + hk_sdg X h = 1000 * hk_pba fl gn X 10 h
  | 0, _ => rfl
  | h + 1, hh => by
    have ih := hk_pwo_e hg h10 hI h (by omega)
    have h1 := hI h (by omega)
    have h2 := h10 h (by omega)
    have h3 := hg h (by omega)
    rw [hk_pwo, hk_sdg, hk_pba]
    have ht : hk_dg X h = 0 ∨ 1 ≤ hk_tl fl gn X h := by
      by_cases c : hk_dg X h = 0
      · exact Or.inl c
      · right
        unfold hk_tl
        have := Nat.mul_le_mul h3 (show 1 ≤ hk_dg X h by omega)
        omega
    omega
theorem hk_In_next (hN : N ≤ 4) (hy : y ≤ 9) (g1 : hk_Gd cn N I y X) (hI : hk_In fl gn N X) (hd : hk_pdc fl gn cn N D I X y set) : hk_In fl gn N (hk_dt X set N) := fun h hh => by
  have a1 := hI h hh
  rw [hk_dgs hN hy g1 hh]
  by_cases c : set / 2 ^ h % 2 = 1
  · have := hd.2.2 h hh c
    rw [if_pos c]
    omega
  · rw [if_neg c]
    exact a1
theorem hk_C_at {g : Nat} (hN : N ≤ 4) (g1 : hk_Gd cn N I (9 - g) X) : ∃ i, i < 16 ∧ hk_pdc fl gn cn N D I X (9 - g) i ∧ hk_C fl gn cn N D I (g + 1) X = hk_C fl gn cn N D I g (hk_dt X i N) := by
  have d0 : hk_pdc fl gn cn N D I X (9 - g) 0 := ⟨Nat.pow_pos (by omega), hk_dr0 g1, fun h _ q => absurd q (hk_bit0 h)⟩
  rcases hk_pmx_at (dc := fun set => hk_pdc fl gn cn N D I X (9 - g) set) (v := fun set => hk_C fl gn cn N D I g (hk_dt X set N)) 16 with e | ⟨i, hi, hd, e⟩
  · have this : hk_C fl gn cn N D I g (hk_dt X 0 N) ≤ hk_pmx (fun set => hk_pdc fl gn cn N D I X (9 - g) set) (fun set => hk_C fl gn cn N D I g (hk_dt X set N)) 16 := hk_pmx_le (dc := fun set => hk_pdc fl gn cn N D I X (9 - g) set) (v := fun set => hk_C fl gn cn N D I g (hk_dt X set N)) (i := 0) d0 16 (by omega)
    refine ⟨0, by omega, d0, ?_⟩
    show hk_pmx (fun set => hk_pdc fl gn cn N D I X (9 - g) set) (fun set => hk_C fl gn cn N D I g (hk_dt X set N)) 16 = _
    omega
  · exact ⟨i, hi, hd, e⟩
theorem hk_Cm (hN : N ≤ 4) (hD : D ≤ 3) (hg : ∀ h, h < N → 1 ≤ gn h) (hR : hk_pRR R fl gn cn N D I) : ∀ g, g ≤ 10 → ∀ X, hk_Gd cn N I (10 - g) X → hk_In fl gn N X → ∃ Y K, hk_C fl gn cn N D I g X + K = 1000 * Y ∧ R (10 - g) X + 64 * hk_pba fl gn X (10 - g) N + K = 64 * Y + hk_sdg X N ∧ hk_sdg X N ≤ K ∧ K ≤ hk_sdg X N + 3 * g
  | 0, _, X, g1, hI => by
    refine ⟨hk_pba fl gn X 10 N, hk_sdg X N, hk_pwo_e hg (fun h hh => ?_) hI N (Nat.le_refl _), ?_, Nat.le_refl _, by omega⟩
    · have := g1.2.1 h (by omega)
      unfold hk_cap at this
      split at this <;> omega
    · rw [hR.1 X g1]
      show 0 + 64 * hk_pba fl gn X 10 N + hk_sdg X N = _
      omega
  | g + 1, hgg, X, g1, hI => by
    have ey : 10 - (g + 1) = 9 - g := by omega
    rw [ey] at g1 ⊢
    have hy : 9 - g < 10 := by omega
    have e1 : 9 - g + 1 = 10 - g := by omega
    -- what a set comes to
    have one : ∀ set, hk_pdc fl gn cn N D I X (9 - g) set → ∃ Y K, hk_C fl gn cn N D I g (hk_dt X set N) + K = 1000 * Y ∧ R (9 - g + 1) (hk_dt X set N) + 64 * hk_fc fl gn X (9 - g) N + 64 * hk_pba fl gn X (9 - g) N + K = 64 * Y + hk_sdg X N + hk_pc set ∧ hk_sdg X N ≤ K ∧ K ≤ hk_sdg X N + 3 * (g + 1) := fun set hd => by
      have n1 := hk_Gd_next hN (by omega) g1 hd.2.1
      rw [e1] at n1
      have hdg : ∀ h, h < N → hk_dg (hk_dt X set N) h = hk_dg X h + (if set / 2 ^ h % 2 = 1 then 1 else 0) := fun h hh => hk_dgs hN (by omega) g1 hh
      obtain ⟨Y, K, q1, q2, q3, q4⟩ := hk_Cm hN hD hg hR g (by omega) (hk_dt X set N) n1 (hk_In_next hN (by omega) g1 hI hd)
      have es := hk_sdg_dt hdg N (Nat.le_refl _)
      have ep := hk_pcb hN hd.1
      have eb := hk_pba_n (fl := fl) (gn := gn) hy hdg hd.2.1.2.1 N (Nat.le_refl _)
      have hpD := hd.2.1.1
      rw [e1] at eb
      refine ⟨Y, K, q1, ?_, by omega, by omega⟩
      rw [e1]
      omega
    obtain ⟨st, hst, ds, es⟩ := hk_C_at (fl := fl) (gn := gn) (D := D) hN g1
    have top : ∀ set, hk_pdc fl gn cn N D I X (9 - g) set → hk_C fl gn cn N D I g (hk_dt X set N) ≤ hk_C fl gn cn N D I (g + 1) X := fun set hd => hk_pmx_le (dc := fun set => hk_pdc fl gn cn N D I X (9 - g) set) (v := fun set => hk_C fl gn cn N D I g (hk_dt X set N)) hd 16 (Nat.lt_of_lt_of_le hd.1 (Nat.pow_le_pow_right (n := 2) (by omega) hN))
    obtain ⟨Y, K, q1, q2, q3, q4⟩ := one st ds
    refine ⟨Y, K, by rw [es]; exact q1, ?_, q3, q4⟩
    obtain ⟨⟨m, m1, m2, m3⟩, ub⟩ := hR.2 (9 - g) hy X g1
    have u1 := ub st ds.1 ds.2.1
    by_cases hm : hk_pdc fl gn cn N D I X (9 - g) m
    · obtain ⟨Y2, K2, r1, r2, r3, r4⟩ := one m hm
      have t1 := top m hm
      rw [es] at t1
      omega
    · have := hk_exc hN hg hR hy g1 hI m1 m2 hm
      omega
/-- the sets that are best in the one are best in the other -/
theorem hk_bests (hN : N ≤ 4) (hD : D ≤ 3) (hg : ∀ h, h < N → 1 ≤ gn h) (hR : hk_pRR R fl gn cn N D I) {g : Nat} (hgg : g ≤ 9) (g1 : hk_Gd cn N I (9 - g) X) (hI : hk_In fl gn N X) (hs : set < 2 ^ N) : (hk_dr fl gn cn N D I X (9 - g) set ∧ R (9 - g + 1) (hk_dt X set N) + 64 * hk_fc fl gn X (9 - g) N = R (9 - g) X + hk_pc set) ↔ (hk_pdc fl gn cn N D I X (9 - g) set ∧ hk_C fl gn cn N D I g (hk_dt X set N) = hk_C fl gn cn N D I (g + 1) X) := by
  have hy : 9 - g < 10 := by omega
  have e1 : 9 - g + 1 = 10 - g := by omega
  have ey : 10 - (g + 1) = 9 - g := by omega
  obtain ⟨Y0, K0, p1, p2, p3, p4⟩ := hk_Cm hN hD hg hR (g + 1) (by omega) X (by rw [ey]; exact g1) hI
  rw [ey] at p2
  have two : hk_pdc fl gn cn N D I X (9 - g) set → (R (9 - g + 1) (hk_dt X set N) + 64 * hk_fc fl gn X (9 - g) N = R (9 - g) X + hk_pc set ↔ hk_C fl gn cn N D I g (hk_dt X set N) = hk_C fl gn cn N D I (g + 1) X) := fun hd => by
    have n1 := hk_Gd_next hN (by omega) g1 hd.2.1
    rw [e1] at n1
    have hdg : ∀ h, h < N → hk_dg (hk_dt X set N) h = hk_dg X h + (if set / 2 ^ h % 2 = 1 then 1 else 0) := fun h hh => hk_dgs hN (by omega) g1 hh
    obtain ⟨Y, K, q1, q2, q3, q4⟩ := hk_Cm hN hD hg hR g (by omega) (hk_dt X set N) n1 (hk_In_next hN (by omega) g1 hI hd)
    have es := hk_sdg_dt hdg N (Nat.le_refl _)
    have ep := hk_pcb hN hd.1
    have eb := hk_pba_n (fl := fl) (gn := gn) hy hdg hd.2.1.2.1 N (Nat.le_refl _)
    have hpD := hd.2.1.1
    rw [e1] at eb ⊢
    constructor <;> intro q <;> omega
  constructor
  · rintro ⟨h1, h2⟩
    by_cases hd : hk_pdc fl gn cn N D I X (9 - g) set
    · exact ⟨hd, (two hd).mp h2⟩
    · have := hk_exc hN hg hR hy g1 hI hs h1 hd
      omega
  · rintro ⟨h1, h2⟩
    exact ⟨h1.2.1, (two h1).mpr h2⟩
end HKPM
