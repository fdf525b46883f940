/-! ===== the invariant: the easy cells of both sides agree ===== -/
/-- the house's cell (place a behind the house, index i) and the row's cell q -/
def hk_LP (a i q : Nat) : Prop := (a = 1 ∧ i = 3 ∧ q = 0) ∨ (a = 3 ∧ i = 3 ∧ q = 1) ∨ (a = 11 ∧ i = 3 ∧ q = 3) ∨ (a = 13 ∧ i = 3 ∧ q = 4) ∨ (a = 15 ∧ i = 3 ∧ q = 5) ∨ (a = 17 ∧ i = 3 ∧ q = 6) ∨ (a = 0 ∧ 12 ≤ i ∧ i ≤ 16 ∧ q + 5 = i) ∨ (a = 19 ∧ i < 3 ∧ q = 12 + i) ∨ (a = 20 ∧ i < 600 ∧ q = 1848 + i) ∨ (a = 21 ∧ i < 90 ∧ q = 1718 + i) ∨ (a = 8 ∧ i < 12 ∧ q = 1410 + i) ∨ (a = 10 ∧ i < 244 ∧ q = 1422 + i) ∨ (a = 12 ∧ i < 12 ∧ q = 1666 + i) ∨ (a = 14 ∧ i < 40 ∧ q = 1678 + i) ∨ (a = 16 ∧ i < 16 ∧ q = 1808 + i) ∨ (a = 18 ∧ i < 24 ∧ q = 1824 + i) ∨ (a = 2 ∧ i < 54 ∧ q = 20 + 10 * (i / 9) + i % 9) ∨ (a = 4 ∧ i < 576 ∧ q = 80 + i)
theorem hk_LP_a {a i q : Nat} (h : hk_LP a i q) : a ≤ 21 ∧ q < 2448 ∧ (a = 4 → i < 576 ∧ q = 80 + i) ∧ a ≠ 5 ∧ a ≠ 6 ∧ (a = 2 → ∃ w c, w < 6 ∧ c < 9 ∧ i = w * 9 + c ∧ q = 20 + 10 * w + c) ∧ (a ≠ 2 → a = 0 ∨ a ≠ 2) ∧ hk_ez q ∧ (q = 7 ↔ a = 0 ∧ i = 12) := by
  unfold hk_LP at h
  unfold hk_ez
  rcases h with h | h | h | h | h | h | h | h | h | h | h | h | h | h | h | h | h | h
  all_goals
    refine ⟨by omega, by omega, by omega, by omega, by omega, fun e => ?_, fun _ => by omega, by omega, by omega⟩
  all_goals first | (exfalso; omega) | skip
  exact ⟨i / 9, i % 9, by omega, by omega, by omega, by omega⟩
theorem hk_LP_b {a i q : Nat} (h : hk_LP a i q) : a ≤ 21 ∧ q < 2448 ∧ a ≠ 5 ∧ a ≠ 6 := ⟨(hk_LP_a h).1, (hk_LP_a h).2.1, (hk_LP_a h).2.2.2.1, (hk_LP_a h).2.2.2.2.1⟩
theorem hk_LP_inj {a i q a2 i2 q2 : Nat} (h : hk_LP a i q) (h2 : hk_LP a2 i2 q2) : (a = a2 ∧ i = i2) ↔ q = q2 := by
  unfold hk_LP at h h2
  rcases h with h | h | h | h | h | h | h | h | h | h | h | h | h | h | h | h | h | h
  all_goals
    rcases h2 with h2 | h2 | h2 | h2 | h2 | h2 | h2 | h2 | h2 | h2 | h2 | h2 | h2 | h2 | h2 | h2 | h2 | h2
  all_goals omega
def hk_Rel (s : Nat → Nat → Int32) (H : Nat) (f : Nat → Int32) : Prop := ∀ a i q, hk_LP a i q → s (H + a) i = f q
theorem hk_Rel_u {s : Nat → Nat → Int32} {H a i q : Nat} {f : Nat → Int32} {v : Int32} (h : hk_Rel s H f) (hl : hk_LP a i q) : hk_Rel (hk_u2 s (H + a) i v) H (fun j => if j = q then v else f j) := fun a2 i2 q2 h2 => by
  have hi := hk_LP_inj h2 hl
  dsimp only
  by_cases e : q2 = q
  · obtain ⟨e1, e2⟩ := hi.mpr e
    subst e1 e2
    rw [hk_u2s, if_pos e]
  · rw [hk_u2o (fun c => e (hi.mp ⟨by omega, c.2⟩)), if_neg e]
    exact h a2 i2 q2 h2
/-- a house kept -/
def hk_TWi (s : Nat → Nat → Int32) (D : Nat) : Prop := (∀ j, j < 9 → ∃ n, hk_tw s (D + 1 + 2 * j) n) ∧ hk_tw s (D + 7) 4 ∧ hk_tw s (D + 9) 4
def hk_rowj (s : Nat → Nat → Int32) (j : Nat) (q : Nat) : Int32 := s 43 (2448 * j + q)
def hk_Img (s : Nat → Nat → Int32) (j D : Nat) : Prop := (D = 0 ∧ s 44 j = 0) ∨ ((D = 51 ∨ D = 73) ∧ s 44 j = 1 ∧ hk_TWi s D ∧ hk_Rel s D (hk_rowj s j) ∧ ∃ a b r, hk_RI (hk_rowj s j) a b r)
def hk_A0 : List Nat := List.range 51
def hk_A1 : List Nat := List.range' 51 22
def hk_A2 : List Nat := List.range' 73 22
def hk_cfg (i0 i1 b : Nat) (al : List Nat) : Prop := (i0 = 0 ∧ i1 = 0 ∧ (b = 35 ∧ al = hk_A0 ∨ b = 95 ∧ al = hk_A0 ++ [95])) ∨ ((i0 = 51 ∧ i1 = 0 ∨ i0 = 0 ∧ i1 = 51) ∧ (b = 35 ∧ al = hk_A0 ++ hk_A1 ∨ b = 95 ∧ (al = hk_A0 ++ [95] ++ hk_A1 ∨ al = hk_A0 ++ hk_A1 ++ [95]))) ∨ ((i0 = 51 ∧ i1 = 73 ∨ i0 = 73 ∧ i1 = 51) ∧ (b = 35 ∧ al = hk_A0 ++ hk_A1 ++ hk_A2 ∨ b = 95 ∧ (al = hk_A0 ++ [95] ++ hk_A1 ++ hk_A2 ∨ al = hk_A0 ++ hk_A1 ++ [95] ++ hk_A2 ∨ al = hk_A0 ++ hk_A1 ++ hk_A2 ++ [95])))
theorem hk_cfg_rm {i0 i1 b : Nat} {al : List Nat} (h : hk_cfg i0 i1 b al) : hk_rmo al := by
  unfold hk_cfg at h
  rcases h with ⟨_, _, ⟨_, rfl⟩ | ⟨_, rfl⟩⟩ | ⟨_, ⟨_, rfl⟩ | ⟨_, rfl | rfl⟩⟩ | ⟨_, ⟨_, rfl⟩ | ⟨_, rfl | rfl | rfl⟩⟩
  all_goals exact ⟨by decide +kernel, by decide +kernel⟩
/-- what stands between two calls -/
def hk_IS (s : Nat → Nat → Int32) (i0 i1 : Nat) : Prop := hk_TW s ∧ hk_Rel s 1 (s 41) ∧ (∃ a b r, hk_RI (s 41) a b r) ∧ hk_Img s 0 i0 ∧ hk_Img s 1 i1
def hk_Inv (h : hk_H) : Prop := ∃ s lm i0 i1 b al, h = (s, lm, hk_RH i0 i1 b, al) ∧ hk_cfg i0 i1 b al ∧ hk_IS s i0 i1
/-- images and what lies beyond the house and the row stand -/
theorem hk_Img_fr {s s2 : Nat → Nat → Int32} {j D : Nat} (h : hk_Img s j D) (hj : j < 2) (e : ∀ p q, 51 ≤ p ∧ p < 95 ∨ p = 43 ∨ p = 44 → s2 p q = s p q) : hk_Img s2 j D := by
  have er : hk_rowj s2 j = hk_rowj s j := funext fun q => e 43 _ (by omega)
  rcases h with ⟨h1, h2⟩ | ⟨h1, h2, ⟨h3, h4, h5⟩, h6, h7⟩
  · exact Or.inl ⟨h1, by rw [e _ _ (by omega)]; exact h2⟩
  · have ft : ∀ t n, 51 ≤ t → t < 95 → hk_tw s t n → hk_tw s2 t n := fun t n t1 t2 ⟨b1, b2, b3, b4⟩ => ⟨by rw [e _ _ (by omega)]; exact b1, by rw [e _ _ (by omega)]; exact b2, by rw [e _ _ (by omega)]; exact b3, b4⟩
    refine Or.inr ⟨h1, by rw [e _ _ (by omega)]; exact h2, ⟨fun j hj => (h3 j hj).elim fun n hn => ⟨n, ft _ n (by omega) (by omega) hn⟩, ft _ 4 (by omega) (by omega) h4, ft _ 4 (by omega) (by omega) h5⟩, fun a i q hl => ?_, by rw [er]; exact h7⟩
    have ha := (hk_LP_a hl).1
    rw [er, e _ _ (by omega)]
    exact h6 a i q hl
/-- a class call that changes no easy cell -/
def hk_CF (s s1 : Nat → Nat → Int32) : Prop := (∀ p q, 40 ≤ p → p ≠ 95 → s1 p q = s p q) ∧ (∀ a i q, hk_LP a i q → s1 (1 + a) i = s (1 + a) i) ∧ hk_TW s1
/-- a reference's call that changes no easy cell -/
def hk_Gw (s s2 : Nat → Nat → Int32) : Prop := (∀ p q, p < 40 ∨ 51 ≤ p ∨ p = 43 ∨ p = 44 → s2 p q = s p q) ∧ ∀ q, hk_ez q → s2 41 q = s 41 q
theorem hk_safe {s s1 s2 : Nat → Nat → Int32} {i0 i1 : Nat} (h : hk_IS s i0 i1) (c : hk_CF s s1) (g : hk_Gw s1 s2) (r : ∃ a b r, hk_RI (s2 41) a b r) : hk_IS s2 i0 i1 := by
  obtain ⟨h1, h2, h3, h4, h5⟩ := h
  have e : ∀ p q, 51 ≤ p ∧ p < 95 ∨ p = 43 ∨ p = 44 → s2 p q = s p q := fun p q hp => (g.1 p q (by omega)).trans (c.1 p q (by omega) (by omega))
  refine ⟨hk_TW_fr c.2.2 (fun t q ht => g.1 t q (by have := hk_tb35 ht; omega)), fun a i q hl => ?_, r, hk_Img_fr h4 (by omega) e, hk_Img_fr h5 (by omega) e⟩
  have hl2 := hk_LP_b hl
  rw [g.1 _ _ (by omega), c.2.1 a i q hl, g.2 q (hk_LP_a hl).2.2.2.2.2.2.2.1, c.1 41 q (by omega) (by omega)]
  exact h2 a i q hl
/-- all that a class call may start from -/
theorem hk_IS_TL {s : Nat → Nat → Int32} {i0 i1 : Nat} (h : hk_IS s i0 i1) : hk_TL s := fun j hj => by
  obtain ⟨a, b, r, hr⟩ := h.2.2.1
  obtain ⟨m, hm, e⟩ := hr.2.2.2.2.2.2.2.1 j hj
  refine ⟨m, hm, ?_⟩
  have := h.2.1 10 (j * 61) (1422 + j * 61) (by unfold hk_LP; omega)
  rw [show (1 : Nat) + 10 = 11 from rfl] at this
  rw [this, Nat.mul_comm j 61]
  exact e
/-! frames -/
theorem hk_CF_r {s : Nat → Nat → Int32} (h : hk_TW s) : hk_CF s s := ⟨fun _ _ _ _ => rfl, fun _ _ _ _ => rfl, h⟩
/-- frames by places alone -/
theorem hk_CF_p {s s1 : Nat → Nat → Int32} (h : hk_TW s) (f : ∀ p q, p ≤ 23 ∨ 40 ≤ p ∧ p ≠ 95 → s1 p q = s p q) : hk_CF s s1 := ⟨fun p q h1 h2 => f p q (by omega), fun a i q hl => by
  have hl2 := hk_LP_b hl
  exact f _ _ (by omega), hk_TW_fr h (fun t q ht => f t q (by have := hk_tb35 ht; omega))⟩
theorem hk_CF_67 {s s1 : Nat → Nat → Int32} (f : hk_F67 s s1) (h : hk_TW s1) : hk_CF s s1 := ⟨fun p q h1 _ => f p q (by omega) (by omega), fun a i q hl => by
  have hl2 := hk_LP_b hl
  exact f _ _ (by omega) (by omega), h⟩
