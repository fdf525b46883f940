/-! ===== calls whose answers agree ===== -/
theorem hk_Inv_mk {s : Nat → Nat → Int32} {lm : Nat → Nat → Int64} {i0 i1 b : Nat} {al : List Nat} (hc : hk_cfg i0 i1 b al) (hi : hk_IS s i0 i1) : hk_Inv (s, lm, hk_RH i0 i1 b, al) := ⟨s, lm, i0, i1, b, al, rfl, hc, hi⟩
/-- one easy cell written on both sides -/
theorem hk_IS_u {s : Nat → Nat → Int32} {i0 i1 a i q : Nat} {v : Int32} (h : hk_IS s i0 i1) (hl : hk_LP a i q) (ht : ¬ hk_tb (1 + a)) (r : ∃ a b r, hk_RI (fun j => if j = q then v else s 41 j) a b r) : hk_IS (hk_u2 (hk_u2 s (1 + a) i v) 41 q v) i0 i1 := by
  obtain ⟨h1, h2, h3, h4, h5⟩ := h
  have hla := hk_LP_b hl
  have e41 : hk_u2 (hk_u2 s (1 + a) i v) 41 q v 41 = fun j => if j = q then v else s 41 j := by
    rw [hk_u2f]
    funext j
    rw [hk_u2o (by omega)]
  have e : ∀ p q2, 51 ≤ p ∧ p < 95 ∨ p = 43 ∨ p = 44 → hk_u2 (hk_u2 s (1 + a) i v) 41 q v p q2 = s p q2 := fun p q2 hp => by
    rw [hk_u2o (by omega), hk_u2o (by omega)]
  refine ⟨hk_TW_u (hk_TW_u h1 ht) (by simp [hk_tb]), ?_, by rw [e41]; exact r, hk_Img_fr h4 (by omega) e, hk_Img_fr h5 (by omega) e⟩
  rw [e41]
  intro a2 i2 q2 hl2
  have hl2a := hk_LP_b hl2
  rw [hk_u2o (by omega)]
  exact hk_Rel_u h2 hl a2 i2 q2 hl2
/-- a scratch cell of the class -/
theorem hk_IS_c {s : Nat → Nat → Int32} {i0 i1 p q : Nat} {v : Int32} (h : hk_IS s i0 i1) (hp : 24 ≤ p ∧ p ≤ 39) : hk_IS (hk_u2 s p q v) i0 i1 := by
  obtain ⟨h1, h2, h3, h4, h5⟩ := h
  have e41 : hk_u2 s p q v 41 = s 41 := funext fun j => hk_u2o (by omega)
  have e : ∀ p2 q2, 51 ≤ p2 ∧ p2 < 95 ∨ p2 = 43 ∨ p2 = 44 → hk_u2 s p q v p2 q2 = s p2 q2 := fun p2 q2 hp2 => hk_u2o (by omega)
  refine ⟨hk_TW_u h1 (by simp [hk_tb]; omega), fun a2 i2 q2 hl2 => ?_, by rw [e41]; exact h3, hk_Img_fr h4 (by omega) e, hk_Img_fr h5 (by omega) e⟩
  have hl2a := hk_LP_b hl2
  rw [e41, hk_u2o (by omega)]
  exact h2 a2 i2 q2 hl2
section HKE2
variable {v w x y z : Int32}
theorem q_bound : hk_SI 20 145 [.int v] True := by
  rintro h ⟨s, lm, i0, i1, b, al, rfl, hc, hi⟩
  obtain ⟨aa, bb, r, hr⟩ := hi.2.2.1
  have hl : hk_LP 0 13 8 := hk_lp6 (by omega) (by omega) (by omega)
  refine c_bound (d := 998) (fun hb => ⟨_, rfl, m_bound (d := 998) (fun _ => ⟨_, rfl, fun _ => rfl, hk_Inv_mk hc hi⟩) (fun hg => absurd hg hb)⟩) (fun hg => ⟨_, rfl, m_bound (d := 998) (fun hb => absurd hg hb) (fun _ => ⟨_, rfl, fun _ => ?_, hk_Inv_mk hc (hk_IS_u hi hl (by simp [hk_tb]) ⟨_, _, _, hk_RI_u hr (by omega)⟩)⟩)⟩)
  rw [hk_u2o (by omega)]
  exact hi.2.1 0 13 8 hl
theorem q_wire : hk_SI 21 146 [.int v] True := by
  rintro h ⟨s, lm, i0, i1, b, al, rfl, hc, hi⟩
  obtain ⟨aa, bb, r, hr⟩ := hi.2.2.1
  have hl : hk_LP 0 14 9 := hk_lp6 (by omega) (by omega) (by omega)
  refine c_wire (d := 998) (fun hb => ⟨_, rfl, m_wire (d := 998) (fun _ => ⟨_, rfl, fun _ => rfl, hk_Inv_mk hc hi⟩) (fun hg => absurd hg hb)⟩) (fun hg => ⟨_, rfl, m_wire (d := 998) (fun hb => absurd hg hb) (fun _ => ⟨_, rfl, fun _ => ?_, hk_Inv_mk hc (hk_IS_u hi hl (by simp [hk_tb]) ⟨_, _, _, hk_RI_u hr (by omega)⟩)⟩)⟩)
  rw [hk_u2o (by omega)]
  exact hi.2.1 0 14 9 hl
theorem hk_same {i j : Nat} {z : Int32} (e : z = nI j) (e2 : z = nI i) (hi : i < 2 ^ 30) (hj : j < 2 ^ 30) : i = j := by
  rw [e] at e2
  exact ((nI_eq (by omega) (by omega)).mp e2).symm
theorem q_storm : hk_SI 24 148 [.int z, .int v] True := by
  rintro h ⟨s, lm, i0, i1, b, al, rfl, hc, hi⟩
  obtain ⟨aa, bb, r, hr⟩ := hi.2.2.1
  refine c_storm (d := 997) (fun hb => ⟨_, rfl, m_storm (d := 997) (fun _ => ⟨_, rfl, fun _ => rfl, hk_Inv_mk hc hi⟩) (fun _ _ _ hg => absurd hg hb)⟩) (fun j ej hj hg => ⟨_, rfl, m_storm (d := 997) (fun hb => absurd hg hb) (fun i ei hi2 _ => ?_)⟩)
  have e := hk_same ej ei (by omega) (by omega)
  subst e
  have hl : hk_LP 20 i (1848 + i) := hk_lp8 (by omega) rfl
  refine ⟨_, rfl, fun _ => ?_, hk_Inv_mk hc (hk_IS_u hi hl (by simp [hk_tb]) ⟨_, _, _, hk_RI_u hr (by omega)⟩)⟩
  rw [hk_u2o (by omega)]
  exact hi.2.1 20 i _ hl
theorem q_wave : hk_SI 108 210 [.int z, .int v] True := by
  rintro h ⟨s, lm, i0, i1, b, al, rfl, hc, hi⟩
  obtain ⟨aa, bb, r, hr⟩ := hi.2.2.1
  refine c_wave (d := 998) (fun hb => ⟨_, rfl, m_wave (d := 998) (fun _ => ⟨_, rfl, fun _ => rfl, hk_Inv_mk hc hi⟩) (fun _ _ _ hg => absurd hg hb)⟩) (fun j ej hj hg => ⟨_, rfl, m_wave (d := 998) (fun hb => absurd hg hb) (fun i ei hi2 _ => ?_)⟩)
  have e := hk_same ej ei (by omega) (by omega)
  subst e
  have hl : hk_LP 21 i (1718 + i) := hk_lp9 (by omega) rfl
  refine ⟨_, rfl, fun _ => ?_, hk_Inv_mk hc (hk_IS_u hi hl (by simp [hk_tb]) ⟨_, _, _, hk_RI_u hr (by omega)⟩)⟩
  rw [hk_u2o (by omega)]
  exact hi.2.1 21 i _ hl
theorem q_wear : hk_SI 19 143 [.int z, .int v] True := by
  rintro h ⟨s, lm, i0, i1, b, al, rfl, hc, hi⟩
  obtain ⟨aa, bb, r, hr⟩ := hi.2.2.1
  refine c_wear (d := 998) (fun hb => ⟨_, rfl, m_wear (d := 998) (fun _ => ⟨_, rfl, fun _ => rfl, hk_Inv_mk hc hi⟩) (fun j e hj h1 h2 => absurd hb (hk_wr e hj h1 h2))⟩) (fun j ej hj h1 h2 => ⟨_, rfl, m_wear (d := 998) (fun hb => absurd hb (hk_wr ej hj h1 h2)) (fun i ei hi2 _ _ => ?_)⟩)
  have e := hk_same ej ei (by omega) (by omega)
  subst e
  have hl : hk_LP 19 i (12 + i) := hk_lp7 (by omega) rfl
  refine ⟨_, rfl, fun _ => ?_, hk_Inv_mk hc (hk_IS_u hi hl (by simp [hk_tb]) ⟨_, _, _, hk_RI_v hr (by omega) (hk_RP_u (hk_RI_P hr) (by omega) (fun _ _ => hk_rng (n := 50) (by decide) h1 h2) (fun a c d => by omega) (fun a c d => by omega) (fun a c d => by omega) (fun a c d => by omega))⟩)⟩
  rw [hk_u2o (by omega)]
  exact hi.2.1 19 i _ hl
theorem q_tow : hk_SI 109 211 [.int v, .int w, .int x] True := by
  rintro h ⟨s, lm, i0, i1, b, al, rfl, hc, hi⟩
  refine c_tow (d := 998) (fun hb => ⟨_, rfl, m_tow (d := 998) (fun _ => ⟨_, rfl, fun _ => rfl, hk_Inv_mk hc hi⟩) (fun _ _ _ hg => absurd hg hb)⟩) (fun j ej hj hg => ⟨_, rfl, m_tow (d := 998) (fun hb => absurd hg hb) (fun i ei hi2 _ => ⟨_, rfl, fun _ => ?_, hk_Inv_mk hc hi⟩)⟩)
  have e := hk_same ej ei (by omega) (by omega)
  subst e
  exact hk_twe (90 - i) i 0 (by omega) (fun q hq => hi.2.1 21 q (1718 + q) (hk_lp9 hq rfl))
/-- as many ships on both sides -/
theorem hk_shn {s : Nat → Nat → Int32} {i0 i1 : Nat} (hi : hk_IS s i0 i1) : ∃ a, a ≤ 6 ∧ hk_tw s 2 a ∧ s 41 0 = nI a := by
  obtain ⟨n, hn⟩ := hi.1.1 2 (by simp [hk_tb])
  refine ⟨n, hn.2.2.2, hn, ?_⟩
  have := hi.2.1 1 3 0 hk_lp0
  rw [← this]
  exact hn.2.2.1
theorem q_crowd : hk_SI 22 147 [.int v, .int w] True := by
  rintro h ⟨s, lm, i0, i1, b, al, rfl, hc, hi⟩
  obtain ⟨aa, bb, r, hr⟩ := hi.2.2.1
  obtain ⟨a, ha, hs, h0⟩ := hk_shn hi
  refine c_crowd (d := 997) hs (fun hb => ⟨_, rfl, m_crowd (d := 997) h0 ha (fun _ => ⟨_, rfl, fun _ => rfl, hk_Inv_mk hc hi⟩) (fun j e hj hg => absurd hg (hb j e hj))⟩) (fun j ej hj hg => ⟨_, rfl, m_crowd (d := 997) (by rw [hk_u2o (by omega)]; exact h0) ha (fun hb => absurd hg (hb j ej hj)) (fun i ei hi2 _ => ?_)⟩)
  have e := hk_same ej ei (by omega) (by omega)
  subst e
  have hl : hk_LP 2 (i * 9 + 4) (20 + 10 * i + 4) := hk_lp16 (by omega) (by omega)
  refine ⟨_, rfl, fun _ => ?_, hk_Inv_mk hc (hk_IS_u hi hl (by simp [hk_tb]) ⟨_, _, _, hk_RI_u hr (by omega)⟩)⟩
  rw [hk_u2o (by omega)]
  exact hi.2.1 2 _ _ hl
theorem q_bias : hk_SI 61 175 [.int z, .int v] True := by
  rintro h ⟨s, lm, i0, i1, b, al, rfl, hc, hi⟩
  obtain ⟨aa, bb, r, hr⟩ := hi.2.2.1
  have hl2 : ∀ j, j < 4 → s 9 (j * 3 + 2) = s 41 (1410 + 3 * j + 2) := fun j hj => hi.2.1 8 _ _ (hk_lp10 (by omega) (by omega))
  refine c_bias (d := 997) hi.1.2.1 (fun hb => ⟨_, rfl, m_bias (d := 997) (fun _ => ⟨_, rfl, fun _ => rfl, hk_Inv_mk hc hi⟩) (fun j e hj hv _ => absurd hv (hb j e hj)) (fun j e hj hv _ => absurd hv (hb j e hj))⟩) (fun j ej hj hv q => ⟨_, rfl, m_bias (d := 997) (fun hb => absurd hv (hb j ej hj)) (fun _ _ _ _ _ => ⟨_, rfl, fun _ => rfl, hk_Inv_mk hc hi⟩) (fun i ei hi2 _ q2 => ?_)⟩) (fun j ej hj hv q => ⟨_, rfl, m_bias (d := 997) (fun hb => absurd hv (hb j ej hj)) (fun i ei hi2 _ q2 => ?_) (fun i ei hi2 _ q2 => ?_)⟩)
  · have e := hk_same ej ei (by omega) (by omega)
    subst e
    exact absurd ((hl2 i hi2).trans q2) q
  · have e := hk_same ej ei (by omega) (by omega)
    subst e
    rw [hk_u2o (by omega)] at q2
    exact absurd ((hl2 i hi2).symm.trans q) q2
  · have e := hk_same ej ei (by omega) (by omega)
    subst e
    have hl : hk_LP 8 (i * 3) (1410 + 3 * i) := hk_lp10 (by omega) (by omega)
    refine ⟨_, rfl, fun _ => ?_, hk_Inv_mk hc (hk_IS_u hi hl (by simp [hk_tb]) ⟨_, _, _, hk_RI_u hr (by omega)⟩)⟩
    rw [hk_u2o (by omega)]
    exact hi.2.1 8 _ _ hl
end HKE2
