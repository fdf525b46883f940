/-! ===== calls whose answers agree: texts, gauges, docks ===== -/
theorem hk_IS_2 {s s3 : Nat → Nat → Int32} {i0 i1 a1 x1 q1 a2 x2 q2 : Nat} {v1 v2 : Int32} (h : hk_IS s i0 i1) (hl1 : hk_LP a1 x1 q1) (hl2 : hk_LP a2 x2 q2) (ht1 : ¬ hk_tb (1 + a1)) (ht2 : ¬ hk_tb (1 + a2)) (ho : ∀ p q, p ≠ 41 → s3 p q = hk_u2 (hk_u2 s (1 + a1) x1 v1) (1 + a2) x2 v2 p q) (g : ∀ q, s3 41 q = if q = q2 then v2 else if q = q1 then v1 else s 41 q) (r : ∃ a b r, hk_RI (s3 41) a b r) : hk_IS s3 i0 i1 := by
  obtain ⟨h1, h2, h3, h4, h5⟩ := h
  have b1 := hk_LP_b hl1
  have b2 := hk_LP_b hl2
  have e : ∀ p q2, 51 ≤ p ∧ p < 95 ∨ p = 43 ∨ p = 44 → s3 p q2 = s p q2 := fun p q2 hp => by
    rw [ho _ _ (by omega), hk_u2o (by omega), hk_u2o (by omega)]
  refine ⟨hk_TW_fr (hk_TW_u (hk_TW_u h1 ht1) ht2) (fun t q ht => ho t q (by have := hk_tb35 ht; omega)), fun a i q hl => ?_, r, hk_Img_fr h4 (by omega) e, hk_Img_fr h5 (by omega) e⟩
  have hb := hk_LP_b hl
  rw [ho _ _ (by omega), g]
  exact hk_Rel_u (hk_Rel_u h2 hl1) hl2 a i q hl
theorem hk_tx0 {f : Nat → Int32} {q0 : Nat} (h : ∀ q, 1422 ≤ q → q < 1666 → ¬ f q = -1) : ∀ q, 1422 ≤ q → q < 1666 → ¬ (fun j => if j = q0 then 0 else f j) q = -1 := fun q q1 q2 => by
  dsimp only
  by_cases e : q = q0
  · rw [if_pos e]; decide
  · rw [if_neg e]; exact h q q1 q2
section HKE4
variable {v w x y z : Int32}
theorem q_erase : hk_SI 72 188 [.int z] True := by
  rintro h ⟨s, lm, i0, i1, b, al, rfl, hc, hi⟩
  obtain ⟨aa, bb, r, hr⟩ := hi.2.2.1
  refine c_erase (d := 997) hi.1.2.2 (fun hb => ⟨_, rfl, m_erase (d := 997) (fun _ => ⟨_, rfl, fun _ => rfl, hk_Inv_mk hc hi⟩) (fun j e hj => absurd hj (hb j e))⟩) (fun j ej hj => ⟨_, rfl, m_erase (d := 997) (fun hb => absurd hj (hb j ej)) (fun i ei hi2 => ?_)⟩)
  have e := hk_same ej ei (by omega) (by omega)
  subst e
  have hl : hk_LP 10 (i * 61) (1422 + 61 * i) := hk_lp11 (by omega) (by omega)
  refine ⟨_, rfl, fun _ => ?_, hk_Inv_mk hc (hk_IS_u hi hl (by simp [hk_tb]) ⟨_, _, _, hk_RI_tx hr hi2 (m := 0) (by omega) (if_pos rfl) (hk_tx0 (hr.2.2.2.2.2.2.2.2.2.2.2.1.elim (fun _ q => q.2.2.2.2))) (fun q hq => if_neg (by omega))⟩)⟩
  rw [hk_u2o (by omega)]
  exact hi.2.1 10 _ _ hl
theorem q_charter : hk_SI 76 191 [.int v, .int w] True := by
  rintro h ⟨s, lm, i0, i1, b, al, rfl, hc, hi⟩
  obtain ⟨aa, bb, r, hr⟩ := hi.2.2.1
  obtain ⟨a, ha, hs, h0⟩ := hk_shn hi
  refine c_charter (d := 997) hs hi.1.2.2 (fun hb => ⟨_, rfl, m_charter (d := 997) h0 ha (fun _ => ⟨_, rfl, fun _ => rfl, hk_Inv_mk hc hi⟩) (fun j e hj hg => absurd hg (hb j e hj))⟩) (fun j ej hj hg => ⟨_, rfl, m_charter (d := 997) (by rw [hk_u2o (by omega)]; exact h0) ha (fun hb => absurd hg (hb j ej hj)) (fun i ei hi2 hg2 => ?_)⟩)
  have e := hk_same ej ei (by omega) (by omega)
  subst e
  have hl : hk_LP 2 (i * 9 + 8) (20 + 10 * i + 8) := hk_lp16 (by omega) (by omega)
  have e8 : (if 20 + 10 * i + 8 = 20 + 10 * i + 8 then w else s 41 (20 + 10 * i + 8)) = w := if_pos rfl
  refine ⟨_, rfl, fun _ => ?_, hk_Inv_mk hc (hk_IS_u hi hl (by simp [hk_tb]) ⟨_, _, _, hk_RI_ch hr (w := i) (by omega) (hg2.elim (fun q => Or.inl (e8.trans q)) (fun ⟨j, hj, q⟩ => Or.inr ⟨j, hj, e8.trans q⟩)) (fun q hq => if_neg hq)⟩)⟩
  rw [hk_u2o (by omega)]
  exact hi.2.1 2 _ _ hl
theorem q_right : hk_SI 62 177 [.int z, .int v, .int w] True := by
  rintro h ⟨s, lm, i0, i1, b, al, rfl, hc, hi⟩
  obtain ⟨aa, bb, r, hr⟩ := hi.2.2.1
  have hl2 : ∀ j, j < 4 → s 9 (j * 3 + 2) = s 41 (1410 + 3 * j + 2) := fun j hj => hi.2.1 8 _ _ (hk_lp10 (by omega) (by omega))
  refine c_right (d := 997) hi.1.2.1 (fun hb => ⟨_, rfl, m_right (d := 997) (fun _ => ⟨_, rfl, fun _ => rfl, hk_Inv_mk hc hi⟩) (fun j e hj hv _ => absurd hv (hb j e hj)) (fun j e hj hv _ => absurd hv (hb j e hj))⟩) (fun j ej hj hv q => ⟨_, rfl, m_right (d := 997) (fun hb => absurd hv (hb j ej hj)) (fun _ _ _ _ _ => ⟨_, rfl, fun _ => rfl, hk_Inv_mk hc hi⟩) (fun i ei hi2 _ q2 => ?_)⟩) (fun j ej hj hv q => ⟨_, rfl, m_right (d := 997) (fun hb => absurd hv (hb j ej hj)) (fun i ei hi2 _ q2 => ?_) (fun i ei hi2 _ q2 => ?_)⟩)
  · have e := hk_same ej ei (by omega) (by omega)
    subst e
    exact absurd ((hl2 i hi2).trans q2) q
  · have e := hk_same ej ei (by omega) (by omega)
    subst e
    rw [hk_u2o (by omega), hk_u2o (by omega)] at q2
    exact absurd ((hl2 i hi2).symm.trans q) q2
  · have e := hk_same ej ei (by omega) (by omega)
    subst e
    refine ⟨_, rfl, fun _ => rfl, hk_Inv_mk hc (hk_IS_2 hi (a1 := 8) (x1 := i * 3 + 1) (q1 := 1410 + 3 * i + 1) (v1 := v) (a2 := 8) (x2 := i * 3 + 2) (q2 := 1410 + 3 * i + 2) (v2 := w) (hk_lp10 (by omega) (by omega)) (hk_lp10 (by omega) (by omega)) (by simp [hk_tb]) (by simp [hk_tb]) (fun p q hp => ?_) (fun q => ?_) ⟨aa, bb, r, ?_⟩)⟩
    · rw [hk_u2o (by omega), hk_u2o (by omega)]
    · rw [hk_u2f, hk_u2f]
      dsimp only
      rw [hk_u2o (by omega), hk_u2o (by omega)]
    · refine hk_RI_41 (hk_RI_41 ?_ (by omega)) (by omega)
      exact hk_RI_o (hk_RI_o hr (by omega)) (by omega)
theorem q_docks : hk_SI 80 194 [.int v, .int w] True := by
  rintro h ⟨s, lm, i0, i1, b, al, rfl, hc, hi⟩
  obtain ⟨aa, bb, r, hr⟩ := hi.2.2.1
  refine c_docks (d := 998) (fun hb => ⟨_, rfl, m_docks (d := 998) (fun _ => ⟨_, rfl, fun _ => rfl, hk_Inv_mk hc hi⟩) (fun hg => absurd hg hb)⟩) (fun hg => ⟨_, rfl, m_docks (d := 998) (fun hb => absurd hg hb) (fun _ => ⟨_, rfl, fun _ => rfl, hk_Inv_mk hc (hk_IS_2 (s := hk_u2 s 29 11 0) (hk_IS_c hi (by omega)) (a1 := 0) (x1 := 15) (q1 := 10) (v1 := v) (a2 := 0) (x2 := 16) (q2 := 11) (v2 := w) (hk_lp6 (by omega) (by omega) (by omega)) (hk_lp6 (by omega) (by omega) (by omega)) (by simp [hk_tb]) (by simp [hk_tb]) (fun p q hp => ?_) (fun q => ?_) ⟨aa, bb, r, ?_⟩)⟩)⟩)
  · rw [hk_u2o (by omega), hk_u2o (by omega)]
  · rw [hk_u2f, hk_u2f]
    dsimp only
    rw [hk_u2o (by omega), hk_u2o (by omega)]
  · obtain ⟨x1, hx1, ex1⟩ := hk_rng (n := 3) (by decide) hg.1.1 hg.1.2
    obtain ⟨y1, hy1, ey1⟩ := hk_rng (n := 1000) (by decide) hg.2.1 hg.2.2
    refine hk_RI_dock hr hx1 hy1 ?_ ?_ (fun q h1 h2 => ?_)
    · rw [hk_u2o (by omega), hk_u2s]; exact ex1
    · rw [hk_u2s]; exact ey1
    · rw [hk_u2o (by omega), hk_u2o (by omega), hk_u2o (by omega), hk_u2o (by omega), hk_u2o (by omega)]
theorem q_write : hk_SI 71 186 [.int z, .int v] True := by
  rintro h ⟨s, lm, i0, i1, b, al, rfl, hc, hi⟩
  obtain ⟨aa, bb, r, hr⟩ := hi.2.2.1
  have hll : ∀ j, j < 4 → s 11 (j * 61) = s 41 (1422 + 61 * j) := fun j hj => hi.2.1 10 _ _ (hk_lp11 (by omega) (by omega))
  have hs := hk_IS_TL hi
  have hs2 : ∀ j, j < 4 → ∃ m, m ≤ 60 ∧ s 41 (1422 + 61 * j) = nI m := fun j hj => (hs j hj).elim fun m e => ⟨m, e.1, by rw [← hll j hj]; exact e.2⟩
  refine c_write (d := 997) hi.1.2.2 (fun hb => ⟨_, rfl, m_write (d := 997) (fun _ => ⟨_, rfl, fun _ => rfl, hk_Inv_mk hc hi⟩) hs2 (fun j e hj hv _ => absurd hv (hb j e hj)) (fun j _ e hj hv _ _ => absurd hv (hb j e hj))⟩) (fun j ej hj hv q => ⟨_, rfl, m_write (d := 997) (fun hb => absurd hv (hb j ej hj)) hs2 (fun _ _ _ _ _ => ⟨_, rfl, fun _ => rfl, hk_Inv_mk hc hi⟩) (fun i m ei hi2 _ hm q2 => ?_)⟩) hs (fun j m ej hj hv hm q => ⟨_, rfl, m_write (d := 997) (fun hb => absurd hv (hb j ej hj)) (fun i hi2 => ?_) (fun i ei hi2 _ q2 => ?_) (fun i m2 ei hi2 _ hm2 q2 => ?_)⟩)
  · have e := hk_same ej ei (by omega) (by omega)
    subst e
    rw [hll i hi2, q2] at q
    exact absurd (nI_lt (b := 60) hm (by omega)) q
  · obtain ⟨m2, h1, h2⟩ := hs2 i hi2
    exact ⟨m2, h1, by rw [hk_u2o (by omega), hk_u2o (by omega)]; exact h2⟩
  · have e := hk_same ej ei (by omega) (by omega)
    subst e
    rw [hk_u2o (by omega), hk_u2o (by omega), ← hll i hi2, q] at q2
    have := (nI_eq (by omega) (by omega)).mp q2
    omega
  · have e := hk_same ej ei (by omega) (by omega)
    subst e
    rw [hk_u2o (by omega), hk_u2o (by omega), ← hll i hi2, q] at q2
    have em := (nI_eq (by omega) (by omega)).mp q2
    subst em
    refine ⟨_, rfl, fun _ => rfl, hk_Inv_mk hc (hk_IS_2 hi (a1 := 10) (x1 := i * 61 + (1 + m)) (q1 := 1422 + 61 * i + (m + 1)) (v1 := v) (a2 := 10) (x2 := i * 61) (q2 := 1422 + 61 * i) (v2 := nI (m + 1)) (hk_lp11 (by omega) (by omega)) (hk_lp11 (by omega) (by omega)) (by simp [hk_tb]) (by simp [hk_tb]) (fun p q hp => ?_) (fun q => ?_) ⟨aa, bb, r, ?_⟩)⟩
    · rw [hk_u2o (by omega), hk_u2o (by omega)]
    · by_cases c1 : q = 1422 + 61 * i
      · subst c1
        rw [hk_u2o (by omega), hk_u2s, if_pos rfl]
      · rw [if_neg c1]
        by_cases c2 : q = 1422 + 61 * i + (m + 1)
        · subst c2
          rw [hk_u2s, if_pos rfl]
        · rw [if_neg c2, hk_u2o (by omega), hk_u2o (by omega), hk_u2o (by omega), hk_u2o (by omega)]
    · have hx : ∀ q, 1422 ≤ q → q < 1666 → ¬ s 41 q = -1 := hr.2.2.2.2.2.2.2.2.2.2.2.1.elim (fun _ q => q.2.2.2.2)
      refine hk_RI_tx hr hi2 (m := m + 1) (by omega) ?_ (fun q q1 q2 => ?_) (fun q hq => ?_)
      · rw [hk_u2o (by omega), hk_u2s]
      · by_cases c1 : q = 1422 + 61 * i
        · subst c1
          rw [hk_u2o (by omega), hk_u2s]
          exact hk_nm1 (by omega)
        · by_cases c2 : q = 1422 + 61 * i + (m + 1)
          · subst c2
            rw [hk_u2s]
            intro e
            have h0 := hv.1
            rw [e] at h0
            exact h0 (by decide)
          · rw [hk_u2o (by omega), hk_u2o (by omega), hk_u2o (by omega), hk_u2o (by omega)]
            exact hx q q1 q2
      · rw [hk_u2o (by omega), hk_u2o (by omega), hk_u2o (by omega), hk_u2o (by omega)]
end HKE4
