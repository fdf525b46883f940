/-! ===== ship agrees ===== -/
section HKE7
variable {v w x z : Int32}
theorem q_ship : hk_SI 11 135 [.int v, .int z, .int w, .int x] True := by
  rintro h ⟨s, lm, i0, i1, b, al, rfl, hc, hi⟩
  obtain ⟨aa, bb, r, hr⟩ := hi.2.2.1
  obtain ⟨n, hn', hw, h0⟩ := hk_shn hi
  have ht : hk_tb 2 := by simp [hk_tb]
  have ea : aa = n := by
    have := hr.2.1.1
    rw [h0] at this
    exact ((nI_eq (by omega) (by have := hr.1.1; omega)).mp this).symm
  subst ea
  refine c_ship (d := 997) hw (fun hb => ⟨_, rfl, m_ship (d := 997) hn' h0 (fun _ => ⟨_, rfl, fun _ => rfl, hk_Inv_mk hc hi⟩) (fun hg => absurd hg hb) (fun hg => absurd hg hb)⟩) (fun hg hf => ⟨_, rfl, m_ship (d := 997) hn' h0 (fun hb => absurd hg hb) (fun _ _ => ⟨_, rfl, fun _ => rfl, hk_Inv_mk hc hi⟩) (fun _ hlt => absurd hlt (by omega))⟩) (fun hg hlt s2 h2 => ?_)
  have e41 : ∀ q, hk_u2 s2 3 (aa * 9 + 8) (-1) 41 q = s 41 q := fun q => by rw [hk_u2o (by omega)]; exact h2.1 41 q (by omega) (by omega)
  refine ⟨_, rfl, m_ship (d := 997) hn' (by rw [e41]; exact h0) (fun hb => absurd hg hb) (fun _ hf => absurd hlt (by omega)) (fun _ _ => ⟨_, rfl, fun _ => rfl, hk_Inv_mk hc ?_⟩)⟩
  obtain ⟨g1, g2, g3, g4, g5⟩ := hi
  generalize hS : (hk_u2 (hk_u2 (hk_u2 (hk_u2 (hk_u2 (hk_u2 (hk_u2 (hk_u2 (hk_u2 (hk_u2 (hk_u2 s2 3 (aa * 9 + 8) (-1)) 41 (20 + 10 * aa) v) 41 (20 + 10 * aa + 1) z) 41 (20 + 10 * aa + 2) w) 41 (20 + 10 * aa + 3) x) 41 (20 + 10 * aa + 4) 0) 41 (20 + 10 * aa + 5) 0) 41 (20 + 10 * aa + 6) 0) 41 (20 + 10 * aa + 7) 0) 41 (20 + 10 * aa + 8) (-1)) 41 0 (nI (aa + 1))) = s3
  have o3 : ∀ p q, p ≠ 41 → s3 p q = hk_u2 s2 3 (aa * 9 + 8) (-1) p q := fun p q hp => by
    rw [← hS, hk_u2o (by omega), hk_u2o (by omega), hk_u2o (by omega), hk_u2o (by omega), hk_u2o (by omega), hk_u2o (by omega), hk_u2o (by omega), hk_u2o (by omega), hk_u2o (by omega), hk_u2o (by omega)]
  have gQ : s3 41 0 = nI (aa + 1) := by rw [← hS, hk_u2s]
  have ge : ∀ q, q ≠ 0 → ¬ (20 + 10 * aa ≤ q ∧ q < 29 + 10 * aa) → s3 41 q = s 41 q := fun q q1 q2 => by
    rw [← hS, hk_u2o (by omega), hk_u2o (by omega), hk_u2o (by omega), hk_u2o (by omega), hk_u2o (by omega), hk_u2o (by omega), hk_u2o (by omega), hk_u2o (by omega), hk_u2o (by omega), hk_u2o (by omega)]
    exact e41 q
  have g0x : s3 41 (20 + 10 * aa) = v := by rw [← hS, hk_u2o (by omega), hk_u2o (by omega), hk_u2o (by omega), hk_u2o (by omega), hk_u2o (by omega), hk_u2o (by omega), hk_u2o (by omega), hk_u2o (by omega), hk_u2o (by omega), hk_u2s]
  have g1x : s3 41 (20 + 10 * aa + 1) = z := by rw [← hS, hk_u2o (by omega), hk_u2o (by omega), hk_u2o (by omega), hk_u2o (by omega), hk_u2o (by omega), hk_u2o (by omega), hk_u2o (by omega), hk_u2o (by omega), hk_u2s]
  have g2x : s3 41 (20 + 10 * aa + 2) = w := by rw [← hS, hk_u2o (by omega), hk_u2o (by omega), hk_u2o (by omega), hk_u2o (by omega), hk_u2o (by omega), hk_u2o (by omega), hk_u2o (by omega), hk_u2s]
  have g3x : s3 41 (20 + 10 * aa + 3) = x := by rw [← hS, hk_u2o (by omega), hk_u2o (by omega), hk_u2o (by omega), hk_u2o (by omega), hk_u2o (by omega), hk_u2o (by omega), hk_u2s]
  have g4x : s3 41 (20 + 10 * aa + 4) = 0 := by rw [← hS, hk_u2o (by omega), hk_u2o (by omega), hk_u2o (by omega), hk_u2o (by omega), hk_u2o (by omega), hk_u2s]
  have g5x : s3 41 (20 + 10 * aa + 5) = 0 := by rw [← hS, hk_u2o (by omega), hk_u2o (by omega), hk_u2o (by omega), hk_u2o (by omega), hk_u2s]
  have g6x : s3 41 (20 + 10 * aa + 6) = 0 := by rw [← hS, hk_u2o (by omega), hk_u2o (by omega), hk_u2o (by omega), hk_u2s]
  have g7x : s3 41 (20 + 10 * aa + 7) = 0 := by rw [← hS, hk_u2o (by omega), hk_u2o (by omega), hk_u2s]
  have g8x : s3 41 (20 + 10 * aa + 8) = (-1) := by rw [← hS, hk_u2o (by omega), hk_u2s]
  have e : ∀ p q, 51 ≤ p ∧ p < 95 ∨ p = 43 ∨ p = 44 → s3 p q = s p q := fun p q hp => by
    rw [o3 _ _ (by omega), hk_u2o (by omega)]
    exact h2.1 p q (by omega) (by omega)
  have fr : ∀ t2 q, hk_tb t2 → ¬ (t2 = 2 ∧ q = 3) → s3 t2 q = s t2 q := fun t2 q ht2 hne => by
    have := hk_tb35 ht2
    rw [o3 _ _ (by omega), hk_u2o (by omega)]
    exact h2.1 _ _ (by omega) hne
  have s23 : s3 2 3 = nI (aa + 1) := by
    rw [o3 _ _ (by omega), hk_u2o (by omega)]
    exact h2.2.1
  have tws : ∀ t2 n2, hk_tb t2 → t2 ≠ 2 → hk_tw s t2 n2 → hk_tw s3 t2 n2 := fun t2 n2 ht2 hne ⟨b1, b2, b3, b4⟩ => ⟨by rw [fr _ _ ht2 (by omega)]; exact b1, by rw [fr _ _ ht2 (by omega)]; exact b2, by rw [fr _ _ ht2 (by omega)]; exact b3, b4⟩
  refine ⟨⟨fun t2 ht2 => ?_, tws 8 4 (by simp [hk_tb]) (by omega) g1.2.1, tws 10 4 (by simp [hk_tb]) (by omega) g1.2.2⟩, fun a i q hl => ?_, ⟨aa + 1, bb, r, ?_⟩, hk_Img_fr g4 (by omega) e, hk_Img_fr g5 (by omega) e⟩
  · by_cases et : t2 = 2
    · subst et
      exact ⟨aa + 1, by rw [fr _ _ ht2 (by omega)]; exact hw.1, by rw [fr _ _ ht2 (by omega)]; exact hw.2.1, s23, hlt⟩
    · exact (g1.1 t2 ht2).elim fun n2 hn2 => ⟨n2, tws t2 n2 ht2 et hn2⟩
  · have hb := hk_LP_b hl
    by_cases c1 : q = 0
    · obtain ⟨ea2, ei2⟩ := (hk_LP_inj hl hk_lp0).mpr c1
      subst ea2 ei2 c1
      rw [gQ]
      exact s23
    · by_cases c2 : a = 2
      · obtain ⟨w2, c, hw2, hc2, ei, eq⟩ := (hk_LP_a hl).2.2.2.2.2.1 c2
        have hrel := g2 a i q hl
        subst c2
        rw [o3 _ _ (by omega)]
        by_cases cw : w2 = aa
        · subst cw
          rw [ei, eq]
          match c, hc2 with
          | 0, _ => rw [hk_u2o (by omega)]; exact (h2.2.2 0 (by decide)).trans g0x.symm
          | 1, _ => rw [hk_u2o (by omega)]; exact (h2.2.2 1 (by decide)).trans g1x.symm
          | 2, _ => rw [hk_u2o (by omega)]; exact (h2.2.2 2 (by decide)).trans g2x.symm
          | 3, _ => rw [hk_u2o (by omega)]; exact (h2.2.2 3 (by decide)).trans g3x.symm
          | 4, _ => rw [hk_u2o (by omega)]; exact (h2.2.2 4 (by decide)).trans g4x.symm
          | 5, _ => rw [hk_u2o (by omega)]; exact (h2.2.2 5 (by decide)).trans g5x.symm
          | 6, _ => rw [hk_u2o (by omega)]; exact (h2.2.2 6 (by decide)).trans g6x.symm
          | 7, _ => rw [hk_u2o (by omega)]; exact (h2.2.2 7 (by decide)).trans g7x.symm
          | 8, _ => rw [hk_u2s]; exact g8x.symm
        · rw [ge q c1 (by omega), hk_u2o (by omega), ← hrel]
          refine h2.1 _ _ (fun cc => ?_) (by omega)
          have hh : hk_co 2 = 9 := rfl
          rw [hh] at cc
          omega
      · have hnq : ¬ (20 + 10 * aa ≤ q ∧ q < 29 + 10 * aa) := fun cc => by
          have hm := hl
          unfold hk_LP at hm
          rcases hm with m | m | m | m | m | m | m | m | m | m | m | m | m | m | m | m | m | m <;> omega
        rw [o3 _ _ (by omega), hk_u2o (by omega), ge q c1 hnq]
        rw [h2.1 _ _ (by omega) (fun c => c1 ((hk_LP_inj hl hk_lp0).mp ⟨by have := c.1; omega, c.2⟩))]
        exact g2 a i q hl
  · obtain ⟨vv, hvv, evv⟩ := hk_rng (n := 1000) (by decide) (v := v) (fun q => hg.1.1 (Int32.lt_trans q (by decide))) hg.1.2
    have hv1 : 1 ≤ vv := by
      have q := hg.1.1
      rw [evv] at q
      have q : ¬ nI vv < nI 10 := q
      rw [nI_ltI (by omega) (by omega)] at q
      omega
    refine hk_RI_ship hr hlt ?_ g8x gQ ⟨vv, hv1, hvv, g0x.trans evv⟩ g6x g7x (fun q q1 q2 => ?_)
    · rw [g0x]
      intro e0
      have := hg.1.1
      rw [e0] at this
      exact this (by decide)
    · exact ge q q1 (by omega)
end HKE7
