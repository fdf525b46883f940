/-! ===== plate, ship agree; from, image ===== -/
section HKE6
variable {v w x y z : Int32}
theorem q_plate : hk_SI 13 138 [.int v, .int w, .int x, .int y, .int z] True := by
  rintro h ⟨s, lm, i0, i1, b, al, rfl, hc, hi⟩
  obtain ⟨aa, bb, r, hr⟩ := hi.2.2.1
  obtain ⟨a, ha, hs, h0⟩ := hk_shn hi
  obtain ⟨n, hn, hw, h1⟩ := hk_cn (t := 4) (Q := 1) hi (by simp [hk_tb]) hk_lp1
  have hn' : n ≤ 96 := hn
  have eb : bb = n := by
    have := hr.2.1.2.1
    rw [h1] at this
    exact ((nI_eq (by omega) (by have := hr.1.2.1; omega)).mp this).symm
  have ea : aa = a := by
    have := hr.2.1.1
    rw [h0] at this
    exact ((nI_eq (by omega) (by have := hr.1.1; omega)).mp this).symm
  subst eb ea
  refine c_plate (d := 997) hs hw (fun hb => ⟨_, rfl, m_plate (d := 997) h0 ha hn' h1 (fun _ => ⟨_, rfl, fun _ => rfl, hk_Inv_mk hc hi⟩) (fun j e hj hg _ => absurd hg (hb j e hj)) (fun j e hj hg _ => absurd hg (hb j e hj))⟩) (fun j ej hj hg hf => ⟨_, rfl, m_plate (d := 997) h0 ha hn' h1 (fun hb => absurd hg (hb j ej hj)) (fun _ _ _ _ _ => ⟨_, rfl, fun _ => rfl, hk_Inv_mk hc hi⟩) (fun _ _ _ _ hlt => absurd hlt (by omega))⟩) (fun j ej hj hg hlt s2 h2 => ?_)
  have e41 : ∀ q, s2 41 q = s 41 q := fun q => h2.1 41 q (by omega) (by omega)
  refine ⟨_, rfl, m_plate (d := 997) (by rw [e41]; exact h0) ha hn' (by rw [e41]; exact h1) (fun hb => absurd hg (hb j ej hj)) (fun _ _ _ _ hf => absurd hlt (by omega)) (fun i ei hi2 _ _ => ⟨_, rfl, fun _ => rfl, hk_Inv_mk hc ?_⟩)⟩
  obtain ⟨g1, g2, g3, g4, g5⟩ := hi
  obtain ⟨zz, hzz, ezz⟩ := hk_rng (n := 2) (by decide) hg.1.1 hg.1.2
  have e : ∀ p q, 51 ≤ p ∧ p < 95 ∨ p = 43 ∨ p = 44 → s2 p q = s p q := fun p q hp => h2.1 p q (by omega) (by omega)
  have fr : ∀ t2 q, hk_tb t2 → ¬ (t2 = 4 ∧ q = 3) → s2 t2 q = s t2 q := fun t2 q ht2 hne => by
    have := hk_tb35 ht2
    exact h2.1 _ _ (by omega) hne
  have tws : ∀ t2 n2, hk_tb t2 → t2 ≠ 4 → hk_tw s t2 n2 → hk_tw s2 t2 n2 := fun t2 n2 ht2 hne ⟨b1, b2, b3, b4⟩ => ⟨by rw [fr _ _ ht2 (by omega)]; exact b1, by rw [fr _ _ ht2 (by omega)]; exact b2, by rw [fr _ _ ht2 (by omega)]; exact b3, b4⟩
  have tw2 : hk_TW s2 := ⟨fun t2 ht2 => by
    by_cases et : t2 = 4
    · subst et
      exact ⟨bb + 1, by rw [fr _ _ ht2 (by omega)]; exact hw.1, by rw [fr _ _ ht2 (by omega)]; exact hw.2.1, h2.2.1, hlt⟩
    · exact (g1.1 t2 ht2).elim fun n2 hn2 => ⟨n2, tws t2 n2 ht2 et hn2⟩, tws 8 4 (by simp [hk_tb]) (by omega) g1.2.1, tws 10 4 (by simp [hk_tb]) (by omega) g1.2.2⟩
  refine ⟨hk_TW_fr tw2 (fun t q ht => ?_), fun a i q hl => ?_, ⟨aa, bb + 1, r, ?_⟩, hk_Img_fr g4 (by omega) (fun p q hp => ?_), hk_Img_fr g5 (by omega) (fun p q hp => ?_)⟩
  · have := hk_tb35 ht
    rw [hk_u2o (by omega), hk_u2o (by omega), hk_u2o (by omega), hk_u2o (by omega), hk_u2o (by omega), hk_u2o (by omega), hk_u2o (by omega)]
  · have hb := hk_LP_b hl
    have hez := (hk_LP_a hl).2.2.2.2.2.2.2.1
    have hnot : ¬ (80 ≤ q ∧ q < 1410) := hez.2.1
    rw [hk_u2o (by omega), hk_u2o (by omega), hk_u2o (by omega), hk_u2o (by omega), hk_u2o (by omega), hk_u2o (by omega), hk_u2o (by omega)]
    by_cases c1 : q = 1
    · obtain ⟨ea2, ei2⟩ := (hk_LP_inj hl hk_lp1).mpr c1
      subst ea2 ei2 c1
      rw [hk_u2s]
      exact h2.2.1
    · rw [hk_u2o (by omega), hk_u2o (by omega), hk_u2o (by omega), hk_u2o (by omega), hk_u2o (by omega), hk_u2o (by omega), hk_u2o (by omega), e41]
      rw [h2.1 _ _ (by omega) (fun c => c1 ((hk_LP_inj hl hk_lp1).mp ⟨by have := c.1; omega, c.2⟩))]
      exact g2 a i q hl
  · refine hk_RI_plate hr hlt (i := j) hj (z := zz) (by omega) ?_ ?_ hk_u2s (fun q q1 q2 => ?_)
    · rw [hk_u2o (by omega), hk_u2o (by omega), hk_u2o (by omega), hk_u2o (by omega), hk_u2o (by omega), hk_u2o (by omega), hk_u2s]; exact ej
    · rw [hk_u2o (by omega), hk_u2o (by omega), hk_u2o (by omega), hk_u2o (by omega), hk_u2o (by omega), hk_u2s]; exact ezz
    · rw [hk_u2o (by omega), hk_u2o (by omega), hk_u2o (by omega), hk_u2o (by omega), hk_u2o (by omega), hk_u2o (by omega), hk_u2o (by omega)]; exact e41 q
  · rw [hk_u2o (by omega), hk_u2o (by omega), hk_u2o (by omega), hk_u2o (by omega), hk_u2o (by omega), hk_u2o (by omega), hk_u2o (by omega)]; exact e p q hp
  · rw [hk_u2o (by omega), hk_u2o (by omega), hk_u2o (by omega), hk_u2o (by omega), hk_u2o (by omega), hk_u2o (by omega), hk_u2o (by omega)]; exact e p q hp
end HKE6
