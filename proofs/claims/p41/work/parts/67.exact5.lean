/-! ===== plate, ship agree; from, image ===== -/
section HKE6
variable {v w x y z : Int32}
theorem q_plate : hk_SI 13 138 [.int v, .int w, .int x, .int y, .int z] True := by
  rintro h ⟨s, lm, i0, i1, b, al, rfl, hc, hi⟩
  obtain ⟨aa, bb, r, hr⟩ := hi.2.2.1
  obtain ⟨a, ha, hs, h0⟩ := hk_shn hi
  obtain ⟨n, hn, hw, h1⟩ := hk_cn (t := 4) (Q := 1) hi (by simp [hk_tb]) hk_lp1
  have hn' : n ≤ 96 := hn
  have eb : bb = n := by
    have := hr.2.1.2.1
    rw [h1] at this
    exact ((nI_eq (by omega) (by have := hr.1.2.1; omega)).mp this).symm
  have ea : aa = a := by
    have := hr.2.1.1
    rw [h0] at this
    exact ((nI_eq (by omega) (by have := hr.1.1; omega)).mp this).symm
  subst eb ea
  refine c_plate (d := 997) hs hw (fun hb => ⟨_, rfl, m_plate (d := 997) h0 ha hn' h1 (fun _ => ⟨_, rfl, fun _ => rfl, hk_Inv_mk hc hi⟩) (fun j e hj hg _ => absurd hg (hb j e hj)) (fun j e hj hg _ => absurd hg (hb j e hj))⟩) (fun j ej hj hg hf => ⟨_, rfl, m_plate (d := 997) h0 ha hn' h1 (fun hb => absurd hg (hb j ej hj)) (fun _ _ _ _ _ => ⟨_, rfl, fun _ => rfl, hk_Inv_mk hc hi⟩) (fun _ _ _ _ hlt => absurd hlt (by omega))⟩) (fun j ej hj hg hlt s2 h2 => ?_)
  have e41 : ∀ q, s2 41 q = s 41 q := fun q => h2.1 41 q (by omega) (by omega)
  refine ⟨_, rfl, m_plate (d := 997) (by rw [e41]; exact h0) ha hn' (by rw [e41]; exact h1) (fun hb => absurd hg (hb j ej hj)) (fun _ _ _ _ hf => absurd hlt (by omega)) (fun i ei hi2 _ _ => ⟨_, rfl, fun _ => rfl, hk_Inv_mk hc ?_⟩)⟩
  obtain ⟨zz, hzz, ezz⟩ := hk_rng (n := 2) (by decide) hg.1.1 hg.1.2
  obtain ⟨xx, hxx, exx⟩ := hk_rg1 (m := 5000) (by decide) hg.2.1
  obtain ⟨yy, hyy, eyy⟩ := hk_rg1 (m := 1000) (by decide) hg.2.2.1
  have ge : ∀ q, q ≠ 1 → ¬ (80 + bb * 6 ≤ q ∧ q < 80 + bb * 6 + 6) → (hk_u2 (hk_u2 (hk_u2 (hk_u2 (hk_u2 (hk_u2 (hk_u2 s2 41 (80 + 6 * bb) v) 41 (80 + 6 * bb + 1) w) 41 (80 + 6 * bb + 2) x) 41 (80 + 6 * bb + 3) y) 41 (80 + 6 * bb + 4) z) 41 (80 + 6 * bb + 5) 0) 41 1 (nI (bb + 1))) 41 q = s 41 q := fun q q1 q2 => by
    rw [hk_u2o (by omega), hk_u2o (by omega), hk_u2o (by omega), hk_u2o (by omega), hk_u2o (by omega), hk_u2o (by omega), hk_u2o (by omega)]
    exact e41 q
  have gc : ∀ c, c < 6 → (hk_u2 (hk_u2 (hk_u2 (hk_u2 (hk_u2 (hk_u2 (hk_u2 s2 41 (80 + 6 * bb) v) 41 (80 + 6 * bb + 1) w) 41 (80 + 6 * bb + 2) x) 41 (80 + 6 * bb + 3) y) 41 (80 + 6 * bb + 4) z) 41 (80 + 6 * bb + 5) 0) 41 1 (nI (bb + 1))) 41 (80 + (bb * 6 + c)) = ([v, w, x, y, z] : List Int32).getD c 0 := fun c hc => by
    match c, hc with
    | 0, _ => rw [show 80 + (bb * 6 + 0) = 80 + 6 * bb by omega, hk_u2o (by omega), hk_u2o (by omega), hk_u2o (by omega), hk_u2o (by omega), hk_u2o (by omega), hk_u2o (by omega), hk_u2s]; rfl
    | 1, _ => rw [show 80 + (bb * 6 + 1) = 80 + 6 * bb + 1 by omega, hk_u2o (by omega), hk_u2o (by omega), hk_u2o (by omega), hk_u2o (by omega), hk_u2o (by omega), hk_u2s]; rfl
    | 2, _ => rw [show 80 + (bb * 6 + 2) = 80 + 6 * bb + 2 by omega, hk_u2o (by omega), hk_u2o (by omega), hk_u2o (by omega), hk_u2o (by omega), hk_u2s]; rfl
    | 3, _ => rw [show 80 + (bb * 6 + 3) = 80 + 6 * bb + 3 by omega, hk_u2o (by omega), hk_u2o (by omega), hk_u2o (by omega), hk_u2s]; rfl
    | 4, _ => rw [show 80 + (bb * 6 + 4) = 80 + 6 * bb + 4 by omega, hk_u2o (by omega), hk_u2o (by omega), hk_u2s]; rfl
    | 5, _ => rw [show 80 + (bb * 6 + 5) = 80 + 6 * bb + 5 by omega, hk_u2o (by omega), hk_u2s]; rfl
  have hlq : hk_LP (4 - 1) 3 1 := hk_lp1
  refine hk_IS_add (s := s) hi (by simp [hk_tb]) hlt hw hlq (fun i hi2 => ?_) h2 (fun p q hp => ?_) hk_u2s gc (fun q q1 q2 => ?_) ⟨aa, bb + 1, r, ?_⟩ (by omega)
  · have hi2 : i < 576 := hi2
    exact hk_lp17 hi2 rfl
  · rw [hk_u2o (by omega), hk_u2o (by omega), hk_u2o (by omega), hk_u2o (by omega), hk_u2o (by omega), hk_u2o (by omega), hk_u2o (by omega)]
  · rw [ge q q1 q2]
  · refine hk_RI_plate hr hlt (i := j) hj (z := zz) (by omega) ?_ ?_ hk_u2s ⟨xx, hxx, ?_⟩ ⟨yy, hyy, ?_⟩ (fun q q1 q2 => ge q q1 (by omega))
    · rw [hk_u2o (by omega), hk_u2o (by omega), hk_u2o (by omega), hk_u2o (by omega), hk_u2o (by omega), hk_u2o (by omega), hk_u2s]; exact ej
    · rw [hk_u2o (by omega), hk_u2o (by omega), hk_u2o (by omega), hk_u2o (by omega), hk_u2o (by omega), hk_u2s]; exact ezz
    · rw [hk_u2o (by omega), hk_u2o (by omega), hk_u2o (by omega), hk_u2o (by omega), hk_u2s]; exact exx
    · rw [hk_u2o (by omega), hk_u2o (by omega), hk_u2o (by omega), hk_u2s]; exact eyy
end HKE6
