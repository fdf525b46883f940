/-! ===== calls whose answers agree: new rows ===== -/
theorem hk_cn {s : Nat → Nat → Int32} {i0 i1 t Q : Nat} (hi : hk_IS s i0 i1) (ht : hk_tb t) (hl : hk_LP (t - 1) 3 Q) : ∃ n, n ≤ hk_mo t ∧ hk_tw s t n ∧ s 41 Q = nI n := by
  obtain ⟨n, hn⟩ := hi.1.1 t ht
  refine ⟨n, hn.2.2.2, hn, ?_⟩
  have := hi.2.1 (t - 1) 3 Q hl
  have h1 : 1 ≤ t := by unfold hk_tb at ht; omega
  rw [show 1 + (t - 1) = t by omega] at this
  rw [← this]
  exact hn.2.2.1
section HKE3
variable {v w x y z : Int32}
theorem q_hull : hk_SI 78 193 [.int v, .int z, .int w] True := by
  rintro h ⟨s, lm, i0, i1, b, al, rfl, hc, hi⟩
  obtain ⟨aa, bb, r, hr⟩ := hi.2.2.1
  have ht : hk_tb 12 := by simp [hk_tb]
  have hlq : hk_LP (12 - 1) 3 3 := hk_lp2
  obtain ⟨n, hn, hw, h0⟩ := hk_cn hi ht hlq
  have hn' : n ≤ 4 := hn
  refine c_hull (d := 997) hw (fun hb => ⟨_, rfl, m_hull (d := 997) hn' h0 (fun _ => ⟨_, rfl, fun _ => rfl, hk_Inv_mk hc hi⟩) (fun hg => absurd hg hb) (fun hg => absurd hg hb)⟩) (fun hg hf => ⟨_, rfl, m_hull (d := 997) hn' h0 (fun hb => absurd hg hb) (fun _ _ => ⟨_, rfl, fun _ => rfl, hk_Inv_mk hc hi⟩) (fun _ hlt => absurd hlt (by omega))⟩) (fun hg hlt s2 h2 => ?_)
  have e41 : ∀ q, s2 41 q = s 41 q := fun q => by rw [h2.1 41 q (by omega) (by omega)]; exact hk_u2o (by omega)
  have hw0 : hk_tw (hk_u2 s 29 11 0) 12 n := ⟨by rw [hk_u2o (by omega)]; exact hw.1, by rw [hk_u2o (by omega)]; exact hw.2.1, by rw [hk_u2o (by omega)]; exact hw.2.2.1, hw.2.2.2⟩
  refine ⟨_, rfl, m_hull (d := 997) hn' (by rw [e41]; exact h0) (fun hb => absurd hg hb) (fun _ h4 => absurd hlt (by omega)) (fun _ _ => ⟨_, rfl, fun _ => rfl, hk_Inv_mk hc ?_⟩)⟩
  have ge : ∀ q, q ≠ 3 → ¬ (1666 + n * 3 ≤ q ∧ q < 1666 + n * 3 + 3) → (hk_u2 (hk_u2 (hk_u2 (hk_u2 s2 41 (1666 + 3 * n) v) 41 (1666 + 3 * n + 1) z) 41 (1666 + 3 * n + 2) w) 41 3 (nI (n + 1))) 41 q = s 41 q := fun q q1 q2 => by
    rw [hk_u2o (by omega), hk_u2o (by omega), hk_u2o (by omega), hk_u2o (by omega)]
    exact e41 q
  have gc : ∀ c, c < 3 → (hk_u2 (hk_u2 (hk_u2 (hk_u2 s2 41 (1666 + 3 * n) v) 41 (1666 + 3 * n + 1) z) 41 (1666 + 3 * n + 2) w) 41 3 (nI (n + 1))) 41 (1666 + (n * 3 + c)) = ([v, z, w, 0, 0] : List Int32).getD c 0 := fun c hc => by
    match c, hc with
    | 0, _ => rw [show 1666 + (n * 3 + 0) = 1666 + 3 * n by omega, hk_u2o (by omega), hk_u2o (by omega), hk_u2o (by omega), hk_u2s]; rfl
    | 1, _ => rw [show 1666 + (n * 3 + 1) = 1666 + 3 * n + 1 by omega, hk_u2o (by omega), hk_u2o (by omega), hk_u2s]; rfl
    | 2, _ => rw [show 1666 + (n * 3 + 2) = 1666 + 3 * n + 2 by omega, hk_u2o (by omega), hk_u2s]; rfl
  refine hk_IS_add (s := (hk_u2 s 29 11 0)) (hk_IS_c hi (by omega)) ht hlt hw0 hlq (fun i hi2 => ?_) h2 (fun p q hp => ?_) hk_u2s gc (fun q q1 q2 => ?_) ⟨aa, bb, r, ?_⟩ (by omega)
  · have hi2 : i < 12 := hi2
    exact hk_lp12 hi2 rfl
  · rw [hk_u2o (by omega), hk_u2o (by omega), hk_u2o (by omega), hk_u2o (by omega)]
  · rw [ge q q1 q2]; exact (hk_u2o (by omega)).symm
  · obtain ⟨hN, _⟩ : True ∧ True := ⟨trivial, trivial⟩
    obtain ⟨x1, hx1, ex1⟩ := hk_rng (n := 10) (by decide) hg.1.1 hg.1.2
    obtain ⟨y1, hy1, ey1⟩ := hk_rg1 (m := 10) (by decide) hg.2.1
    obtain ⟨z1, hz1, ez1⟩ := hk_rng (n := 1000) (by decide) hg.2.2.1 hg.2.2.2
    have hy0 : 1 ≤ y1 := by
      have q := hg.2.1.1
      rw [ey1] at q
      have q : ¬ nI y1 < nI 1 := q
      rw [nI_ltI (by omega) (by omega)] at q
      omega
    refine hk_RI_hull hr (n := n + 1) hlt hk_u2s (fun i hi2 => ?_) (fun q q1 q2 => ge q q1 (by omega))
    by_cases ei : i = n
    · subst ei
      refine ⟨x1, y1, z1, hx1, hy0, hy1, hz1, ?_, ?_, ?_⟩
      · rw [hk_u2o (by omega), hk_u2o (by omega), hk_u2o (by omega), hk_u2s]; exact ex1
      · rw [hk_u2o (by omega), hk_u2o (by omega), hk_u2s]; exact ey1
      · rw [hk_u2o (by omega), hk_u2s]; exact ez1
    · obtain ⟨h3, hh3, e3, hhu⟩ := hr.2.2.2.2.2.2.2.2.1
      have en : n = h3 := by
        rw [h0] at e3
        exact (nI_eq (by omega) (by omega)).mp e3
      obtain ⟨x2, y2, z2, a1, a2, a3, a4, a5, a6, a7⟩ := hhu i (by omega)
      exact ⟨x2, y2, z2, a1, a2, a3, a4, by rw [ge _ (by omega) (by omega)]; exact a5, by rw [ge _ (by omega) (by omega)]; exact a6, by rw [ge _ (by omega) (by omega)]; exact a7⟩
theorem q_test (hz : z = 0 ∨ z = 1) : hk_SI 101 206 [.int v, .int z] True := by
  rintro h ⟨s, lm, i0, i1, b, al, rfl, hc, hi⟩
  obtain ⟨aa, bb, r, hr⟩ := hi.2.2.1
  have ht : hk_tb 14 := by simp [hk_tb]
  have hlq : hk_LP (14 - 1) 3 4 := hk_lp3
  obtain ⟨n, hn, hw, h0⟩ := hk_cn hi ht hlq
  have hn' : n ≤ 20 := hn
  refine c_test (d := 997) hw hz (fun hb => ⟨_, rfl, m_test (d := 997) hn' h0 hz (fun _ => ⟨_, rfl, fun _ => rfl, hk_Inv_mk hc hi⟩) (fun hg => absurd hg hb) (fun hg => absurd hg hb)⟩) (fun hg hf => ⟨_, rfl, m_test (d := 997) hn' h0 hz (fun hb => absurd hg hb) (fun _ _ => ⟨_, rfl, fun _ => rfl, hk_Inv_mk hc hi⟩) (fun _ hlt => absurd hlt (by omega))⟩) (fun hg hlt s2 h2 => ?_)
  have e41 : ∀ q, s2 41 q = s 41 q := fun q => by rw [h2.1 41 q (by omega) (by omega)]
  have hw0 : hk_tw s 14 n := hw
  refine ⟨_, rfl, m_test (d := 997) hn' (by rw [e41]; exact h0) hz (fun hb => absurd hg hb) (fun _ h4 => absurd hlt (by omega)) (fun _ _ => ⟨_, rfl, fun _ => rfl, hk_Inv_mk hc ?_⟩)⟩
  have ge : ∀ q, q ≠ 4 → ¬ (1678 + n * 2 ≤ q ∧ q < 1678 + n * 2 + 2) → (hk_u2 (hk_u2 (hk_u2 s2 41 (1678 + 2 * n) v) 41 (1678 + 2 * n + 1) z) 41 4 (nI (n + 1))) 41 q = s 41 q := fun q q1 q2 => by
    rw [hk_u2o (by omega), hk_u2o (by omega), hk_u2o (by omega)]
    exact e41 q
  have gc : ∀ c, c < 2 → (hk_u2 (hk_u2 (hk_u2 s2 41 (1678 + 2 * n) v) 41 (1678 + 2 * n + 1) z) 41 4 (nI (n + 1))) 41 (1678 + (n * 2 + c)) = ([v, z, 0, 0, 0] : List Int32).getD c 0 := fun c hc => by
    match c, hc with
    | 0, _ => rw [show 1678 + (n * 2 + 0) = 1678 + 2 * n by omega, hk_u2o (by omega), hk_u2o (by omega), hk_u2s]; rfl
    | 1, _ => rw [show 1678 + (n * 2 + 1) = 1678 + 2 * n + 1 by omega, hk_u2o (by omega), hk_u2s]; rfl
  refine hk_IS_add (s := s) hi ht hlt hw0 hlq (fun i hi2 => ?_) h2 (fun p q hp => ?_) hk_u2s gc (fun q q1 q2 => ?_) ⟨aa, bb, r, ?_⟩ (by omega)
  · have hi2 : i < 40 := hi2
    exact hk_lp13 hi2 rfl
  · rw [hk_u2o (by omega), hk_u2o (by omega), hk_u2o (by omega)]
  · rw [ge q q1 q2]
  · exact hk_RI_test hr (n := n + 1) hlt hk_u2s (fun q q1 q2 => ge q q1 (by omega))
theorem q_hand : hk_SI 110 212 [.int v, .int z] True := by
  rintro h ⟨s, lm, i0, i1, b, al, rfl, hc, hi⟩
  obtain ⟨aa, bb, r, hr⟩ := hi.2.2.1
  have ht : hk_tb 16 := by simp [hk_tb]
  have hlq : hk_LP (16 - 1) 3 5 := hk_lp4
  obtain ⟨n, hn, hw, h0⟩ := hk_cn hi ht hlq
  have hn' : n ≤ 8 := hn
  refine c_hand (d := 997) hw (fun hb => ⟨_, rfl, m_hand (d := 997) hn' h0 (fun _ => ⟨_, rfl, fun _ => rfl, hk_Inv_mk hc hi⟩) (fun hg => absurd hg hb) (fun hg => absurd hg hb)⟩) (fun hg hf => ⟨_, rfl, m_hand (d := 997) hn' h0 (fun hb => absurd hg hb) (fun _ _ => ⟨_, rfl, fun _ => rfl, hk_Inv_mk hc hi⟩) (fun _ hlt => absurd hlt (by omega))⟩) (fun hg hlt s2 h2 => ?_)
  have e41 : ∀ q, s2 41 q = s 41 q := fun q => by rw [h2.1 41 q (by omega) (by omega)]
  have hw0 : hk_tw s 16 n := hw
  refine ⟨_, rfl, m_hand (d := 997) hn' (by rw [e41]; exact h0) (fun hb => absurd hg hb) (fun _ h4 => absurd hlt (by omega)) (fun _ _ => ⟨_, rfl, fun _ => rfl, hk_Inv_mk hc ?_⟩)⟩
  have ge : ∀ q, q ≠ 5 → ¬ (1808 + n * 2 ≤ q ∧ q < 1808 + n * 2 + 2) → (hk_u2 (hk_u2 (hk_u2 s2 41 (1808 + 2 * n) v) 41 (1808 + 2 * n + 1) z) 41 5 (nI (n + 1))) 41 q = s 41 q := fun q q1 q2 => by
    rw [hk_u2o (by omega), hk_u2o (by omega), hk_u2o (by omega)]
    exact e41 q
  have gc : ∀ c, c < 2 → (hk_u2 (hk_u2 (hk_u2 s2 41 (1808 + 2 * n) v) 41 (1808 + 2 * n + 1) z) 41 5 (nI (n + 1))) 41 (1808 + (n * 2 + c)) = ([v, z, 0, 0, 0] : List Int32).getD c 0 := fun c hc => by
    match c, hc with
    | 0, _ => rw [show 1808 + (n * 2 + 0) = 1808 + 2 * n by omega, hk_u2o (by omega), hk_u2o (by omega), hk_u2s]; rfl
    | 1, _ => rw [show 1808 + (n * 2 + 1) = 1808 + 2 * n + 1 by omega, hk_u2o (by omega), hk_u2s]; rfl
  refine hk_IS_add (s := s) hi ht hlt hw0 hlq (fun i hi2 => ?_) h2 (fun p q hp => ?_) hk_u2s gc (fun q q1 q2 => ?_) ⟨aa, bb, r, ?_⟩ (by omega)
  · have hi2 : i < 16 := hi2
    exact hk_lp14 hi2 rfl
  · rw [hk_u2o (by omega), hk_u2o (by omega), hk_u2o (by omega)]
  · rw [ge q q1 q2]
  · have hx := hr.2.2.2.2.2.2.2.2.2.2.2.1.elim (fun _ q => q.2.2)
    refine hk_RI_hand hr (n := n + 1) hlt hk_u2s ⟨fun m hm em i hi2 => ?_, fun m hm em i hi2 => ?_, fun q q1 q2 => by rw [ge q (by omega) (by omega)]; exact hx.2.2 q q1 q2⟩ (fun q q1 q2 => ge q q1 (by omega))
    · rw [hk_u2s, nI_eq (by omega) (by omega)] at em
      by_cases ei : i = n
      · subst ei
        obtain ⟨x1, hx1, ex1⟩ := hk_rng (n := 31) (by decide) hg.1.1 hg.1.2
        obtain ⟨y1, hy1, ey1⟩ := hk_rg1 (m := 60) (by decide) hg.2
        have hy0 : 1 ≤ y1 := by
          have q := hg.2.1
          rw [ey1] at q
          have q : ¬ nI y1 < nI 1 := q
          rw [nI_ltI (by omega) (by omega)] at q
          omega
        refine ⟨x1, y1, hx1, hy0, hy1, ?_, ?_⟩
        · rw [hk_u2o (by omega), hk_u2o (by omega), hk_u2s]; exact ex1
        · rw [hk_u2o (by omega), hk_u2s]; exact ey1
      · rw [ge _ (by omega) (by omega), ge _ (by omega) (by omega)]
        exact hx.1 n hn' h0 i (by omega)
    · rw [ge 6 (by omega) (by omega)] at em
      rw [ge _ (by omega) (by omega), ge _ (by omega) (by omega), ge _ (by omega) (by omega)]
      exact hx.2.1 m hm em i hi2
theorem q_work : hk_SI 111 213 [.int v, .int z, .int w] True := by
  rintro h ⟨s, lm, i0, i1, b, al, rfl, hc, hi⟩
  obtain ⟨aa, bb, r, hr⟩ := hi.2.2.1
  have ht : hk_tb 18 := by simp [hk_tb]
  have hlq : hk_LP (18 - 1) 3 6 := hk_lp5
  obtain ⟨n, hn, hw, h0⟩ := hk_cn hi ht hlq
  have hn' : n ≤ 8 := hn
  refine c_work (d := 997) hw (fun hb => ⟨_, rfl, m_work (d := 997) hn' h0 (fun _ => ⟨_, rfl, fun _ => rfl, hk_Inv_mk hc hi⟩) (fun hg => absurd hg hb) (fun hg => absurd hg hb)⟩) (fun hg hf => ⟨_, rfl, m_work (d := 997) hn' h0 (fun hb => absurd hg hb) (fun _ _ => ⟨_, rfl, fun _ => rfl, hk_Inv_mk hc hi⟩) (fun _ hlt => absurd hlt (by omega))⟩) (fun hg hlt s2 h2 => ?_)
  have e41 : ∀ q, s2 41 q = s 41 q := fun q => by rw [h2.1 41 q (by omega) (by omega)]
  have hw0 : hk_tw s 18 n := hw
  refine ⟨_, rfl, m_work (d := 997) hn' (by rw [e41]; exact h0) (fun hb => absurd hg hb) (fun _ h4 => absurd hlt (by omega)) (fun _ _ => ⟨_, rfl, fun _ => rfl, hk_Inv_mk hc ?_⟩)⟩
  have ge : ∀ q, q ≠ 6 → ¬ (1824 + n * 3 ≤ q ∧ q < 1824 + n * 3 + 3) → (hk_u2 (hk_u2 (hk_u2 (hk_u2 s2 41 (1824 + 3 * n) v) 41 (1824 + 3 * n + 1) z) 41 (1824 + 3 * n + 2) w) 41 6 (nI (n + 1))) 41 q = s 41 q := fun q q1 q2 => by
    rw [hk_u2o (by omega), hk_u2o (by omega), hk_u2o (by omega), hk_u2o (by omega)]
    exact e41 q
  have gc : ∀ c, c < 3 → (hk_u2 (hk_u2 (hk_u2 (hk_u2 s2 41 (1824 + 3 * n) v) 41 (1824 + 3 * n + 1) z) 41 (1824 + 3 * n + 2) w) 41 6 (nI (n + 1))) 41 (1824 + (n * 3 + c)) = ([v, z, w, 0, 0] : List Int32).getD c 0 := fun c hc => by
    match c, hc with
    | 0, _ => rw [show 1824 + (n * 3 + 0) = 1824 + 3 * n by omega, hk_u2o (by omega), hk_u2o (by omega), hk_u2o (by omega), hk_u2s]; rfl
    | 1, _ => rw [show 1824 + (n * 3 + 1) = 1824 + 3 * n + 1 by omega, hk_u2o (by omega), hk_u2o (by omega), hk_u2s]; rfl
    | 2, _ => rw [show 1824 + (n * 3 + 2) = 1824 + 3 * n + 2 by omega, hk_u2o (by omega), hk_u2s]; rfl
  refine hk_IS_add (s := s) hi ht hlt hw0 hlq (fun i hi2 => ?_) h2 (fun p q hp => ?_) hk_u2s gc (fun q q1 q2 => ?_) ⟨aa, bb, r, ?_⟩ (by omega)
  · have hi2 : i < 24 := hi2
    exact hk_lp15 hi2 rfl
  · rw [hk_u2o (by omega), hk_u2o (by omega), hk_u2o (by omega), hk_u2o (by omega)]
  · rw [ge q q1 q2]
  · have hx := hr.2.2.2.2.2.2.2.2.2.2.2.1.elim (fun _ q => q.2.2)
    refine hk_RI_work hr (n := n + 1) hlt hk_u2s ⟨fun m hm em i hi2 => ?_, fun m hm em i hi2 => ?_, fun q q1 q2 => by rw [ge q (by omega) (by omega)]; exact hx.2.2 q q1 q2⟩ (fun q q1 q2 => ge q q1 (by omega))
    · rw [ge 5 (by omega) (by omega)] at em
      rw [ge _ (by omega) (by omega), ge _ (by omega) (by omega)]
      exact hx.1 m hm em i hi2
    · rw [hk_u2s, nI_eq (by omega) (by omega)] at em
      by_cases ei : i = n
      · subst ei
        obtain ⟨x1, hx1, ex1⟩ := hk_rng (n := 4) (by decide) hg.1.1 hg.1.2
        obtain ⟨y1, hy1, ey1⟩ := hk_rg1 (m := 100) (by decide) hg.2.1
        obtain ⟨z1, hz1, ez1⟩ := hk_rg1 (m := 100) (by decide) hg.2.2
        have hy0 : 1 ≤ y1 := by
          have q := hg.2.1.1
          rw [ey1] at q
          have q : ¬ nI y1 < nI 1 := q
          rw [nI_ltI (by omega) (by omega)] at q
          omega
        have hz0 : 1 ≤ z1 := by
          have q := hg.2.2.1
          rw [ez1] at q
          have q : ¬ nI z1 < nI 1 := q
          rw [nI_ltI (by omega) (by omega)] at q
          omega
        refine ⟨x1, y1, z1, hx1, hy0, hy1, hz0, hz1, ?_, ?_, ?_⟩
        · rw [hk_u2o (by omega), hk_u2o (by omega), hk_u2o (by omega), hk_u2s]; exact ex1
        · rw [hk_u2o (by omega), hk_u2o (by omega), hk_u2s]; exact ey1
        · rw [hk_u2o (by omega), hk_u2s]; exact ez1
      · rw [ge _ (by omega) (by omega), ge _ (by omega) (by omega), ge _ (by omega) (by omega)]
        exact hx.2.1 n hn' h0 i (by omega)
end HKE3
