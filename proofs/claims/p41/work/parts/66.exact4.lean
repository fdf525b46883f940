/-! ===== clear, drain agree; months, plan keep the invariant ===== -/
theorem hk_IS_emp {s s3 : Nat → Nat → Int32} {i0 i1 t Q : Nat} (h : hk_IS s i0 i1) (ht : hk_tb t) (h810 : t ≠ 8 ∧ t ≠ 10) (hl1 : hk_LP (t - 1) 3 Q) (ho : ∀ p q, p ≠ 41 → s3 p q = hk_u2 s t 3 0 p q) (g : ∀ q, s3 41 q = if q = Q then 0 else s 41 q) (r : ∃ a b r, hk_RI (s3 41) a b r) : hk_IS s3 i0 i1 := by
  obtain ⟨h1, h2, h3, h4, h5⟩ := h
  have htb := hk_tb35 ht
  have t1 : 1 ≤ t := by unfold hk_tb at ht; omega
  have e : ∀ p q2, 51 ≤ p ∧ p < 95 ∨ p = 43 ∨ p = 44 → s3 p q2 = s p q2 := fun p q2 hp => by
    rw [ho _ _ (by omega), hk_u2o (by omega)]
  have tws : ∀ t2 n2, hk_tb t2 → t2 ≠ t → hk_tw s t2 n2 → hk_tw s3 t2 n2 := fun t2 n2 ht2 hne ⟨b1, b2, b3, b4⟩ => by
    have := hk_tb35 ht2
    exact ⟨by rw [ho _ _ (by omega), hk_u2o (by omega)]; exact b1, by rw [ho _ _ (by omega), hk_u2o (by omega)]; exact b2, by rw [ho _ _ (by omega), hk_u2o (by omega)]; exact b3, b4⟩
  refine ⟨⟨fun t2 ht2 => ?_, tws 8 4 (by simp [hk_tb]) (by omega) h1.2.1, tws 10 4 (by simp [hk_tb]) (by omega) h1.2.2⟩, fun a i q hl => ?_, r, hk_Img_fr h4 (by omega) e, hk_Img_fr h5 (by omega) e⟩
  · by_cases et : t2 = t
    · subst et
      obtain ⟨n, b1, b2, b3, b4⟩ := h1.1 t2 ht
      exact ⟨0, by rw [ho _ _ (by omega), hk_u2o (by omega)]; exact b1, by rw [ho _ _ (by omega), hk_u2o (by omega)]; exact b2, by rw [ho _ _ (by omega), hk_u2s]; rfl, Nat.zero_le _⟩
    · exact (h1.1 t2 ht2).elim fun n2 hn2 => ⟨n2, tws t2 n2 ht2 et hn2⟩
  · have hb := hk_LP_b hl
    have ru := hk_Rel_u (v := 0) h2 hl1 a i q hl
    rw [show 1 + (t - 1) = t by omega] at ru
    rw [ho _ _ (by omega), g]
    exact ru
theorem hk_cfg_95 {i0 i1 : Nat} {al : List Nat} (h : hk_cfg i0 i1 35 al) : al.contains 95 = false ∧ hk_cfg i0 i1 95 (al ++ [95]) := by
  unfold hk_cfg at h ⊢
  rcases h with ⟨q1, q2, ⟨_, rfl⟩ | ⟨q, _⟩⟩ | ⟨q1, ⟨_, rfl⟩ | ⟨q, _⟩⟩ | ⟨q1, ⟨_, rfl⟩ | ⟨q, _⟩⟩
  · exact ⟨by decide, Or.inl ⟨q1, q2, Or.inr ⟨rfl, rfl⟩⟩⟩
  · exact absurd q (by decide)
  · exact ⟨by decide, Or.inr (Or.inl ⟨q1, Or.inr ⟨rfl, Or.inr rfl⟩⟩)⟩
  · exact absurd q (by decide)
  · exact ⟨by decide, Or.inr (Or.inr ⟨q1, Or.inr ⟨rfl, Or.inr (Or.inr rfl)⟩⟩)⟩
  · exact absurd q (by decide)
theorem hk_cfg_b {i0 i1 b : Nat} {al : List Nat} (h : hk_cfg i0 i1 b al) : b = 35 ∨ b = 95 := by
  unfold hk_cfg at h
  rcases h with ⟨_, _, ⟨q, _⟩ | ⟨q, _⟩⟩ | ⟨_, ⟨q, _⟩ | ⟨q, _⟩⟩ | ⟨_, ⟨q, _⟩ | ⟨q, _⟩⟩
  all_goals first | exact Or.inl q | exact Or.inr q
section HKE5
variable {v w x y z : Int32}
theorem q_clear : hk_SI 99 205 [] True := by
  rintro h ⟨s, lm, i0, i1, b, al, rfl, hc, hi⟩
  obtain ⟨aa, bb, r, hr⟩ := hi.2.2.1
  have hl : hk_LP (12 - 1) 3 3 := hk_lp2
  refine c_clear (d := 998) ⟨_, rfl, m_clear (d := 998) ⟨_, rfl, fun _ => ?_, hk_Inv_mk hc (hk_IS_emp (s := hk_u2 s 29 11 0) (hk_IS_c hi (by omega)) (by simp [hk_tb]) (by omega) hl (fun p q hp => ?_) (fun q => ?_) ⟨aa, bb, r, ?_⟩)⟩⟩
  · rw [hk_u2o (by omega), hk_u2o (by omega)]
    exact hi.2.1 11 3 3 hk_lp2
  · rw [hk_u2o (by omega)]
  · rw [hk_u2f]
    dsimp only
    rw [hk_u2o (by omega)]
  · refine hk_RI_hull hr (n := 0) (by omega) hk_u2s (fun i hi => absurd hi (Nat.not_lt_zero i)) (fun q h1 h2 => ?_)
    rw [hk_u2o (by omega), hk_u2o (by omega), hk_u2o (by omega)]
theorem q_drain : hk_SI 102 207 [] True := by
  rintro h ⟨s, lm, i0, i1, b, al, rfl, hc, hi⟩
  obtain ⟨aa, bb, r, hr⟩ := hi.2.2.1
  have hl : hk_LP (14 - 1) 3 4 := hk_lp3
  refine c_drain (d := 998) ⟨_, rfl, m_drain (d := 998) ⟨_, rfl, fun _ => ?_, hk_Inv_mk hc (hk_IS_emp (s := s) hi (by simp [hk_tb]) (by omega) hl (fun p q hp => ?_) (fun q => ?_) ⟨aa, bb, r, ?_⟩)⟩⟩
  · rw [hk_u2o (by omega)]
    exact hi.2.1 13 3 4 hk_lp3
  · rw [hk_u2o (by omega)]
  · rw [hk_u2f]
    dsimp only
    rw [hk_u2o (by omega)]
  · refine hk_RI_test hr (n := 0) (by omega) hk_u2s (fun q h1 h2 => ?_)
    rw [hk_u2o (by omega), hk_u2o (by omega)]
theorem q_plan : hk_SI 81 195 [.int z] False := by
  rintro h ⟨s, lm, i0, i1, b, al, rfl, hc, hi⟩
  obtain ⟨aa, bb, r, hr⟩ := hi.2.2.1
  obtain ⟨m, hm⟩ := hi.1.1 12 (by simp [hk_tb])
  have fin : ∀ (b2 : Nat) (al2 : List Nat) (lm2 : Nat → Nat → Int64) (s1 : Nat → Nat → Int32) (u : Int32), hk_cfg i0 i1 b2 al2 → hk_F29 s s1 → ∃ x, some (Value.int u) = some (.int x) ∧ hk_Cl 1000 195 [.ref 40, .int z] (s1, lm2, hk_RH i0 i1 b2, al2) (fun r2 h2 => ∃ y, r2 = some (.int y) ∧ (False → x = y) ∧ hk_Inv h2) := fun b2 al2 lm2 s1 u hc2 f1 => by
    have hcf : hk_CF s s1 := hk_CF_p hi.1 (fun p q hp => f1 p q (by omega) (by omega))
    refine ⟨u, rfl, ?_⟩
    rw [← hk_CF_41 hcf] at hr
    exact m_plan (d := 994) hr (fun s2 y g r2 => ⟨y, rfl, fun f => f.elim, hk_Inv_mk hc2 (hk_safe hi hcf (hk_Gw_of g) ⟨_, _, _, r2⟩)⟩)
  rcases hk_cfg_b hc with rfl | rfl
  · obtain ⟨ha, hc2⟩ := hk_cfg_95 hc
    exact c_plan35 (d := 961) ha hm hi.1 (fin 35 al lm s _ hc (hk_F29_r s)) (fun _ u => fin 35 al lm s u hc (hk_F29_r s)) (fun _ s2 u f => fin 95 _ _ s2 u hc2 f)
  · exact c_plan95 (d := 961) hm hi.1 (fun _ => fin 95 al lm s _ hc (hk_F29_r s)) (fun _ s2 u f => fin 95 al lm s2 u hc f)
end HKE5
