/-! ===== plan agrees ===== -/
section HKPH
variable {z : Int32} {s : Nat → Nat → Int32}
theorem hk_HC_of {f : Nat → Int32} {a bb r : Nat} (hw : hk_TW s) (hR : hk_Rel s 1 f) (h : hk_RI f a bb r) : hk_HC s (hk_flc f) (hk_gnc f) (hk_cnc f) (f 3).toNatClampNeg (f 10).toNatClampNeg (f 11).toNatClampNeg := by
  obtain ⟨⟨hN, hD, hI, e3, e10, e11, hu⟩, hg⟩ := hk_Hu_c h
  obtain ⟨n, hn⟩ := hw.1 12 (by simp [hk_tb])
  have e : s (1 + 11) 3 = f 3 := hR 11 3 3 hk_lp2
  have hm : n ≤ 4 := hn.2.2.2
  have en : n = (f 3).toNatClampNeg := (nI_eq (by omega) (by omega)).mp (hn.2.2.1.symm.trans (e.trans e3))
  refine ⟨en ▸ hn, (hR 0 15 10 (hk_lp6 (by omega) (by omega) (by omega))).trans e10, (hR 0 16 11 (hk_lp6 (by omega) (by omega) (by omega))).trans e11, hD, hI, fun i hi => ?_⟩
  obtain ⟨q1, q2, q3, q4, q5, q6⟩ := hu i hi
  exact ⟨(hR 12 (i * 3) (1666 + 3 * i) (hk_lp12 (by omega) (by omega))).trans q1, (hR 12 (i * 3 + 1) (1666 + 3 * i + 1) (hk_lp12 (by omega) (by omega))).trans q2, (hR 12 (i * 3 + 2) (1666 + 3 * i + 2) (hk_lp12 (by omega) (by omega))).trans q3, q4, q5, q6, hg i hi⟩
theorem q_planE : hk_SI 81 195 [.int z] True := by
  rintro h ⟨s, lm, i0, i1, b, al, rfl, hc, hi⟩
  obtain ⟨aa, bb, r, hr⟩ := hi.2.2.1
  have HC := hk_HC_of hi.1 hi.2.1 hr
  obtain ⟨HU, hg⟩ := hk_Hu_c hr
  have hP := hi.2.2.2.2.2
  -- the class has refused
  have bad : ∀ (b2 : Nat) (al2 : List Nat) (lm2 : Nat → Nat → Int64), hk_cfg i0 i1 b2 al2 → ¬ hk_rg z (-1) 11 → ∃ x, some (Value.int (-2)) = some (.int x) ∧ hk_Cl 1000 195 [.ref 40, .int z] (s, lm2, hk_RH i0 i1 b2, al2) (fun r2 h2 => ∃ y, r2 = some (.int y) ∧ (True → x = y) ∧ hk_Inv h2) := fun b2 al2 lm2 hc2 hb => ⟨_, rfl, m_planX (d := 994) HU hg (fun _ => ⟨_, rfl, fun _ => rfl, hk_Inv_mk hc2 hi⟩) (fun s2 q _ => absurd q hb)⟩
  -- the class has told
  have fin : ∀ (b2 : Nat) (al2 : List Nat) (lm2 : Nat → Nat → Int64) (s1 : Nat → Nat → Int32), hk_cfg i0 i1 b2 al2 → hk_rg z (-1) 11 → hk_F29 s s1 → hk_Pn s1 (hk_flc (s 41)) (hk_gnc (s 41)) (hk_cnc (s 41)) (s 41 3).toNatClampNeg (s 41 10).toNatClampNeg (s 41 11).toNatClampNeg → ∃ x, some (Value.int (hk_pvv (hk_flc (s 41)) (hk_gnc (s 41)) (hk_cnc (s 41)) (s 41 3).toNatClampNeg (s 41 10).toNatClampNeg (s 41 11).toNatClampNeg z)) = some (.int x) ∧ hk_Cl 1000 195 [.ref 40, .int z] (s1, lm2, hk_RH i0 i1 b2, al2) (fun r2 h2 => ∃ y, r2 = some (.int y) ∧ (True → x = y) ∧ hk_Inv h2) := fun b2 al2 lm2 s1 hc2 hz f1 p1 => by
    have e41 : s1 41 = s 41 := funext fun q => f1 41 q (by omega) (by omega)
    refine ⟨_, rfl, m_planX (d := 994) (by rw [e41]; exact HU) hg (fun hb => absurd hz hb) (fun s2 _ f2 => ⟨_, rfl, fun _ => rfl, hk_Inv_mk hc2 ?_⟩)⟩
    obtain ⟨h1, h2, h3, h4, h5, h6⟩ := hi
    have e2 : s2 41 = s 41 := (funext fun q => f2 41 q (by omega) (by omega)).trans e41
    have e : ∀ p q, 51 ≤ p ∧ p < 95 ∨ p = 43 ∨ p = 44 → s2 p q = s p q := fun p q hp => (f2 p q (by omega) (by omega)).trans (f1 p q (by omega) (by omega))
    refine ⟨hk_TW_fr h1 (fun t q ht => (f2 t q (by have := hk_tb35 ht; omega) (by have := hk_tb35 ht; omega)).trans (f1 t q (by have := hk_tb35 ht; omega) (by have := hk_tb35 ht; omega))), fun a i q hl => ?_, by rw [e2]; exact h3, hk_Img_fr h4 (by omega) e, hk_Img_fr h5 (by omega) e, Or.inr ?_⟩
    · have hb := hk_LP_b hl
      rw [e2, f2 _ _ (by omega) (by omega), f1 _ _ (by omega) (by omega)]
      exact h2 a i q hl
    · obtain ⟨p34, p8, p9, p10⟩ := p1
      rw [e2]
      exact ⟨fun y hy => (f2 34 y (by omega) (by omega)).trans (p34 y hy), (f2 29 8 (by omega) (by omega)).trans p8, (f2 29 9 (by omega) (by omega)).trans p9, (f2 29 10 (by omega) (by omega)).trans p10⟩
  rcases hk_cfg_b hc with rfl | rfl
  · obtain ⟨ha, hc2⟩ := hk_cfg_95 hc
    exact c_plan35X (d := 961) ha HC hP (bad 35 al lm hc) (fun hz p => fin 35 al lm s hc hz (hk_F29_r s) p) (fun hz s2 f p => fin 95 _ _ s2 hc2 hz f p)
  · exact c_plan95X (d := 961) HC hP (bad 95 al lm hc) (fun hz s2 f p => fin 95 al lm s2 hc hz f p)
end HKPH
