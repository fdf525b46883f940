/-! ===== from, image ===== -/
theorem hk_cpA_LP {S D a i q : Nat} {s s2 : Nat → Nat → Int32} (h : hk_cpA S D s s2) (hl : hk_LP a i q) : s2 (D + a) i = s (S + a) i := by
  obtain ⟨_, _, h3, h4, h5, h6, h7, h8, h9, h10, h11⟩ := h
  unfold hk_LP at hl
  rcases hl with ⟨rfl, rfl, _⟩ | ⟨rfl, rfl, _⟩ | ⟨rfl, rfl, _⟩ | ⟨rfl, rfl, _⟩ | ⟨rfl, rfl, _⟩ | ⟨rfl, rfl, _⟩ | ⟨rfl, l1, l2, _⟩ | ⟨rfl, l1, _⟩ | ⟨rfl, l1, _⟩ | ⟨rfl, l1, _⟩ | ⟨rfl, l1, _⟩ | ⟨rfl, l1, _⟩ | ⟨rfl, l1, _⟩ | ⟨rfl, l1, _⟩ | ⟨rfl, l1, _⟩ | ⟨rfl, l1, _⟩ | ⟨rfl, l1, _⟩ | ⟨rfl, l1, _⟩
  · exact (h3 0 (by omega)).1
  · exact (h3 1 (by omega)).1
  · exact (h3 5 (by omega)).1
  · exact (h3 6 (by omega)).1
  · exact (h3 7 (by omega)).1
  · exact (h3 8 (by omega)).1
  · have hc : i = 12 ∨ i = 13 ∨ i = 14 ∨ i = 15 ∨ i = 16 := by omega
    rcases hc with rfl | rfl | rfl | rfl | rfl
    · exact h7
    · exact h8
    · exact h9
    · exact h10
    · exact h11
  · exact h4 i l1
  · exact h5 i l1
  · exact h6 i l1
  · exact (h3 3 (by omega)).2 i (by show i < _; exact Nat.lt_of_lt_of_le l1 (by decide))
  · exact (h3 4 (by omega)).2 i (by show i < _; exact Nat.lt_of_lt_of_le l1 (by decide))
  · exact (h3 5 (by omega)).2 i (by show i < _; exact Nat.lt_of_lt_of_le l1 (by decide))
  · exact (h3 6 (by omega)).2 i (by show i < _; exact Nat.lt_of_lt_of_le l1 (by decide))
  · exact (h3 7 (by omega)).2 i (by show i < _; exact Nat.lt_of_lt_of_le l1 (by decide))
  · exact (h3 8 (by omega)).2 i (by show i < _; exact Nat.lt_of_lt_of_le l1 (by decide))
  · exact (h3 0 (by omega)).2 i (by show i < _; exact Nat.lt_of_lt_of_le l1 (by decide))
  · exact (h3 1 (by omega)).2 i (by show i < _; exact Nat.lt_of_lt_of_le l1 (by decide))
section HKE8
variable {d n : Nat} {v w x y z : Int32} {s : Nat → Nat → Int32} {lm : Nat → Nat → Int64} {i0 i1 b : Nat} {al : List Nat} {k : Option Value → hk_H → Prop}
theorem c_fromN {j : Nat} (hj : j < 2) (h0 : hk_RH i0 i1 b 23 j = 0) (h1 : k (some (.int (-3))) (s, lm, hk_RH i0 i1 b, al)) : hk_Cl (d + 2) 126 [.ref 0, .int (nI j)] (s, lm, hk_RH i0 i1 b, al) k := by
  refine hk_mth hk_m126 rfl rfl (n := 1000) ?_
  refine c_within (fun _ _ => ?_) (fun a => ?_)
  · refine And.intro (fun _ => ?_) (fun hc => absurd (by decide) hc)
    refine hk_lda (i := nI j) (j := j) (q := 0) rfl (by omega) (by decide) h0 ?_
    exact h1
  · exfalso
    rcases a with a | a
    · exact nI_pos (by omega) a
    · have a : nI 1 < nI j := a
      rw [nI_ltI (by omega) (by omega)] at a
      omega
theorem c_fromB (hb : ¬ hk_rg z 0 1) (h1 : k (some (.int (-2))) (s, lm, hk_RH i0 i1 b, al)) : hk_Cl (d + 2) 126 [.ref 0, .int z] (s, lm, hk_RH i0 i1 b, al) k := by
  refine hk_mth hk_m126 rfl rfl (n := 1000) ?_
  refine c_within (fun p q => absurd ⟨p, q⟩ hb) (fun _ => ?_)
  refine And.intro (fun hc => absurd hc (by decide)) (fun _ => ?_)
  exact h1
/-- a kept image comes back: the invariant -/
theorem hk_IS_frm {s s2 s3 : Nat → Nat → Int32} {i0 i1 j D : Nat} (hi : hk_IS s i0 i1) (hj : j < 2) (hI : hk_Img s j D) (hD : D ≠ 0) (hA : hk_cpA D 1 s s2) (ho : ∀ p q, p ≠ 41 → s3 p q = hk_u2 s2 29 11 0 p q) (g : ∀ q, q < 2448 → s3 41 q = hk_u2 s2 29 11 0 43 (2448 * j + q)) : hk_IS s3 i0 i1 := by
  obtain ⟨h1, h2, h3, h4, h5⟩ := hi
  rcases hI with ⟨e0, _⟩ | ⟨eD, _, ⟨t1, t2, t3⟩, t4, a, b, r, t5⟩
  · exact absurd e0 hD
  have e : ∀ p q, 51 ≤ p ∧ p < 95 ∨ p = 43 ∨ p = 44 → s3 p q = s p q := fun p q hp => by
    rw [ho _ _ (by omega), hk_u2o (by omega)]
    exact hA.1 p q (by omega)
  have g2 : ∀ q, q < 2448 → s3 41 q = hk_rowj s j q := fun q hq => by
    rw [g q hq, hk_u2o (by omega)]
    exact hA.1 43 _ (by omega)
  have tw : ∀ j2, j2 < 9 → ∀ n, hk_tw s (D + 1 + 2 * j2) n → hk_tw s3 (1 + 1 + 2 * j2) n := fun j2 hj2 n ⟨b1, b2, b3, b4⟩ => by
    have ht : hk_tb (1 + 1 + 2 * j2) := by unfold hk_tb; omega
    obtain ⟨m, c1, c2, c3, c4⟩ := h1.1 _ ht
    have hmo : hk_mo (D + 1 + 2 * j2) = hk_mo (1 + 1 + 2 * j2) := by
      rcases eD with rfl | rfl
      · exact hk_f9x (P := fun j2 => hk_mo (51 + 1 + 2 * j2) = hk_mo (1 + 1 + 2 * j2)) rfl rfl rfl rfl rfl rfl rfl rfl rfl hj2
      · exact hk_f9x (P := fun j2 => hk_mo (73 + 1 + 2 * j2) = hk_mo (1 + 1 + 2 * j2)) rfl rfl rfl rfl rfl rfl rfl rfl rfl hj2
    refine ⟨?_, ?_, ?_, by rw [← hmo]; exact b4⟩
    · rw [ho _ _ (by omega), hk_u2o (by omega), hA.2.1 j2 hj2 0 (by omega)]; exact c1
    · rw [ho _ _ (by omega), hk_u2o (by omega), hA.2.1 j2 hj2 1 (by omega)]; exact c2
    · rw [ho _ _ (by omega), hk_u2o (by omega), (hA.2.2.1 j2 hj2).1]; exact b3
  refine ⟨⟨fun t ht => ?_, tw 3 (by omega) 4 t2, tw 4 (by omega) 4 t3⟩, fun a i q hl => ?_, ⟨a, b, r, hk_RI_eq t5 g2⟩, hk_Img_fr h4 (by omega) e, hk_Img_fr h5 (by omega) e⟩
  · obtain ⟨j2, hj2, rfl⟩ : ∃ j2, j2 < 9 ∧ t = 1 + 1 + 2 * j2 := ⟨(t - 2) / 2, by unfold hk_tb at ht; omega, by unfold hk_tb at ht; omega⟩
    exact (t1 j2 hj2).elim fun n hn => ⟨n, tw j2 hj2 n hn⟩
  · have hb := hk_LP_b hl
    rw [ho _ _ (by omega), hk_u2o (by omega), hk_cpA_LP hA hl, g2 q (by omega)]
    exact t4 a i q hl
theorem hk_from_fin {s2 : Nat → Nat → Int32} {j D : Nat} (hc : hk_cfg i0 i1 b al) (hi : hk_IS s i0 i1) (hj : j < 2) (hI : hk_Img s j D) (hD : D ≠ 0) (hA : hk_cpA D 1 s s2) : hk_Cl 1000 218 [.ref 40, .int (nI j)] (hk_u2 s2 29 11 0, lm, hk_RH i0 i1 b, al) (fun r2 h2 => ∃ y, r2 = some (.int y) ∧ (True → 1 = y) ∧ hk_Inv h2) := by
  have e44 : hk_u2 s2 29 11 0 44 j = 1 := by
    rw [hk_u2o (by omega), hA.1 44 j (by omega)]
    rcases hI with ⟨e0, _⟩ | ⟨_, e1, _⟩
    · exact absurd e0 hD
    · exact e1
  refine m_from (d := 998) (fun hb => ?_) (fun i ei hi2 h0 => ?_) (fun i ei hi2 h0 s3 ho g => ⟨1, rfl, fun _ => rfl, hk_Inv_mk hc ?_⟩)
  · exfalso
    refine hb ⟨nI_pos (by omega), fun q => ?_⟩
    have q : nI 1 < nI j := q
    rw [nI_ltI (by omega) (by omega)] at q
    omega
  · have e := hk_same (z := nI j) rfl ei (by omega) (by omega)
    subst e
    rw [e44] at h0
    exact absurd h0 (by decide)
  · have e := hk_same (z := nI j) rfl ei (by omega) (by omega)
    subst e
    exact hk_IS_frm hi hj hI hD hA ho g
theorem hk_house_mo {i0 i1 : Nat} (hi : hk_IS s i0 i1) : ∀ j, j < 9 → s (1 + 1 + 2 * j) 0 = nI (hk_mo (2 + 2 * j)) := fun j hj => by
  obtain ⟨n, h1, _⟩ := hi.1.1 (1 + 1 + 2 * j) (by unfold hk_tb; omega)
  rw [h1]
theorem hk_Img_TW {j D : Nat} (hI : hk_Img s j D) (hD : D ≠ 0) : ∀ j, j < 9 → ∃ n, hk_tw s (D + 1 + 2 * j) n := by
  rcases hI with ⟨e0, _⟩ | ⟨_, _, ⟨t1, _⟩, _⟩
  · exact absurd e0 hD
  · exact t1
theorem hk_frm_none {j : Nat} (hc : hk_cfg i0 i1 b al) (hi : hk_IS s i0 i1) (hj : j < 2) (h0 : s 44 j = 0) : hk_Cl 1000 218 [.ref 40, .int (nI j)] (s, lm, hk_RH i0 i1 b, al) (fun r2 h2 => ∃ y, r2 = some (.int y) ∧ (True → -3 = y) ∧ hk_Inv h2) := by
  refine m_from (d := 998) (fun hb => ?_) (fun i ei hi2 _ => ⟨-3, rfl, fun _ => rfl, hk_Inv_mk hc hi⟩) (fun i ei hi2 h1 _ _ _ => ?_)
  · exfalso
    refine hb ⟨nI_pos (by omega), fun q => ?_⟩
    have q : nI 1 < nI j := q
    rw [nI_ltI (by omega) (by omega)] at q
    omega
  · have e := hk_same (z := nI j) rfl ei (by omega) (by omega)
    subst e
    exact absurd h0 h1
theorem q_from : hk_SI 126 218 [.int z] True := by
  rintro h ⟨s, lm, i0, i1, b, al, rfl, hc, hi⟩
  by_cases hb : hk_rg z 0 1
  rotate_left
  · exact c_fromB (d := 998) hb ⟨_, rfl, m_from (d := 998) (fun _ => ⟨_, rfl, fun _ => rfl, hk_Inv_mk hc hi⟩) (fun j e hj => absurd (show hk_rg z 0 1 from by
      rw [e]
      exact ⟨nI_pos (by omega), fun q => by
        have q : nI 1 < nI j := q
        rw [nI_ltI (by omega) (by omega)] at q
        omega⟩) hb) (fun j e hj => absurd (show hk_rg z 0 1 from by
      rw [e]
      exact ⟨nI_pos (by omega), fun q => by
        have q : nI 1 < nI j := q
        rw [nI_ltI (by omega) (by omega)] at q
        omega⟩) hb)⟩
  obtain ⟨j, hj, rfl⟩ := hk_rng (n := 1) (by decide) hb.1 hb.2
  have hI0 := hi.2.2.2.1
  have hI1 := hi.2.2.2.2
  have hmo := hk_house_mo hi
  have z0 : ∀ {j D : Nat}, hk_Img s j D → D = 0 → s 44 j = 0 := fun h e => h.elim (fun q => q.2) (fun q => by subst e; rcases q.1 with q | q <;> exact absurd q (by decide))
  have hc2 := hc
  unfold hk_cfg at hc2
  match j, hj with
  | 0, _ =>
    rcases hc2 with ⟨rfl, rfl, _⟩ | ⟨⟨rfl, rfl⟩ | ⟨rfl, rfl⟩, _⟩ | ⟨⟨rfl, rfl⟩ | ⟨rfl, rfl⟩, _⟩
    · exact c_fromN (d := 998) (by omega) rfl ⟨_, rfl, hk_frm_none hc hi (by omega) (z0 hI0 rfl)⟩
    · exact c_frm_51_0_0 (d := 996) (hk_Img_TW hI0 (by omega)) hmo (fun s2 hA => ⟨_, rfl, hk_from_fin hc hi (by omega) hI0 (by omega) hA⟩)
    · exact c_fromN (d := 998) (by omega) rfl ⟨_, rfl, hk_frm_none hc hi (by omega) (z0 hI0 rfl)⟩
    · exact c_frm_51_73_0 (d := 996) (hk_Img_TW hI0 (by omega)) hmo (fun s2 hA => ⟨_, rfl, hk_from_fin hc hi (by omega) hI0 (by omega) hA⟩)
    · exact c_frm_73_51_0 (d := 996) (hk_Img_TW hI0 (by omega)) hmo (fun s2 hA => ⟨_, rfl, hk_from_fin hc hi (by omega) hI0 (by omega) hA⟩)
  | 1, _ =>
    rcases hc2 with ⟨rfl, rfl, _⟩ | ⟨⟨rfl, rfl⟩ | ⟨rfl, rfl⟩, _⟩ | ⟨⟨rfl, rfl⟩ | ⟨rfl, rfl⟩, _⟩
    · exact c_fromN (d := 998) (by omega) rfl ⟨_, rfl, hk_frm_none hc hi (by omega) (z0 hI1 rfl)⟩
    · exact c_fromN (d := 998) (by omega) rfl ⟨_, rfl, hk_frm_none hc hi (by omega) (z0 hI1 rfl)⟩
    · exact c_frm_0_51_1 (d := 996) (hk_Img_TW hI1 (by omega)) hmo (fun s2 hA => ⟨_, rfl, hk_from_fin hc hi (by omega) hI1 (by omega) hA⟩)
    · exact c_frm_51_73_1 (d := 996) (hk_Img_TW hI1 (by omega)) hmo (fun s2 hA => ⟨_, rfl, hk_from_fin hc hi (by omega) hI1 (by omega) hA⟩)
    · exact c_frm_73_51_1 (d := 996) (hk_Img_TW hI1 (by omega)) hmo (fun s2 hA => ⟨_, rfl, hk_from_fin hc hi (by omega) hI1 (by omega) hA⟩)
end HKE8
