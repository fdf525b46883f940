/-! ===== image: the invariant ===== -/
theorem hk_Img_fo {s s2 : Nat → Nat → Int32} {j D : Nat} (h : hk_Img s j D) (e : ∀ p q, D ≠ 0 → D ≤ p → p < D + 22 → s2 p q = s p q) (e4 : s2 44 j = s 44 j) (er : ∀ q, q < 2448 → s2 43 (2448 * j + q) = s 43 (2448 * j + q)) : hk_Img s2 j D := by
  rcases h with ⟨h1, h2⟩ | ⟨h1, h2, ⟨h3, h4, h5⟩, h6, a, b, r, h7⟩
  · exact Or.inl ⟨h1, by rw [e4]; exact h2⟩
  · have hD : D ≠ 0 := by omega
    have ft : ∀ t n, D ≤ t → t < D + 22 → hk_tw s t n → hk_tw s2 t n := fun t n t1 t2 ⟨b1, b2, b3, b4⟩ => ⟨by rw [e _ _ hD t1 t2]; exact b1, by rw [e _ _ hD t1 t2]; exact b2, by rw [e _ _ hD t1 t2]; exact b3, b4⟩
    refine Or.inr ⟨h1, by rw [e4]; exact h2, ⟨fun j2 hj2 => (h3 j2 hj2).elim fun n hn => ⟨n, ft _ n (by omega) (by omega) hn⟩, ft _ 4 (by omega) (by omega) h4, ft _ 4 (by omega) (by omega) h5⟩, fun a i q hl => ?_, a, b, r, hk_RI_eq h7 (fun q hq => er q hq)⟩
    have ha := hk_LP_b hl
    rw [e _ _ hD (by omega) (by omega), h6 a i q hl]
    exact (er q ha.2.1).symm
/-- an image is kept at D -/
theorem hk_IS_img {s s1 s2 s3 : Nat → Nat → Int32} {j j2 D D2 : Nat} (h1 : hk_TW s) (h2 : hk_Rel s 1 (s 41)) (h3 : ∃ a b r, hk_RI (s 41) a b r) (hI : hk_Img s j2 D2) (hj : j < 2 ∧ j2 < 2 ∧ j ≠ j2) (hD : D = 51 ∨ D = 73) (hne : D2 ≠ D) (o : ∀ a x, (a < D ∨ D + 22 ≤ a) → s1 a x = s a x) (f : ∀ i, i < 9 → s1 (D + 1 + 2 * i) 0 = nI (hk_mo (2 + 2 * i)) ∧ s1 (D + 1 + 2 * i) 1 = nI (hk_co (2 + 2 * i))) (hA : hk_cpA 1 D s1 s2) (m1 : ∀ p q, p ≠ 43 → p ≠ 44 → s3 p q = s2 p q) (m2 : s3 44 j = 1) (m3 : ∀ i, i ≠ j → s3 44 i = s2 44 i) (m4 : ∀ q, q < 2448 → s3 43 (2448 * j + q) = s2 41 q) (m5 : ∀ q, q < 2448 * j ∨ 2448 * j + 2448 ≤ q → s3 43 q = s2 43 q) : hk_TW s3 ∧ hk_Rel s3 1 (s3 41) ∧ (∃ a b r, hk_RI (s3 41) a b r) ∧ hk_Img s3 j D ∧ hk_Img s3 j2 D2 := by
  have o2 : ∀ p q, p < D ∨ D + 22 ≤ p → s2 p q = s p q := fun p q hp => (hA.1 p q hp).trans (o p q hp)
  have o3 : ∀ p q, p ≠ 43 → p ≠ 44 → p < D ∨ D + 22 ≤ p → s3 p q = s p q := fun p q h43 h44 hp => (m1 p q h43 h44).trans (o2 p q hp)
  have e41 : ∀ q, s3 41 q = s 41 q := fun q => o3 41 q (by omega) (by omega) (by omega)
  have er : ∀ q, q < 2448 → hk_rowj s3 j q = s 41 q := fun q hq => (m4 q hq).trans (o2 41 q (by omega))
  obtain ⟨a, b, r, h3⟩ := h3
  have tw : ∀ i, i < 9 → ∀ n, hk_tw s (1 + 1 + 2 * i) n → hk_tw s3 (D + 1 + 2 * i) n := fun i hi n ⟨b1, b2, b3, b4⟩ => by
    have hmo : hk_mo (D + 1 + 2 * i) = hk_mo (1 + 1 + 2 * i) := by
      rcases hD with rfl | rfl
      · exact hk_f9x (P := fun i => hk_mo (51 + 1 + 2 * i) = hk_mo (1 + 1 + 2 * i)) rfl rfl rfl rfl rfl rfl rfl rfl rfl hi
      · exact hk_f9x (P := fun i => hk_mo (73 + 1 + 2 * i) = hk_mo (1 + 1 + 2 * i)) rfl rfl rfl rfl rfl rfl rfl rfl rfl hi
    have hco : hk_co (D + 1 + 2 * i) = hk_co (1 + 1 + 2 * i) := by
      rcases hD with rfl | rfl
      · exact hk_f9x (P := fun i => hk_co (51 + 1 + 2 * i) = hk_co (1 + 1 + 2 * i)) rfl rfl rfl rfl rfl rfl rfl rfl rfl hi
      · exact hk_f9x (P := fun i => hk_co (73 + 1 + 2 * i) = hk_co (1 + 1 + 2 * i)) rfl rfl rfl rfl rfl rfl rfl rfl rfl hi
    refine ⟨?_, ?_, ?_, by rw [hmo]; exact b4⟩
    · rw [m1 _ _ (by omega) (by omega), hA.2.1 i hi 0 (by omega), hmo]; exact (f i hi).1
    · rw [m1 _ _ (by omega) (by omega), hA.2.1 i hi 1 (by omega), hco]; exact (f i hi).2
    · rw [m1 _ _ (by omega) (by omega), (hA.2.2.1 i hi).1, o _ _ (by omega)]; exact b3
  refine ⟨hk_TW_fr h1 (fun t q ht => by unfold hk_tb at ht; exact o3 t q (by omega) (by omega) (by omega)), fun a i q hl => ?_, ⟨a, b, r, hk_RI_eq h3 (fun q _ => e41 q)⟩, Or.inr ⟨hD, m2, ⟨fun i hi => ?_, tw 3 (by omega) 4 h1.2.1, tw 4 (by omega) 4 h1.2.2⟩, fun a i q hl => ?_, a, b, r, hk_RI_eq h3 er⟩, ?_⟩
  · have hb := hk_LP_b hl
    rw [e41, o3 _ _ (by omega) (by omega) (by omega)]
    exact h2 a i q hl
  · obtain ⟨n, hn⟩ := h1.1 (1 + 1 + 2 * i) (by unfold hk_tb; omega)
    exact ⟨n, tw i hi n hn⟩
  · have hb := hk_LP_b hl
    rw [er q (by omega), m1 _ _ (by omega) (by omega), hk_cpA_LP hA hl, o _ _ (by omega)]
    exact h2 a i q hl
  · have hD2 : D2 = 0 ∨ D2 = 51 ∨ D2 = 73 := by
      rcases hI with ⟨e, _⟩ | ⟨e, _⟩ <;> omega
    refine hk_Img_fo hI (fun p q z0 p1 p2 => o3 p q (by omega) (by omega) (by omega)) ?_ (fun q hq => ?_)
    · rw [m3 j2 (by omega)]; exact o2 _ _ (by omega)
    · rw [m5 _ (by omega)]; exact o2 _ _ (by omega)
section HKE9
variable {d n : Nat} {v w x y z : Int32} {s : Nat → Nat → Int32} {lm : Nat → Nat → Int64} {i0 i1 b : Nat} {al : List Nat} {k : Option Value → hk_H → Prop}
theorem hk_img_f {j D : Nat} (hI : hk_Img s j D) (hD : D ≠ 0) : ∀ i, i < 9 → s (D + 1 + 2 * i) 0 = nI (hk_mo (2 + 2 * i)) ∧ s (D + 1 + 2 * i) 1 = nI (hk_co (2 + 2 * i)) := fun i hi => by
  rcases hI with ⟨e0, _⟩ | ⟨eD, _, ⟨t1, _⟩, _⟩
  · exact absurd e0 hD
  obtain ⟨n, b1, b2, _⟩ := t1 i hi
  have hmo : hk_mo (D + 1 + 2 * i) = hk_mo (2 + 2 * i) := by
    rcases eD with rfl | rfl
    · exact hk_f9x (P := fun i => hk_mo (51 + 1 + 2 * i) = hk_mo (2 + 2 * i)) rfl rfl rfl rfl rfl rfl rfl rfl rfl hi
    · exact hk_f9x (P := fun i => hk_mo (73 + 1 + 2 * i) = hk_mo (2 + 2 * i)) rfl rfl rfl rfl rfl rfl rfl rfl rfl hi
  have hco : hk_co (D + 1 + 2 * i) = hk_co (2 + 2 * i) := by
    rcases eD with rfl | rfl
    · exact hk_f9x (P := fun i => hk_co (51 + 1 + 2 * i) = hk_co (2 + 2 * i)) rfl rfl rfl rfl rfl rfl rfl rfl rfl hi
    · exact hk_f9x (P := fun i => hk_co (73 + 1 + 2 * i) = hk_co (2 + 2 * i)) rfl rfl rfl rfl rfl rfl rfl rfl rfl hi
  exact ⟨by rw [← hmo]; exact b1, by rw [← hco]; exact b2⟩
theorem hk_img_S {i0 i1 : Nat} (hi : hk_IS s i0 i1) : ∀ j, j < 9 → ∃ n, hk_tw s (1 + 1 + 2 * j) n := fun j hj => hi.1.1 _ (by unfold hk_tb; omega)
/-- the reference's half -/
theorem hk_img_fin {s1 s2 : Nat → Nat → Int32} {i0 i1 j0 j1 j D : Nat} (hi : hk_IS s i0 i1) (hj : j < 2) (hD : D = 51 ∨ D = 73) (o : ∀ a x, (a < D ∨ D + 22 ≤ a) → s1 a x = s a x) (f : ∀ i, i < 9 → s1 (D + 1 + 2 * i) 0 = nI (hk_mo (2 + 2 * i)) ∧ s1 (D + 1 + 2 * i) 1 = nI (hk_co (2 + 2 * i))) (hA : hk_cpA 1 D s1 s2) (hc : hk_cfg j0 j1 b al) (hJ : j = 0 ∧ j0 = D ∧ j1 = i1 ∧ i1 ≠ D ∨ j = 1 ∧ j1 = D ∧ j0 = i0 ∧ i0 ≠ D) : hk_Cl 1000 217 [.ref 40, .int (nI j)] (s2, lm, hk_RH j0 j1 b, al) (fun r2 h2 => ∃ y, r2 = some (.int y) ∧ (True → 1 = y) ∧ hk_Inv h2) := by
  refine m_image (d := 998) (fun hb => ?_) (fun i ei hi2 s3 m1 m2 m3 m4 m5 => ⟨1, rfl, fun _ => rfl, hk_Inv_mk hc ?_⟩)
  · exfalso
    refine hb ⟨nI_pos (by omega), fun q => ?_⟩
    have q : nI 1 < nI j := q
    rw [nI_ltI (by omega) (by omega)] at q
    omega
  · have e := hk_same (z := nI j) rfl ei (by omega) (by omega)
    subst e
    obtain ⟨h1, h2, h3, h4, h5⟩ := hi
    rcases hJ with ⟨rfl, rfl, rfl, hne⟩ | ⟨rfl, rfl, rfl, hne⟩
    · obtain ⟨g1, g2, g3, g4, g5⟩ := hk_IS_img h1 h2 h3 h5 (by omega) hD hne o f hA m1 m2 m3 m4 m5
      exact ⟨g1, g2, g3, g4, g5⟩
    · obtain ⟨g1, g2, g3, g4, g5⟩ := hk_IS_img h1 h2 h3 h4 (by omega) hD hne o f hA m1 m2 m3 m4 m5
      exact ⟨g1, g2, g3, g5, g4⟩
theorem hk_upA0 : hk_up hk_A0 51 := ⟨by decide, by decide, by decide⟩
theorem hk_upA0b : hk_up (hk_A0 ++ [95]) 51 := ⟨by decide, by decide, by decide⟩
theorem hk_upA1 : hk_up (hk_A0 ++ hk_A1) 73 := ⟨by decide, by decide, by decide⟩
theorem hk_upA1b : hk_up (hk_A0 ++ [95] ++ hk_A1) 73 := ⟨by decide, by decide, by decide⟩
theorem hk_upA1c : hk_up (hk_A0 ++ hk_A1 ++ [95]) 73 := ⟨by decide, by decide, by decide⟩
theorem q_image : hk_SI 123 217 [.int z] True := by
  rintro h ⟨s, lm, i0, i1, b, al, rfl, hc, hi⟩
  by_cases hb : hk_rg z 0 1
  rotate_left
  · exact c_imgB (d := 998) hb ⟨_, rfl, m_image (d := 998) (fun _ => ⟨_, rfl, fun _ => rfl, hk_Inv_mk hc hi⟩) (fun j e hj => absurd (show hk_rg z 0 1 from by
      rw [e]
      exact ⟨nI_pos (by omega), fun q => by
        have q : nI 1 < nI j := q
        rw [nI_ltI (by omega) (by omega)] at q
        omega⟩) hb)⟩
  obtain ⟨j, hj, rfl⟩ := hk_rng (n := 1) (by decide) hb.1 hb.2
  have hI0 := hi.2.2.2.1
  have hI1 := hi.2.2.2.2
  have hS := hk_img_S hi
  have ofc : ∀ {D : Nat} (a x : Nat), (a < D ∨ D + 22 ≤ a) → s a x = s a x := fun _ _ _ => rfl
  have hmo : ∀ {j D : Nat}, hk_Img s j D → D ≠ 0 → ∀ i, i < 9 → s (D + 1 + 2 * i) 0 = nI (hk_mo (2 + 2 * i)) := fun h h0 i hi => (hk_img_f h h0 i hi).1
  have hc2 := hc
  unfold hk_cfg at hc2
  match j, hj with
  | 0, _ =>
    rcases hc2 with ⟨rfl, rfl, hl⟩ | ⟨⟨rfl, rfl⟩ | ⟨rfl, rfl⟩, hl⟩ | ⟨⟨rfl, rfl⟩ | ⟨rfl, rfl⟩, hl⟩
    · rcases hl with ⟨rfl, rfl⟩ | ⟨rfl, rfl⟩
      · refine c_imgN_0_0_0 (d := 996) hk_upA0 hS (fun s1 s2 al2 _ o f hA ea => ⟨_, rfl, hk_img_fin hi (by omega) (Or.inl rfl) (fun a x h => o a x (by omega)) f hA ?_ (by omega)⟩)
        subst ea; exact Or.inr (Or.inl ⟨Or.inl ⟨rfl, rfl⟩, Or.inl ⟨rfl, rfl⟩⟩)
      · refine c_imgN_0_0_0 (d := 996) hk_upA0b hS (fun s1 s2 al2 _ o f hA ea => ⟨_, rfl, hk_img_fin hi (by omega) (Or.inl rfl) (fun a x h => o a x (by omega)) f hA ?_ (by omega)⟩)
        subst ea; exact Or.inr (Or.inl ⟨Or.inl ⟨rfl, rfl⟩, Or.inr ⟨rfl, Or.inl rfl⟩⟩)
    · exact c_imgC_51_0_0 (d := 996) hS (hmo hI0 (by omega)) (fun s2 hA => ⟨_, rfl, hk_img_fin hi (by omega) (Or.inl rfl) ofc (hk_img_f hI0 (by omega)) hA hc (by omega)⟩)
    · rcases hl with ⟨rfl, rfl⟩ | ⟨rfl, rfl | rfl⟩
      · refine c_imgN_0_51_0 (d := 996) hk_upA1 hS (fun s1 s2 al2 o f hA ea => ⟨_, rfl, hk_img_fin hi (by omega) (Or.inr rfl) (fun a x h => o a x (by omega)) f hA ?_ (by omega)⟩)
        subst ea; exact Or.inr (Or.inr ⟨Or.inr ⟨rfl, rfl⟩, Or.inl ⟨rfl, rfl⟩⟩)
      · refine c_imgN_0_51_0 (d := 996) hk_upA1b hS (fun s1 s2 al2 o f hA ea => ⟨_, rfl, hk_img_fin hi (by omega) (Or.inr rfl) (fun a x h => o a x (by omega)) f hA ?_ (by omega)⟩)
        subst ea; exact Or.inr (Or.inr ⟨Or.inr ⟨rfl, rfl⟩, Or.inr ⟨rfl, Or.inl rfl⟩⟩)
      · refine c_imgN_0_51_0 (d := 996) hk_upA1c hS (fun s1 s2 al2 o f hA ea => ⟨_, rfl, hk_img_fin hi (by omega) (Or.inr rfl) (fun a x h => o a x (by omega)) f hA ?_ (by omega)⟩)
        subst ea; exact Or.inr (Or.inr ⟨Or.inr ⟨rfl, rfl⟩, Or.inr ⟨rfl, Or.inr (Or.inl rfl)⟩⟩)
    · exact c_imgC_51_73_0 (d := 996) hS (hmo hI0 (by omega)) (fun s2 hA => ⟨_, rfl, hk_img_fin hi (by omega) (Or.inl rfl) ofc (hk_img_f hI0 (by omega)) hA hc (by omega)⟩)
    · exact c_imgC_73_51_0 (d := 996) hS (hmo hI0 (by omega)) (fun s2 hA => ⟨_, rfl, hk_img_fin hi (by omega) (Or.inr rfl) ofc (hk_img_f hI0 (by omega)) hA hc (by omega)⟩)
  | 1, _ =>
    rcases hc2 with ⟨rfl, rfl, hl⟩ | ⟨⟨rfl, rfl⟩ | ⟨rfl, rfl⟩, hl⟩ | ⟨⟨rfl, rfl⟩ | ⟨rfl, rfl⟩, hl⟩
    · rcases hl with ⟨rfl, rfl⟩ | ⟨rfl, rfl⟩
      · refine c_imgN_0_0_1 (d := 996) hk_upA0 hS (fun s1 s2 al2 _ o f hA ea => ⟨_, rfl, hk_img_fin hi (by omega) (Or.inl rfl) (fun a x h => o a x (by omega)) f hA ?_ (by omega)⟩)
        subst ea; exact Or.inr (Or.inl ⟨Or.inr ⟨rfl, rfl⟩, Or.inl ⟨rfl, rfl⟩⟩)
      · refine c_imgN_0_0_1 (d := 996) hk_upA0b hS (fun s1 s2 al2 _ o f hA ea => ⟨_, rfl, hk_img_fin hi (by omega) (Or.inl rfl) (fun a x h => o a x (by omega)) f hA ?_ (by omega)⟩)
        subst ea; exact Or.inr (Or.inl ⟨Or.inr ⟨rfl, rfl⟩, Or.inr ⟨rfl, Or.inl rfl⟩⟩)
    · rcases hl with ⟨rfl, rfl⟩ | ⟨rfl, rfl | rfl⟩
      · refine c_imgN_51_0_1 (d := 996) hk_upA1 hS (fun s1 s2 al2 o f hA ea => ⟨_, rfl, hk_img_fin hi (by omega) (Or.inr rfl) (fun a x h => o a x (by omega)) f hA ?_ (by omega)⟩)
        subst ea; exact Or.inr (Or.inr ⟨Or.inl ⟨rfl, rfl⟩, Or.inl ⟨rfl, rfl⟩⟩)
      · refine c_imgN_51_0_1 (d := 996) hk_upA1b hS (fun s1 s2 al2 o f hA ea => ⟨_, rfl, hk_img_fin hi (by omega) (Or.inr rfl) (fun a x h => o a x (by omega)) f hA ?_ (by omega)⟩)
        subst ea; exact Or.inr (Or.inr ⟨Or.inl ⟨rfl, rfl⟩, Or.inr ⟨rfl, Or.inl rfl⟩⟩)
      · refine c_imgN_51_0_1 (d := 996) hk_upA1c hS (fun s1 s2 al2 o f hA ea => ⟨_, rfl, hk_img_fin hi (by omega) (Or.inr rfl) (fun a x h => o a x (by omega)) f hA ?_ (by omega)⟩)
        subst ea; exact Or.inr (Or.inr ⟨Or.inl ⟨rfl, rfl⟩, Or.inr ⟨rfl, Or.inr (Or.inl rfl)⟩⟩)
    · exact c_imgC_0_51_1 (d := 996) hS (hmo hI1 (by omega)) (fun s2 hA => ⟨_, rfl, hk_img_fin hi (by omega) (Or.inl rfl) ofc (hk_img_f hI1 (by omega)) hA hc (by omega)⟩)
    · exact c_imgC_51_73_1 (d := 996) hS (hmo hI1 (by omega)) (fun s2 hA => ⟨_, rfl, hk_img_fin hi (by omega) (Or.inr rfl) ofc (hk_img_f hI1 (by omega)) hA hc (by omega)⟩)
    · exact c_imgC_73_51_1 (d := 996) hS (hmo hI1 (by omega)) (fun s2 hA => ⟨_, rfl, hk_img_fin hi (by omega) (Or.inl rfl) ofc (hk_img_f hI1 (by omega)) hA hc (by omega)⟩)
end HKE9
