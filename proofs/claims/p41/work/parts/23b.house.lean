/-! ===== images: the house at 51 and at 73 ===== -/
def hk_tb2 (t : Nat) : Prop := t = 58 ∨ t = 60 ∨ t = 80 ∨ t = 82
section HKN5
variable {d : Nat} {s : Nat → Nat → Int32} {lm : Nat → Nat → Int64} {rr : Nat → Nat → Nat} {al : List Nat} {k : Option Value → hk_H → Prop}
theorem n_table_52 (u : hk_up al 53) (h1 : ∀ s2 lm2 rr2 al2, s2 = hk_z (hk_u2 (hk_u2 s 52 0 6) 52 1 9) 53 0 → lm2 = hk_z lm 53 0 → rr2 = hk_uR (hk_z rr 53 0) 52 2 53 → al2 = al ++ [53] → k none (s2, lm2, rr2, al2)) : hk_Cl (d + 1) 2 [.ref 52, .int 6, .int 9] (s, lm, rr, al) k := by
  refine hk_mth hk_m2 rfl rfl (n := 1000) ?_
  refine hk_nai 54 rfl rfl u rfl rfl ?_
  exact h1 _ _ _ _ rfl rfl rfl rfl
theorem n_table_54 (u : hk_up al 55) (h1 : ∀ s2 lm2 rr2 al2, s2 = hk_z (hk_u2 (hk_u2 s 54 0 96) 54 1 6) 55 0 → lm2 = hk_z lm 55 0 → rr2 = hk_uR (hk_z rr 55 0) 54 2 55 → al2 = al ++ [55] → k none (s2, lm2, rr2, al2)) : hk_Cl (d + 1) 2 [.ref 54, .int 96, .int 6] (s, lm, rr, al) k := by
  refine hk_mth hk_m2 rfl rfl (n := 1000) ?_
  refine hk_nai 576 rfl rfl u rfl rfl ?_
  exact h1 _ _ _ _ rfl rfl rfl rfl
theorem n_table_56 (u : hk_up al 57) (h1 : ∀ s2 lm2 rr2 al2, s2 = hk_z (hk_u2 (hk_u2 s 56 0 150) 56 1 5) 57 0 → lm2 = hk_z lm 57 0 → rr2 = hk_uR (hk_z rr 57 0) 56 2 57 → al2 = al ++ [57] → k none (s2, lm2, rr2, al2)) : hk_Cl (d + 1) 2 [.ref 56, .int 150, .int 5] (s, lm, rr, al) k := by
  refine hk_mth hk_m2 rfl rfl (n := 1000) ?_
  refine hk_nai 750 rfl rfl u rfl rfl ?_
  exact h1 _ _ _ _ rfl rfl rfl rfl
theorem n_table_58 (u : hk_up al 59) (h1 : ∀ s2 lm2 rr2 al2, s2 = hk_z (hk_u2 (hk_u2 s 58 0 4) 58 1 3) 59 0 → lm2 = hk_z lm 59 0 → rr2 = hk_uR (hk_z rr 59 0) 58 2 59 → al2 = al ++ [59] → k none (s2, lm2, rr2, al2)) : hk_Cl (d + 1) 2 [.ref 58, .int 4, .int 3] (s, lm, rr, al) k := by
  refine hk_mth hk_m2 rfl rfl (n := 1000) ?_
  refine hk_nai 12 rfl rfl u rfl rfl ?_
  exact h1 _ _ _ _ rfl rfl rfl rfl
theorem n_table_60 (u : hk_up al 61) (h1 : ∀ s2 lm2 rr2 al2, s2 = hk_z (hk_u2 (hk_u2 s 60 0 4) 60 1 61) 61 0 → lm2 = hk_z lm 61 0 → rr2 = hk_uR (hk_z rr 61 0) 60 2 61 → al2 = al ++ [61] → k none (s2, lm2, rr2, al2)) : hk_Cl (d + 1) 2 [.ref 60, .int 4, .int 61] (s, lm, rr, al) k := by
  refine hk_mth hk_m2 rfl rfl (n := 1000) ?_
  refine hk_nai 244 rfl rfl u rfl rfl ?_
  exact h1 _ _ _ _ rfl rfl rfl rfl
theorem n_table_62 (u : hk_up al 63) (h1 : ∀ s2 lm2 rr2 al2, s2 = hk_z (hk_u2 (hk_u2 s 62 0 4) 62 1 3) 63 0 → lm2 = hk_z lm 63 0 → rr2 = hk_uR (hk_z rr 63 0) 62 2 63 → al2 = al ++ [63] → k none (s2, lm2, rr2, al2)) : hk_Cl (d + 1) 2 [.ref 62, .int 4, .int 3] (s, lm, rr, al) k := by
  refine hk_mth hk_m2 rfl rfl (n := 1000) ?_
  refine hk_nai 12 rfl rfl u rfl rfl ?_
  exact h1 _ _ _ _ rfl rfl rfl rfl
theorem n_table_64 (u : hk_up al 65) (h1 : ∀ s2 lm2 rr2 al2, s2 = hk_z (hk_u2 (hk_u2 s 64 0 20) 64 1 2) 65 0 → lm2 = hk_z lm 65 0 → rr2 = hk_uR (hk_z rr 65 0) 64 2 65 → al2 = al ++ [65] → k none (s2, lm2, rr2, al2)) : hk_Cl (d + 1) 2 [.ref 64, .int 20, .int 2] (s, lm, rr, al) k := by
  refine hk_mth hk_m2 rfl rfl (n := 1000) ?_
  refine hk_nai 40 rfl rfl u rfl rfl ?_
  exact h1 _ _ _ _ rfl rfl rfl rfl
theorem n_table_66 (u : hk_up al 67) (h1 : ∀ s2 lm2 rr2 al2, s2 = hk_z (hk_u2 (hk_u2 s 66 0 8) 66 1 2) 67 0 → lm2 = hk_z lm 67 0 → rr2 = hk_uR (hk_z rr 67 0) 66 2 67 → al2 = al ++ [67] → k none (s2, lm2, rr2, al2)) : hk_Cl (d + 1) 2 [.ref 66, .int 8, .int 2] (s, lm, rr, al) k := by
  refine hk_mth hk_m2 rfl rfl (n := 1000) ?_
  refine hk_nai 16 rfl rfl u rfl rfl ?_
  exact h1 _ _ _ _ rfl rfl rfl rfl
theorem n_table_68 (u : hk_up al 69) (h1 : ∀ s2 lm2 rr2 al2, s2 = hk_z (hk_u2 (hk_u2 s 68 0 8) 68 1 3) 69 0 → lm2 = hk_z lm 69 0 → rr2 = hk_uR (hk_z rr 69 0) 68 2 69 → al2 = al ++ [69] → k none (s2, lm2, rr2, al2)) : hk_Cl (d + 1) 2 [.ref 68, .int 8, .int 3] (s, lm, rr, al) k := by
  refine hk_mth hk_m2 rfl rfl (n := 1000) ?_
  refine hk_nai 24 rfl rfl u rfl rfl ?_
  exact h1 _ _ _ _ rfl rfl rfl rfl
theorem n_table_74 (u : hk_up al 75) (h1 : ∀ s2 lm2 rr2 al2, s2 = hk_z (hk_u2 (hk_u2 s 74 0 6) 74 1 9) 75 0 → lm2 = hk_z lm 75 0 → rr2 = hk_uR (hk_z rr 75 0) 74 2 75 → al2 = al ++ [75] → k none (s2, lm2, rr2, al2)) : hk_Cl (d + 1) 2 [.ref 74, .int 6, .int 9] (s, lm, rr, al) k := by
  refine hk_mth hk_m2 rfl rfl (n := 1000) ?_
  refine hk_nai 54 rfl rfl u rfl rfl ?_
  exact h1 _ _ _ _ rfl rfl rfl rfl
theorem n_table_76 (u : hk_up al 77) (h1 : ∀ s2 lm2 rr2 al2, s2 = hk_z (hk_u2 (hk_u2 s 76 0 96) 76 1 6) 77 0 → lm2 = hk_z lm 77 0 → rr2 = hk_uR (hk_z rr 77 0) 76 2 77 → al2 = al ++ [77] → k none (s2, lm2, rr2, al2)) : hk_Cl (d + 1) 2 [.ref 76, .int 96, .int 6] (s, lm, rr, al) k := by
  refine hk_mth hk_m2 rfl rfl (n := 1000) ?_
  refine hk_nai 576 rfl rfl u rfl rfl ?_
  exact h1 _ _ _ _ rfl rfl rfl rfl
theorem n_table_78 (u : hk_up al 79) (h1 : ∀ s2 lm2 rr2 al2, s2 = hk_z (hk_u2 (hk_u2 s 78 0 150) 78 1 5) 79 0 → lm2 = hk_z lm 79 0 → rr2 = hk_uR (hk_z rr 79 0) 78 2 79 → al2 = al ++ [79] → k none (s2, lm2, rr2, al2)) : hk_Cl (d + 1) 2 [.ref 78, .int 150, .int 5] (s, lm, rr, al) k := by
  refine hk_mth hk_m2 rfl rfl (n := 1000) ?_
  refine hk_nai 750 rfl rfl u rfl rfl ?_
  exact h1 _ _ _ _ rfl rfl rfl rfl
theorem n_table_80 (u : hk_up al 81) (h1 : ∀ s2 lm2 rr2 al2, s2 = hk_z (hk_u2 (hk_u2 s 80 0 4) 80 1 3) 81 0 → lm2 = hk_z lm 81 0 → rr2 = hk_uR (hk_z rr 81 0) 80 2 81 → al2 = al ++ [81] → k none (s2, lm2, rr2, al2)) : hk_Cl (d + 1) 2 [.ref 80, .int 4, .int 3] (s, lm, rr, al) k := by
  refine hk_mth hk_m2 rfl rfl (n := 1000) ?_
  refine hk_nai 12 rfl rfl u rfl rfl ?_
  exact h1 _ _ _ _ rfl rfl rfl rfl
theorem n_table_82 (u : hk_up al 83) (h1 : ∀ s2 lm2 rr2 al2, s2 = hk_z (hk_u2 (hk_u2 s 82 0 4) 82 1 61) 83 0 → lm2 = hk_z lm 83 0 → rr2 = hk_uR (hk_z rr 83 0) 82 2 83 → al2 = al ++ [83] → k none (s2, lm2, rr2, al2)) : hk_Cl (d + 1) 2 [.ref 82, .int 4, .int 61] (s, lm, rr, al) k := by
  refine hk_mth hk_m2 rfl rfl (n := 1000) ?_
  refine hk_nai 244 rfl rfl u rfl rfl ?_
  exact h1 _ _ _ _ rfl rfl rfl rfl
theorem n_table_84 (u : hk_up al 85) (h1 : ∀ s2 lm2 rr2 al2, s2 = hk_z (hk_u2 (hk_u2 s 84 0 4) 84 1 3) 85 0 → lm2 = hk_z lm 85 0 → rr2 = hk_uR (hk_z rr 85 0) 84 2 85 → al2 = al ++ [85] → k none (s2, lm2, rr2, al2)) : hk_Cl (d + 1) 2 [.ref 84, .int 4, .int 3] (s, lm, rr, al) k := by
  refine hk_mth hk_m2 rfl rfl (n := 1000) ?_
  refine hk_nai 12 rfl rfl u rfl rfl ?_
  exact h1 _ _ _ _ rfl rfl rfl rfl
theorem n_table_86 (u : hk_up al 87) (h1 : ∀ s2 lm2 rr2 al2, s2 = hk_z (hk_u2 (hk_u2 s 86 0 20) 86 1 2) 87 0 → lm2 = hk_z lm 87 0 → rr2 = hk_uR (hk_z rr 87 0) 86 2 87 → al2 = al ++ [87] → k none (s2, lm2, rr2, al2)) : hk_Cl (d + 1) 2 [.ref 86, .int 20, .int 2] (s, lm, rr, al) k := by
  refine hk_mth hk_m2 rfl rfl (n := 1000) ?_
  refine hk_nai 40 rfl rfl u rfl rfl ?_
  exact h1 _ _ _ _ rfl rfl rfl rfl
theorem n_table_88 (u : hk_up al 89) (h1 : ∀ s2 lm2 rr2 al2, s2 = hk_z (hk_u2 (hk_u2 s 88 0 8) 88 1 2) 89 0 → lm2 = hk_z lm 89 0 → rr2 = hk_uR (hk_z rr 89 0) 88 2 89 → al2 = al ++ [89] → k none (s2, lm2, rr2, al2)) : hk_Cl (d + 1) 2 [.ref 88, .int 8, .int 2] (s, lm, rr, al) k := by
  refine hk_mth hk_m2 rfl rfl (n := 1000) ?_
  refine hk_nai 16 rfl rfl u rfl rfl ?_
  exact h1 _ _ _ _ rfl rfl rfl rfl
theorem n_table_90 (u : hk_up al 91) (h1 : ∀ s2 lm2 rr2 al2, s2 = hk_z (hk_u2 (hk_u2 s 90 0 8) 90 1 3) 91 0 → lm2 = hk_z lm 91 0 → rr2 = hk_uR (hk_z rr 91 0) 90 2 91 → al2 = al ++ [91] → k none (s2, lm2, rr2, al2)) : hk_Cl (d + 1) 2 [.ref 90, .int 8, .int 3] (s, lm, rr, al) k := by
  refine hk_mth hk_m2 rfl rfl (n := 1000) ?_
  refine hk_nai 24 rfl rfl u rfl rfl ?_
  exact h1 _ _ _ _ rfl rfl rfl rfl
end HKN5
section HKG5
variable {d t n : Nat} {r c v : Int32} {s : Nat → Nat → Int32} {lm : Nat → Nat → Int64} {rr : Nat → Nat → Nat} {al : List Nat} {k : Option Value → hk_H → Prop}
theorem hk_cell5 (ht : hk_tb2 t) (hw : hk_tw s t n) {i j m : Nat} (hi : i < m) (hm : m ≤ hk_mo t) (hj : j < hk_co t) : vp_in (nI i * s t 1 + nI j) (hk_mo t * hk_co t) ∧ (nI i * s t 1 + nI j).toNatClampNeg = i * hk_co t + j := by
  rw [hw.2.1]
  have h1 : hk_mo t * hk_co t < 2 ^ 30 := by rcases ht with rfl | rfl | rfl | rfl <;> decide
  obtain ⟨h2, h3, h4, h5⟩ := hk_ixin hi hm hj h1
  exact ⟨h4, h5⟩
theorem hk_mo35 (ht : hk_tb2 t) : hk_mo t < 2 ^ 30 ∧ hk_co t < 2 ^ 30 := by
  rcases ht with rfl | rfl | rfl | rfl <;> decide
theorem hk_co5 (ht : hk_tb2 t) : 2 ≤ hk_co t ∧ hk_co t < 100 := by
  rcases ht with rfl | rfl | rfl | rfl <;> decide
theorem gg_full (ht : hk_tb2 t) (h1 : s t 0 ≤ s t 3 → k (some (.int 1)) (s, lm, hk_uR rr t 2 (t + 1), al)) (h0 : s t 3 < s t 0 → k (some (.int 0)) (s, lm, hk_uR rr t 2 (t + 1), al)) : hk_Cl (d + 1) 4 [.ref t] (s, lm, hk_uR rr t 2 (t + 1), al) k := by
  rcases ht with rfl | rfl | rfl | rfl
  all_goals
    refine hk_mth hk_m4 rfl rfl (n := 1000) ?_
    refine And.intro (fun c1 => ?_) (fun c1 => ?_)
    · exact And.intro (Or.inl rfl) (h0 c1)
    · exact And.intro (Or.inr rfl) (h1 (Int32.not_lt.mp c1))
theorem gg_put_in (ht : hk_tb2 t) (hw : hk_tw s t n) {i j : Nat} (hi : i < hk_mo t) (hj : j < hk_co t) (h1 : k none (hk_u2 s (t + 1) (i * hk_co t + j) v, lm, hk_uR rr t 2 (t + 1), al)) : hk_Cl (d + 1) 5 [.ref t, .int (nI i), .int (nI j), .int v] (s, lm, hk_uR rr t 2 (t + 1), al) k := by
  obtain ⟨g1, g2⟩ := hk_cell5 ht hw hi (Nat.le_refl _) hj
  obtain ⟨g3, g4⟩ := hk_mo35 ht
  have a1 : ¬ nI i < 0 := nI_pos (by omega)
  have a2 : ¬ s t 0 ≤ nI i := by rw [hw.1]; exact hk_nlt hi (by omega)
  have a3 : ¬ nI j < 0 := nI_pos (by omega)
  have a4 : ¬ s t 1 ≤ nI j := by rw [hw.2.1]; exact hk_nlt hj (by omega)
  rw [← g2] at h1
  rcases ht with rfl | rfl | rfl | rfl
  all_goals
    refine hk_mth hk_m5 rfl rfl (n := 1000) ?_
    refine And.intro (fun hc => absurd hc a1) (fun _ => ?_)
    refine And.intro (fun hc => absurd hc a2) (fun _ => ?_)
    refine And.intro (fun hc => absurd hc a3) (fun _ => ?_)
    refine And.intro (fun hc => absurd hc a4) (fun _ => ?_)
    exact And.intro g1 h1
theorem gg_put_out (ht : hk_tb2 t) (hw : hk_tw s t n) {i j : Nat} (hi : i < hk_mo t) (hj : ¬ j < hk_co t) (hj2 : j < 2 ^ 30) (h1 : k none (s, lm, hk_uR rr t 2 (t + 1), al)) : hk_Cl (d + 1) 5 [.ref t, .int (nI i), .int (nI j), .int v] (s, lm, hk_uR rr t 2 (t + 1), al) k := by
  obtain ⟨g3, g4⟩ := hk_mo35 ht
  have a1 : ¬ nI i < 0 := nI_pos (by omega)
  have a2 : ¬ s t 0 ≤ nI i := by rw [hw.1]; exact hk_nlt hi (by omega)
  have a3 : ¬ nI j < 0 := nI_pos (by omega)
  have a4 : s t 1 ≤ nI j := by rw [hw.2.1]; exact nI_le (by omega) (by omega)
  rcases ht with rfl | rfl | rfl | rfl
  all_goals
    refine hk_mth hk_m5 rfl rfl (n := 1000) ?_
    refine And.intro (fun hc => absurd hc a1) (fun _ => ?_)
    refine And.intro (fun hc => absurd hc a2) (fun _ => ?_)
    refine And.intro (fun hc => absurd hc a3) (fun _ => ?_)
    refine And.intro (fun _ => ?_) (fun hc => absurd a4 hc)
    exact h1
theorem gg_put_row {s2 : Nat → Nat → Int32} {f : Nat → Int32} {j : Nat} (ht : hk_tb2 t) (hw : hk_tw s t n) (hn : n < hk_mo t) (h : hk_adc s s2 t n (hk_co t) f) (hj : j < 5) (h1 : ∀ s3, hk_adc s s3 t n (hk_co t) (fun z => if z = j then v else f z) → k none (s3, lm, hk_uR rr t 2 (t + 1), al)) : hk_Cl (d + 1) 5 [.ref t, .int (nI n), .int (nI j), .int v] (s2, lm, hk_uR rr t 2 (t + 1), al) k := by
  by_cases hc : j < hk_co t
  · refine gg_put_in ht (hk_adc_tw h hw) hn hc (h1 _ ?_)
    have := hk_adc_put (v := v) h hc (by omega)
    rwa [if_neg (by omega)] at this
  · refine gg_put_out ht (hk_adc_tw h hw) hn hc (by omega) (h1 _ ⟨h.1, fun z hz => ?_⟩)
    dsimp only
    rw [if_neg (by omega)]
    exact h.2 z hz
theorem hk_ggadd_end {a1 a2 a3 a4 a5 : Int32} (hw : hk_tw s t n) (h1 : ∀ s2, hk_add s s2 t n [a1, a2, a3, a4, a5] → k (some (.int (nI n))) (s2, lm, hk_uR rr t 2 (t + 1), al)) (s2 : Nat → Nat → Int32) (h2 : hk_adc s s2 t n (hk_co t) (fun z => if z = 4 then a5 else if z = 3 then a4 else if z = 2 then a3 else if z = 1 then a2 else if z = 0 then a1 else 0)) : k (some (.int (nI n))) (hk_u2 s2 t 3 (s2 t 3 + 1), lm, hk_uR rr t 2 (t + 1), al) := by
  have e : s2 t 3 + 1 = nI (n + 1) := by rw [(hk_adc_tw h2 hw).2.2.1, nI_1]
  rw [e]
  refine h1 _ (hk_adc_end h2 fun j hj => ?_)
  match j with
  | 0 => rfl
  | 1 => rfl
  | 2 => rfl
  | 3 => rfl
  | 4 => rfl
  | j + 5 => simp
theorem gg_add_58 {a1 a2 a3 a4 a5 : Int32} (ht : hk_tb2 58) (hw : hk_tw s 58 n) (hn : n < hk_mo 58) (h1 : ∀ s2, hk_add s s2 58 n [a1, a2, a3, a4, a5] → k (some (.int (nI n))) (s2, lm, hk_uR rr 58 2 (58 + 1), al)) : hk_Cl (d + 2) 3 [.ref 58, .int a1, .int a2, .int a3, .int a4, .int a5] (s, lm, hk_uR rr 58 2 (58 + 1), al) k := by
  have hco := hk_co5 ht
  have hmo := hk_mo35 ht
  have fin := hk_ggadd_end hw h1
  refine hk_mth hk_m3 rfl rfl (n := 1000) ?_
  refine gg_full ht (fun hc => absurd hc (by rw [hw.1, hw.2.2.1]; exact hk_nlt hn (by omega))) (fun _ => ?_)
  refine And.intro (fun _ => ?_) (fun hc => absurd (by decide) hc)
  have loop : ∀ (q m : Nat), m + q = hk_co 58 → ∀ s2, hk_adc s s2 58 n m (fun _ => 0) → hk_Rn (d + 1) none hk_c3 (hk_sfx 19 hk_c3) [some (.ref 58), some (.int a1), some (.int a2), some (.int a3), some (.int a4), some (.int a5), some (.int (nI n)), some (.int (nI m))] [] (s2, lm, hk_uR rr 58 2 (58 + 1), al) k := by
    intro q
    induction q with
    | zero =>
      intro m hm s2 h2
      have hc1 : s2 58 1 ≤ nI m := by rw [(hk_adc_tw h2 hw).2.1]; exact nI_le (by omega) (by omega)
      refine hk_hd (n := 1000) (t := 19) rfl ?_
      refine And.intro (fun _ => ?_) (fun hc => absurd hc1 hc)
      rw [show m = hk_co 58 by omega] at h2
      refine gg_put_row (j := 0) ht hw hn h2 (by omega) fun s3 h3 => ?_
      refine gg_put_row (j := 1) ht hw hn h3 (by omega) fun s4 h4 => ?_
      refine gg_put_row (j := 2) ht hw hn h4 (by omega) fun s5 h5 => ?_
      refine gg_put_row (j := 3) ht hw hn h5 (by omega) fun s6 h6 => ?_
      refine gg_put_row (j := 4) ht hw hn h6 (by omega) fun s7 h7 => ?_
      exact fin s7 h7
    | succ q ih =>
      intro m hm s2 h2
      have hc1 : ¬ s2 58 1 ≤ nI m := by rw [(hk_adc_tw h2 hw).2.1]; exact hk_nlt (by omega) (by omega)
      refine hk_hd (n := 1000) (t := 19) rfl ?_
      refine And.intro (fun hc => absurd hc hc1) (fun _ => ?_)
      refine gg_put_in ht (hk_adc_tw h2 hw) hn (j := m) (by omega) ?_
      have h3 := hk_adc_put (v := 0) h2 (j := m) (by omega) (Nat.le_refl m)
      rw [if_pos rfl] at h3
      refine hk_Rn_cast (by rw [← nI_1]; rfl) (ih (m + 1) (by omega) _ ⟨h3.1, fun z hz => ?_⟩)
      rw [h3.2 z hz]
      dsimp only
      split <;> rfl
  have h0 : hk_adc s s 58 n 0 (fun _ => 0) := ⟨fun _ _ _ => rfl, fun j hj => absurd hj (Nat.not_lt_zero j)⟩
  exact hk_Rn_cast (by rw [← hw.2.2.1]; rfl) (loop _ 0 (Nat.zero_add _) s h0)
theorem gg_add_60 {a1 a2 a3 a4 a5 : Int32} (ht : hk_tb2 60) (hw : hk_tw s 60 n) (hn : n < hk_mo 60) (h1 : ∀ s2, hk_add s s2 60 n [a1, a2, a3, a4, a5] → k (some (.int (nI n))) (s2, lm, hk_uR rr 60 2 (60 + 1), al)) : hk_Cl (d + 2) 3 [.ref 60, .int a1, .int a2, .int a3, .int a4, .int a5] (s, lm, hk_uR rr 60 2 (60 + 1), al) k := by
  have hco := hk_co5 ht
  have hmo := hk_mo35 ht
  have fin := hk_ggadd_end hw h1
  refine hk_mth hk_m3 rfl rfl (n := 1000) ?_
  refine gg_full ht (fun hc => absurd hc (by rw [hw.1, hw.2.2.1]; exact hk_nlt hn (by omega))) (fun _ => ?_)
  refine And.intro (fun _ => ?_) (fun hc => absurd (by decide) hc)
  have loop : ∀ (q m : Nat), m + q = hk_co 60 → ∀ s2, hk_adc s s2 60 n m (fun _ => 0) → hk_Rn (d + 1) none hk_c3 (hk_sfx 19 hk_c3) [some (.ref 60), some (.int a1), some (.int a2), some (.int a3), some (.int a4), some (.int a5), some (.int (nI n)), some (.int (nI m))] [] (s2, lm, hk_uR rr 60 2 (60 + 1), al) k := by
    intro q
    induction q with
    | zero =>
      intro m hm s2 h2
      have hc1 : s2 60 1 ≤ nI m := by rw [(hk_adc_tw h2 hw).2.1]; exact nI_le (by omega) (by omega)
      refine hk_hd (n := 1000) (t := 19) rfl ?_
      refine And.intro (fun _ => ?_) (fun hc => absurd hc1 hc)
      rw [show m = hk_co 60 by omega] at h2
      refine gg_put_row (j := 0) ht hw hn h2 (by omega) fun s3 h3 => ?_
      refine gg_put_row (j := 1) ht hw hn h3 (by omega) fun s4 h4 => ?_
      refine gg_put_row (j := 2) ht hw hn h4 (by omega) fun s5 h5 => ?_
      refine gg_put_row (j := 3) ht hw hn h5 (by omega) fun s6 h6 => ?_
      refine gg_put_row (j := 4) ht hw hn h6 (by omega) fun s7 h7 => ?_
      exact fin s7 h7
    | succ q ih =>
      intro m hm s2 h2
      have hc1 : ¬ s2 60 1 ≤ nI m := by rw [(hk_adc_tw h2 hw).2.1]; exact hk_nlt (by omega) (by omega)
      refine hk_hd (n := 1000) (t := 19) rfl ?_
      refine And.intro (fun hc => absurd hc hc1) (fun _ => ?_)
      refine gg_put_in ht (hk_adc_tw h2 hw) hn (j := m) (by omega) ?_
      have h3 := hk_adc_put (v := 0) h2 (j := m) (by omega) (Nat.le_refl m)
      rw [if_pos rfl] at h3
      refine hk_Rn_cast (by rw [← nI_1]; rfl) (ih (m + 1) (by omega) _ ⟨h3.1, fun z hz => ?_⟩)
      rw [h3.2 z hz]
      dsimp only
      split <;> rfl
  have h0 : hk_adc s s 60 n 0 (fun _ => 0) := ⟨fun _ _ _ => rfl, fun j hj => absurd hj (Nat.not_lt_zero j)⟩
  exact hk_Rn_cast (by rw [← hw.2.2.1]; rfl) (loop _ 0 (Nat.zero_add _) s h0)
theorem gg_add_80 {a1 a2 a3 a4 a5 : Int32} (ht : hk_tb2 80) (hw : hk_tw s 80 n) (hn : n < hk_mo 80) (h1 : ∀ s2, hk_add s s2 80 n [a1, a2, a3, a4, a5] → k (some (.int (nI n))) (s2, lm, hk_uR rr 80 2 (80 + 1), al)) : hk_Cl (d + 2) 3 [.ref 80, .int a1, .int a2, .int a3, .int a4, .int a5] (s, lm, hk_uR rr 80 2 (80 + 1), al) k := by
  have hco := hk_co5 ht
  have hmo := hk_mo35 ht
  have fin := hk_ggadd_end hw h1
  refine hk_mth hk_m3 rfl rfl (n := 1000) ?_
  refine gg_full ht (fun hc => absurd hc (by rw [hw.1, hw.2.2.1]; exact hk_nlt hn (by omega))) (fun _ => ?_)
  refine And.intro (fun _ => ?_) (fun hc => absurd (by decide) hc)
  have loop : ∀ (q m : Nat), m + q = hk_co 80 → ∀ s2, hk_adc s s2 80 n m (fun _ => 0) → hk_Rn (d + 1) none hk_c3 (hk_sfx 19 hk_c3) [some (.ref 80), some (.int a1), some (.int a2), some (.int a3), some (.int a4), some (.int a5), some (.int (nI n)), some (.int (nI m))] [] (s2, lm, hk_uR rr 80 2 (80 + 1), al) k := by
    intro q
    induction q with
    | zero =>
      intro m hm s2 h2
      have hc1 : s2 80 1 ≤ nI m := by rw [(hk_adc_tw h2 hw).2.1]; exact nI_le (by omega) (by omega)
      refine hk_hd (n := 1000) (t := 19) rfl ?_
      refine And.intro (fun _ => ?_) (fun hc => absurd hc1 hc)
      rw [show m = hk_co 80 by omega] at h2
      refine gg_put_row (j := 0) ht hw hn h2 (by omega) fun s3 h3 => ?_
      refine gg_put_row (j := 1) ht hw hn h3 (by omega) fun s4 h4 => ?_
      refine gg_put_row (j := 2) ht hw hn h4 (by omega) fun s5 h5 => ?_
      refine gg_put_row (j := 3) ht hw hn h5 (by omega) fun s6 h6 => ?_
      refine gg_put_row (j := 4) ht hw hn h6 (by omega) fun s7 h7 => ?_
      exact fin s7 h7
    | succ q ih =>
      intro m hm s2 h2
      have hc1 : ¬ s2 80 1 ≤ nI m := by rw [(hk_adc_tw h2 hw).2.1]; exact hk_nlt (by omega) (by omega)
      refine hk_hd (n := 1000) (t := 19) rfl ?_
      refine And.intro (fun hc => absurd hc hc1) (fun _ => ?_)
      refine gg_put_in ht (hk_adc_tw h2 hw) hn (j := m) (by omega) ?_
      have h3 := hk_adc_put (v := 0) h2 (j := m) (by omega) (Nat.le_refl m)
      rw [if_pos rfl] at h3
      refine hk_Rn_cast (by rw [← nI_1]; rfl) (ih (m + 1) (by omega) _ ⟨h3.1, fun z hz => ?_⟩)
      rw [h3.2 z hz]
      dsimp only
      split <;> rfl
  have h0 : hk_adc s s 80 n 0 (fun _ => 0) := ⟨fun _ _ _ => rfl, fun j hj => absurd hj (Nat.not_lt_zero j)⟩
  exact hk_Rn_cast (by rw [← hw.2.2.1]; rfl) (loop _ 0 (Nat.zero_add _) s h0)
theorem gg_add_82 {a1 a2 a3 a4 a5 : Int32} (ht : hk_tb2 82) (hw : hk_tw s 82 n) (hn : n < hk_mo 82) (h1 : ∀ s2, hk_add s s2 82 n [a1, a2, a3, a4, a5] → k (some (.int (nI n))) (s2, lm, hk_uR rr 82 2 (82 + 1), al)) : hk_Cl (d + 2) 3 [.ref 82, .int a1, .int a2, .int a3, .int a4, .int a5] (s, lm, hk_uR rr 82 2 (82 + 1), al) k := by
  have hco := hk_co5 ht
  have hmo := hk_mo35 ht
  have fin := hk_ggadd_end hw h1
  refine hk_mth hk_m3 rfl rfl (n := 1000) ?_
  refine gg_full ht (fun hc => absurd hc (by rw [hw.1, hw.2.2.1]; exact hk_nlt hn (by omega))) (fun _ => ?_)
  refine And.intro (fun _ => ?_) (fun hc => absurd (by decide) hc)
  have loop : ∀ (q m : Nat), m + q = hk_co 82 → ∀ s2, hk_adc s s2 82 n m (fun _ => 0) → hk_Rn (d + 1) none hk_c3 (hk_sfx 19 hk_c3) [some (.ref 82), some (.int a1), some (.int a2), some (.int a3), some (.int a4), some (.int a5), some (.int (nI n)), some (.int (nI m))] [] (s2, lm, hk_uR rr 82 2 (82 + 1), al) k := by
    intro q
    induction q with
    | zero =>
      intro m hm s2 h2
      have hc1 : s2 82 1 ≤ nI m := by rw [(hk_adc_tw h2 hw).2.1]; exact nI_le (by omega) (by omega)
      refine hk_hd (n := 1000) (t := 19) rfl ?_
      refine And.intro (fun _ => ?_) (fun hc => absurd hc1 hc)
      rw [show m = hk_co 82 by omega] at h2
      refine gg_put_row (j := 0) ht hw hn h2 (by omega) fun s3 h3 => ?_
      refine gg_put_row (j := 1) ht hw hn h3 (by omega) fun s4 h4 => ?_
      refine gg_put_row (j := 2) ht hw hn h4 (by omega) fun s5 h5 => ?_
      refine gg_put_row (j := 3) ht hw hn h5 (by omega) fun s6 h6 => ?_
      refine gg_put_row (j := 4) ht hw hn h6 (by omega) fun s7 h7 => ?_
      exact fin s7 h7
    | succ q ih =>
      intro m hm s2 h2
      have hc1 : ¬ s2 82 1 ≤ nI m := by rw [(hk_adc_tw h2 hw).2.1]; exact hk_nlt (by omega) (by omega)
      refine hk_hd (n := 1000) (t := 19) rfl ?_
      refine And.intro (fun hc => absurd hc hc1) (fun _ => ?_)
      refine gg_put_in ht (hk_adc_tw h2 hw) hn (j := m) (by omega) ?_
      have h3 := hk_adc_put (v := 0) h2 (j := m) (by omega) (Nat.le_refl m)
      rw [if_pos rfl] at h3
      refine hk_Rn_cast (by rw [← nI_1]; rfl) (ih (m + 1) (by omega) _ ⟨h3.1, fun z hz => ?_⟩)
      rw [h3.2 z hz]
      dsimp only
      split <;> rfl
  have h0 : hk_adc s s 82 n 0 (fun _ => 0) := ⟨fun _ _ _ => rfl, fun j hj => absurd hj (Nat.not_lt_zero j)⟩
  exact hk_Rn_cast (by rw [← hw.2.2.1]; rfl) (loop _ 0 (Nat.zero_add _) s h0)
end HKG5
section HKH5
variable {d n : Nat} {s : Nat → Nat → Int32} {lm : Nat → Nat → Int64} {rr : Nat → Nat → Nat} {al : List Nat} {k : Option Value → hk_H → Prop}
theorem h_add_58 {a1 a2 a3 a4 a5 : Int32} (hr : rr 58 2 = 58 + 1) (hw : hk_tw s 58 n) (hn : n < hk_mo 58) (h1 : ∀ s2, hk_add s s2 58 n [a1, a2, a3, a4, a5] → k (some (.int (nI n))) (s2, lm, rr, al)) : hk_Cl (d + 2) 3 [.ref 58, .int a1, .int a2, .int a3, .int a4, .int a5] (s, lm, rr, al) k := by
  obtain ⟨rr', rfl⟩ : ∃ rr', rr = hk_uR rr' 58 2 (58 + 1) := ⟨rr, hk_uR_id hr⟩
  exact gg_add_58 (by simp [hk_tb2]) hw hn h1
theorem h_add_60 {a1 a2 a3 a4 a5 : Int32} (hr : rr 60 2 = 60 + 1) (hw : hk_tw s 60 n) (hn : n < hk_mo 60) (h1 : ∀ s2, hk_add s s2 60 n [a1, a2, a3, a4, a5] → k (some (.int (nI n))) (s2, lm, rr, al)) : hk_Cl (d + 2) 3 [.ref 60, .int a1, .int a2, .int a3, .int a4, .int a5] (s, lm, rr, al) k := by
  obtain ⟨rr', rfl⟩ : ∃ rr', rr = hk_uR rr' 60 2 (60 + 1) := ⟨rr, hk_uR_id hr⟩
  exact gg_add_60 (by simp [hk_tb2]) hw hn h1
theorem h_add_80 {a1 a2 a3 a4 a5 : Int32} (hr : rr 80 2 = 80 + 1) (hw : hk_tw s 80 n) (hn : n < hk_mo 80) (h1 : ∀ s2, hk_add s s2 80 n [a1, a2, a3, a4, a5] → k (some (.int (nI n))) (s2, lm, rr, al)) : hk_Cl (d + 2) 3 [.ref 80, .int a1, .int a2, .int a3, .int a4, .int a5] (s, lm, rr, al) k := by
  obtain ⟨rr', rfl⟩ : ∃ rr', rr = hk_uR rr' 80 2 (80 + 1) := ⟨rr, hk_uR_id hr⟩
  exact gg_add_80 (by simp [hk_tb2]) hw hn h1
theorem h_add_82 {a1 a2 a3 a4 a5 : Int32} (hr : rr 82 2 = 82 + 1) (hw : hk_tw s 82 n) (hn : n < hk_mo 82) (h1 : ∀ s2, hk_add s s2 82 n [a1, a2, a3, a4, a5] → k (some (.int (nI n))) (s2, lm, rr, al)) : hk_Cl (d + 2) 3 [.ref 82, .int a1, .int a2, .int a3, .int a4, .int a5] (s, lm, rr, al) k := by
  obtain ⟨rr', rfl⟩ : ∃ rr', rr = hk_uR rr' 82 2 (82 + 1) := ⟨rr, hk_uR_id hr⟩
  exact gg_add_82 (by simp [hk_tb2]) hw hn h1

def hk_hr51 : List (List Nat) := [[52, 54, 56, 58, 60, 62, 64, 66, 68, 70, 71, 72], [0, 0, 53], [], [0, 0, 55], [], [0, 0, 57], [], [0, 0, 59], [], [0, 0, 61], [], [0, 0, 63], [], [0, 0, 65], [], [0, 0, 67], [], [0, 0, 69]]
theorem n_house0_51 (u : hk_up al 52) (h1 : ∀ al2, hk_up al2 73 → al2 = al ++ List.range' 52 21 → k none (hk_ov 0 51 22 hk_hi s, hk_ov 0 51 22 [] lm, hk_ov 0 51 22 hk_hr51 rr, al2)) : hk_Cl (d + 3) 1 [.ref 51] (hk_ov 0 51 1 [] s, hk_ov 0 51 1 [] lm, hk_ov 0 51 1 [] rr, al) k := by
  refine hk_mth hk_m1 rfl rfl (n := 1000) ?_
  refine hk_mkI u rfl rfl ?_
  have u52 := hk_up_nx u (q := 53) rfl (by decide)
  refine n_table_52 u52 (fun s52 l52 r52 a52 es52 el52 er52 ea52 => ?_)
  have u53 := hk_up_nx u52 (q := 54) rfl (by decide)
  try dsimp only at es52
  try dsimp only at el52
  try dsimp only at er52
  try dsimp only at ea52
  try dsimp only at u53
  rw [← ea52] at u53
  rw [hk_ov_z (m := 2) rfl (by decide) rfl, hk_ov_u2 (by decide) (by decide), hk_ov_u2 (by decide) (by decide), hk_ov_z (m := 3) rfl (by decide) rfl] at es52
  rw [hk_ov_z (m := 2) rfl (by decide) rfl, hk_ov_z (m := 3) rfl (by decide) rfl] at el52
  rw [hk_ov_z (m := 2) rfl (by decide) rfl, hk_ov_z (m := 3) rfl (by decide) rfl, hk_ov_uR (by decide) (by decide)] at er52
  refine hk_mkI u53 rfl rfl ?_
  have u54 := hk_up_nx u53 (q := 55) rfl (by decide)
  refine n_table_54 u54 (fun s54 l54 r54 a54 es54 el54 er54 ea54 => ?_)
  have u55 := hk_up_nx u54 (q := 56) rfl (by decide)
  try dsimp only at es54
  try dsimp only at el54
  try dsimp only at er54
  try dsimp only at ea54
  try dsimp only at u55
  rw [← ea54] at u55
  rw [es52] at es54
  rw [el52] at el54
  rw [er52, hk_ov_uR (by decide) (by decide)] at er54
  rw [ea52] at ea54
  rw [hk_ov_z (m := 4) rfl (by decide) rfl, hk_ov_u2 (by decide) (by decide), hk_ov_u2 (by decide) (by decide), hk_ov_z (m := 5) rfl (by decide) rfl] at es54
  rw [hk_ov_z (m := 4) rfl (by decide) rfl, hk_ov_z (m := 5) rfl (by decide) rfl] at el54
  rw [hk_ov_z (m := 4) rfl (by decide) rfl, hk_ov_z (m := 5) rfl (by decide) rfl, hk_ov_uR (by decide) (by decide)] at er54
  refine hk_mkI u55 rfl rfl ?_
  have u56 := hk_up_nx u55 (q := 57) rfl (by decide)
  refine n_table_56 u56 (fun s56 l56 r56 a56 es56 el56 er56 ea56 => ?_)
  have u57 := hk_up_nx u56 (q := 58) rfl (by decide)
  try dsimp only at es56
  try dsimp only at el56
  try dsimp only at er56
  try dsimp only at ea56
  try dsimp only at u57
  rw [← ea56] at u57
  rw [es54] at es56
  rw [el54] at el56
  rw [er54, hk_ov_uR (by decide) (by decide)] at er56
  rw [ea54] at ea56
  rw [hk_ov_z (m := 6) rfl (by decide) rfl, hk_ov_u2 (by decide) (by decide), hk_ov_u2 (by decide) (by decide), hk_ov_z (m := 7) rfl (by decide) rfl] at es56
  rw [hk_ov_z (m := 6) rfl (by decide) rfl, hk_ov_z (m := 7) rfl (by decide) rfl] at el56
  rw [hk_ov_z (m := 6) rfl (by decide) rfl, hk_ov_z (m := 7) rfl (by decide) rfl, hk_ov_uR (by decide) (by decide)] at er56
  refine hk_mkI u57 rfl rfl ?_
  have u58 := hk_up_nx u57 (q := 59) rfl (by decide)
  refine n_table_58 u58 (fun s58 l58 r58 a58 es58 el58 er58 ea58 => ?_)
  have u59 := hk_up_nx u58 (q := 60) rfl (by decide)
  try dsimp only at es58
  try dsimp only at el58
  try dsimp only at er58
  try dsimp only at ea58
  try dsimp only at u59
  rw [← ea58] at u59
  rw [es56] at es58
  rw [el56] at el58
  rw [er56, hk_ov_uR (by decide) (by decide)] at er58
  rw [ea56] at ea58
  rw [hk_ov_z (m := 8) rfl (by decide) rfl, hk_ov_u2 (by decide) (by decide), hk_ov_u2 (by decide) (by decide), hk_ov_z (m := 9) rfl (by decide) rfl] at es58
  rw [hk_ov_z (m := 8) rfl (by decide) rfl, hk_ov_z (m := 9) rfl (by decide) rfl] at el58
  rw [hk_ov_z (m := 8) rfl (by decide) rfl, hk_ov_z (m := 9) rfl (by decide) rfl, hk_ov_uR (by decide) (by decide)] at er58
  refine hk_mkI u59 rfl rfl ?_
  have u60 := hk_up_nx u59 (q := 61) rfl (by decide)
  refine n_table_60 u60 (fun s60 l60 r60 a60 es60 el60 er60 ea60 => ?_)
  have u61 := hk_up_nx u60 (q := 62) rfl (by decide)
  try dsimp only at es60
  try dsimp only at el60
  try dsimp only at er60
  try dsimp only at ea60
  try dsimp only at u61
  rw [← ea60] at u61
  rw [es58] at es60
  rw [el58] at el60
  rw [er58, hk_ov_uR (by decide) (by decide)] at er60
  rw [ea58] at ea60
  rw [hk_ov_z (m := 10) rfl (by decide) rfl, hk_ov_u2 (by decide) (by decide), hk_ov_u2 (by decide) (by decide), hk_ov_z (m := 11) rfl (by decide) rfl] at es60
  rw [hk_ov_z (m := 10) rfl (by decide) rfl, hk_ov_z (m := 11) rfl (by decide) rfl] at el60
  rw [hk_ov_z (m := 10) rfl (by decide) rfl, hk_ov_z (m := 11) rfl (by decide) rfl, hk_ov_uR (by decide) (by decide)] at er60
  refine hk_mkI u61 rfl rfl ?_
  have u62 := hk_up_nx u61 (q := 63) rfl (by decide)
  refine n_table_62 u62 (fun s62 l62 r62 a62 es62 el62 er62 ea62 => ?_)
  have u63 := hk_up_nx u62 (q := 64) rfl (by decide)
  try dsimp only at es62
  try dsimp only at el62
  try dsimp only at er62
  try dsimp only at ea62
  try dsimp only at u63
  rw [← ea62] at u63
  rw [es60] at es62
  rw [el60] at el62
  rw [er60, hk_ov_uR (by decide) (by decide)] at er62
  rw [ea60] at ea62
  rw [hk_ov_z (m := 12) rfl (by decide) rfl, hk_ov_u2 (by decide) (by decide), hk_ov_u2 (by decide) (by decide), hk_ov_z (m := 13) rfl (by decide) rfl] at es62
  rw [hk_ov_z (m := 12) rfl (by decide) rfl, hk_ov_z (m := 13) rfl (by decide) rfl] at el62
  rw [hk_ov_z (m := 12) rfl (by decide) rfl, hk_ov_z (m := 13) rfl (by decide) rfl, hk_ov_uR (by decide) (by decide)] at er62
  refine hk_mkI u63 rfl rfl ?_
  have u64 := hk_up_nx u63 (q := 65) rfl (by decide)
  refine n_table_64 u64 (fun s64 l64 r64 a64 es64 el64 er64 ea64 => ?_)
  have u65 := hk_up_nx u64 (q := 66) rfl (by decide)
  try dsimp only at es64
  try dsimp only at el64
  try dsimp only at er64
  try dsimp only at ea64
  try dsimp only at u65
  rw [← ea64] at u65
  rw [es62] at es64
  rw [el62] at el64
  rw [er62, hk_ov_uR (by decide) (by decide)] at er64
  rw [ea62] at ea64
  rw [hk_ov_z (m := 14) rfl (by decide) rfl, hk_ov_u2 (by decide) (by decide), hk_ov_u2 (by decide) (by decide), hk_ov_z (m := 15) rfl (by decide) rfl] at es64
  rw [hk_ov_z (m := 14) rfl (by decide) rfl, hk_ov_z (m := 15) rfl (by decide) rfl] at el64
  rw [hk_ov_z (m := 14) rfl (by decide) rfl, hk_ov_z (m := 15) rfl (by decide) rfl, hk_ov_uR (by decide) (by decide)] at er64
  refine hk_mkI u65 rfl rfl ?_
  have u66 := hk_up_nx u65 (q := 67) rfl (by decide)
  refine n_table_66 u66 (fun s66 l66 r66 a66 es66 el66 er66 ea66 => ?_)
  have u67 := hk_up_nx u66 (q := 68) rfl (by decide)
  try dsimp only at es66
  try dsimp only at el66
  try dsimp only at er66
  try dsimp only at ea66
  try dsimp only at u67
  rw [← ea66] at u67
  rw [es64] at es66
  rw [el64] at el66
  rw [er64, hk_ov_uR (by decide) (by decide)] at er66
  rw [ea64] at ea66
  rw [hk_ov_z (m := 16) rfl (by decide) rfl, hk_ov_u2 (by decide) (by decide), hk_ov_u2 (by decide) (by decide), hk_ov_z (m := 17) rfl (by decide) rfl] at es66
  rw [hk_ov_z (m := 16) rfl (by decide) rfl, hk_ov_z (m := 17) rfl (by decide) rfl] at el66
  rw [hk_ov_z (m := 16) rfl (by decide) rfl, hk_ov_z (m := 17) rfl (by decide) rfl, hk_ov_uR (by decide) (by decide)] at er66
  refine hk_mkI u67 rfl rfl ?_
  have u68 := hk_up_nx u67 (q := 69) rfl (by decide)
  refine n_table_68 u68 (fun s68 l68 r68 a68 es68 el68 er68 ea68 => ?_)
  have u69 := hk_up_nx u68 (q := 70) rfl (by decide)
  try dsimp only at es68
  try dsimp only at el68
  try dsimp only at er68
  try dsimp only at ea68
  try dsimp only at u69
  rw [← ea68] at u69
  rw [es66] at es68
  rw [el66] at el68
  rw [er66, hk_ov_uR (by decide) (by decide)] at er68
  rw [ea66] at ea68
  rw [hk_ov_z (m := 18) rfl (by decide) rfl, hk_ov_u2 (by decide) (by decide), hk_ov_u2 (by decide) (by decide), hk_ov_z (m := 19) rfl (by decide) rfl] at es68
  rw [hk_ov_z (m := 18) rfl (by decide) rfl, hk_ov_z (m := 19) rfl (by decide) rfl] at el68
  rw [hk_ov_z (m := 18) rfl (by decide) rfl, hk_ov_z (m := 19) rfl (by decide) rfl, hk_ov_uR (by decide) (by decide)] at er68
  refine hk_nai 3 rfl rfl u69 rfl rfl ?_
  have u70 := hk_up_nx u69 (q := 71) rfl (by decide)
  refine hk_nai 600 rfl rfl u70 rfl rfl ?_
  have u71 := hk_up_nx u70 (q := 72) rfl (by decide)
  refine hk_nai 90 rfl rfl u71 rfl rfl ?_
  have u72 := hk_up_nx u71 (q := 73) rfl (by decide)
  refine hk_nmR (fun s0 lZ rZ aZ e0 elZ erZ eaZ => ?_)
  try dsimp only at e0
  try dsimp only at elZ
  try dsimp only at erZ
  try dsimp only at eaZ
  try dsimp only at u72
  rw [← eaZ] at u72
  rw [es68, hk_ov_z (m := 20) rfl (by decide) rfl, hk_ov_z (m := 21) rfl (by decide) rfl, hk_ov_z (m := 22) rfl (by decide) rfl] at e0
  rw [el68, hk_ov_z (m := 20) rfl (by decide) rfl, hk_ov_z (m := 21) rfl (by decide) rfl, hk_ov_z (m := 22) rfl (by decide) rfl] at elZ
  rw [er68, hk_ov_uR (by decide) (by decide), hk_ov_z (m := 20) rfl (by decide) rfl, hk_ov_uR (by decide) (by decide), hk_ov_z (m := 21) rfl (by decide) rfl, hk_ov_uR (by decide) (by decide), hk_ov_z (m := 22) rfl (by decide) rfl, hk_ov_uR (by decide) (by decide)] at erZ
  rw [ea68] at eaZ
  have erY : rZ = hk_ov 0 51 22 hk_hr51 rr := erZ
  subst erY
  refine hk_hd (n := 1000) (t := 157) rfl ?_
  refine And.intro (fun hc => absurd hc (show ¬ (4 : Int32) ≤ 0 by decide)) (fun _ => ?_)
  refine h_add_58 (n := 0) rfl (by rw [e0]; exact ⟨rfl, rfl, rfl, by decide⟩) (by decide) (fun s100 f0 => ?_)
  have e1 := hk_add_1 f0 (by decide) (fun j hj => by rw [e0]; match j, hj with | 0, _ => rfl | 1, _ => rfl | 2, _ => rfl)
  rw [e0, hk_ov_u2 (by decide) (by decide), hk_ov_u2 (by decide) (by decide)] at e1
  refine hk_hd (n := 1000) (t := 157) rfl ?_
  refine And.intro (fun hc => absurd hc (show ¬ (4 : Int32) ≤ 1 by decide)) (fun _ => ?_)
  refine h_add_58 (n := 1) rfl (by rw [e1]; exact ⟨rfl, rfl, rfl, by decide⟩) (by decide) (fun s101 f1 => ?_)
  have e2 := hk_add_1 f1 (by decide) (fun j hj => by rw [e1]; match j, hj with | 0, _ => rfl | 1, _ => rfl | 2, _ => rfl)
  rw [e1, hk_ov_u2 (by decide) (by decide), hk_ov_u2 (by decide) (by decide)] at e2
  refine hk_hd (n := 1000) (t := 157) rfl ?_
  refine And.intro (fun hc => absurd hc (show ¬ (4 : Int32) ≤ 2 by decide)) (fun _ => ?_)
  refine h_add_58 (n := 2) rfl (by rw [e2]; exact ⟨rfl, rfl, rfl, by decide⟩) (by decide) (fun s102 f2 => ?_)
  have e3 := hk_add_1 f2 (by decide) (fun j hj => by rw [e2]; match j, hj with | 0, _ => rfl | 1, _ => rfl | 2, _ => rfl)
  rw [e2, hk_ov_u2 (by decide) (by decide), hk_ov_u2 (by decide) (by decide)] at e3
  refine hk_hd (n := 1000) (t := 157) rfl ?_
  refine And.intro (fun hc => absurd hc (show ¬ (4 : Int32) ≤ 3 by decide)) (fun _ => ?_)
  refine h_add_58 (n := 3) rfl (by rw [e3]; exact ⟨rfl, rfl, rfl, by decide⟩) (by decide) (fun s103 f3 => ?_)
  have e4 := hk_add_1 f3 (by decide) (fun j hj => by rw [e3]; match j, hj with | 0, _ => rfl | 1, _ => rfl | 2, _ => rfl)
  rw [e3, hk_ov_u2 (by decide) (by decide), hk_ov_u2 (by decide) (by decide)] at e4
  refine hk_hd (n := 1000) (t := 157) rfl ?_
  refine And.intro (fun _ => ?_) (fun hc => absurd (show (4 : Int32) ≤ 4 by decide) hc)
  refine hk_hd (n := 1000) (t := 183) rfl ?_
  refine And.intro (fun hc => absurd hc (show ¬ (4 : Int32) ≤ 0 by decide)) (fun _ => ?_)
  refine h_add_60 (n := 0) rfl (by rw [e4]; exact ⟨rfl, rfl, rfl, by decide⟩) (by decide) (fun s104 f4 => ?_)
  have e5 := hk_add_0 f4 (fun j hj => by rw [e4]; rfl)
  rw [e4, hk_ov_u2 (by decide) (by decide)] at e5
  refine hk_hd (n := 1000) (t := 183) rfl ?_
  refine And.intro (fun hc => absurd hc (show ¬ (4 : Int32) ≤ 1 by decide)) (fun _ => ?_)
  refine h_add_60 (n := 1) rfl (by rw [e5]; exact ⟨rfl, rfl, rfl, by decide⟩) (by decide) (fun s105 f5 => ?_)
  have e6 := hk_add_0 f5 (fun j hj => by rw [e5]; rfl)
  rw [e5, hk_ov_u2 (by decide) (by decide)] at e6
  refine hk_hd (n := 1000) (t := 183) rfl ?_
  refine And.intro (fun hc => absurd hc (show ¬ (4 : Int32) ≤ 2 by decide)) (fun _ => ?_)
  refine h_add_60 (n := 2) rfl (by rw [e6]; exact ⟨rfl, rfl, rfl, by decide⟩) (by decide) (fun s106 f6 => ?_)
  have e7 := hk_add_0 f6 (fun j hj => by rw [e6]; rfl)
  rw [e6, hk_ov_u2 (by decide) (by decide)] at e7
  refine hk_hd (n := 1000) (t := 183) rfl ?_
  refine And.intro (fun hc => absurd hc (show ¬ (4 : Int32) ≤ 3 by decide)) (fun _ => ?_)
  refine h_add_60 (n := 3) rfl (by rw [e7]; exact ⟨rfl, rfl, rfl, by decide⟩) (by decide) (fun s107 f7 => ?_)
  have e8 := hk_add_0 f7 (fun j hj => by rw [e7]; rfl)
  rw [e7, hk_ov_u2 (by decide) (by decide)] at e8
  refine hk_hd (n := 1000) (t := 183) rfl ?_
  refine And.intro (fun _ => ?_) (fun hc => absurd (show (4 : Int32) ≤ 4 by decide) hc)
  refine hk_sti (j := 0) rfl (by decide) (by decide) ?_
  refine hk_sti (j := 1) rfl (by decide) (by decide) ?_
  refine hk_sti (j := 2) rfl (by decide) (by decide) ?_
  have fin := h1 aZ u72 (by rw [eaZ]; simp [List.append_assoc, List.range'])
  have eF : (hk_u2 (hk_u2 (hk_u2 (hk_u2 (hk_u2 (hk_u2 (hk_u2 s107 70 0 1) 70 1 4) 70 2 2) 51 13 300) 51 14 60000) 51 15 1) 51 16 100) = hk_ov 0 51 22 hk_hi s := by
    rw [e8, hk_ov_u2 (by decide) (by decide), hk_ov_u2 (by decide) (by decide), hk_ov_u2 (by decide) (by decide), hk_ov_u2 (by decide) (by decide), hk_ov_u2 (by decide) (by decide), hk_ov_u2 (by decide) (by decide), hk_ov_u2 (by decide) (by decide)]
    rfl
  rw [← eF, ← elZ] at fin
  exact fin
theorem n_house_51 (u : hk_up al 52) (h1 : ∀ al2, hk_up al2 73 → al2 = al ++ List.range' 52 21 → k none (hk_ov 0 51 22 hk_hi s, hk_ov 0 51 22 [] lm, hk_ov 0 51 22 hk_hr51 rr, al2)) : hk_Cl (d + 3) 1 [.ref 51] (hk_z s 51 0, hk_z lm 51 0, hk_z rr 51 0, al) k := by
  rw [hk_zov, hk_zov, hk_zov]
  exact n_house0_51 u h1
def hk_hr73 : List (List Nat) := [[74, 76, 78, 80, 82, 84, 86, 88, 90, 92, 93, 94], [0, 0, 75], [], [0, 0, 77], [], [0, 0, 79], [], [0, 0, 81], [], [0, 0, 83], [], [0, 0, 85], [], [0, 0, 87], [], [0, 0, 89], [], [0, 0, 91]]
theorem n_house0_73 (u : hk_up al 74) (h1 : ∀ al2, al2 = al ++ List.range' 74 21 → k none (hk_ov 0 73 22 hk_hi s, hk_ov 0 73 22 [] lm, hk_ov 0 73 22 hk_hr73 rr, al2)) : hk_Cl (d + 3) 1 [.ref 73] (hk_ov 0 73 1 [] s, hk_ov 0 73 1 [] lm, hk_ov 0 73 1 [] rr, al) k := by
  refine hk_mth hk_m1 rfl rfl (n := 1000) ?_
  refine hk_mkI u rfl rfl ?_
  have u74 := hk_up_nx u (q := 75) rfl (by decide)
  refine n_table_74 u74 (fun s74 l74 r74 a74 es74 el74 er74 ea74 => ?_)
  have u75 := hk_up_nx u74 (q := 76) rfl (by decide)
  try dsimp only at es74
  try dsimp only at el74
  try dsimp only at er74
  try dsimp only at ea74
  try dsimp only at u75
  rw [← ea74] at u75
  rw [hk_ov_z (m := 2) rfl (by decide) rfl, hk_ov_u2 (by decide) (by decide), hk_ov_u2 (by decide) (by decide), hk_ov_z (m := 3) rfl (by decide) rfl] at es74
  rw [hk_ov_z (m := 2) rfl (by decide) rfl, hk_ov_z (m := 3) rfl (by decide) rfl] at el74
  rw [hk_ov_z (m := 2) rfl (by decide) rfl, hk_ov_z (m := 3) rfl (by decide) rfl, hk_ov_uR (by decide) (by decide)] at er74
  refine hk_mkI u75 rfl rfl ?_
  have u76 := hk_up_nx u75 (q := 77) rfl (by decide)
  refine n_table_76 u76 (fun s76 l76 r76 a76 es76 el76 er76 ea76 => ?_)
  have u77 := hk_up_nx u76 (q := 78) rfl (by decide)
  try dsimp only at es76
  try dsimp only at el76
  try dsimp only at er76
  try dsimp only at ea76
  try dsimp only at u77
  rw [← ea76] at u77
  rw [es74] at es76
  rw [el74] at el76
  rw [er74, hk_ov_uR (by decide) (by decide)] at er76
  rw [ea74] at ea76
  rw [hk_ov_z (m := 4) rfl (by decide) rfl, hk_ov_u2 (by decide) (by decide), hk_ov_u2 (by decide) (by decide), hk_ov_z (m := 5) rfl (by decide) rfl] at es76
  rw [hk_ov_z (m := 4) rfl (by decide) rfl, hk_ov_z (m := 5) rfl (by decide) rfl] at el76
  rw [hk_ov_z (m := 4) rfl (by decide) rfl, hk_ov_z (m := 5) rfl (by decide) rfl, hk_ov_uR (by decide) (by decide)] at er76
  refine hk_mkI u77 rfl rfl ?_
  have u78 := hk_up_nx u77 (q := 79) rfl (by decide)
  refine n_table_78 u78 (fun s78 l78 r78 a78 es78 el78 er78 ea78 => ?_)
  have u79 := hk_up_nx u78 (q := 80) rfl (by decide)
  try dsimp only at es78
  try dsimp only at el78
  try dsimp only at er78
  try dsimp only at ea78
  try dsimp only at u79
  rw [← ea78] at u79
  rw [es76] at es78
  rw [el76] at el78
  rw [er76, hk_ov_uR (by decide) (by decide)] at er78
  rw [ea76] at ea78
  rw [hk_ov_z (m := 6) rfl (by decide) rfl, hk_ov_u2 (by decide) (by decide), hk_ov_u2 (by decide) (by decide), hk_ov_z (m := 7) rfl (by decide) rfl] at es78
  rw [hk_ov_z (m := 6) rfl (by decide) rfl, hk_ov_z (m := 7) rfl (by decide) rfl] at el78
  rw [hk_ov_z (m := 6) rfl (by decide) rfl, hk_ov_z (m := 7) rfl (by decide) rfl, hk_ov_uR (by decide) (by decide)] at er78
  refine hk_mkI u79 rfl rfl ?_
  have u80 := hk_up_nx u79 (q := 81) rfl (by decide)
  refine n_table_80 u80 (fun s80 l80 r80 a80 es80 el80 er80 ea80 => ?_)
  have u81 := hk_up_nx u80 (q := 82) rfl (by decide)
  try dsimp only at es80
  try dsimp only at el80
  try dsimp only at er80
  try dsimp only at ea80
  try dsimp only at u81
  rw [← ea80] at u81
  rw [es78] at es80
  rw [el78] at el80
  rw [er78, hk_ov_uR (by decide) (by decide)] at er80
  rw [ea78] at ea80
  rw [hk_ov_z (m := 8) rfl (by decide) rfl, hk_ov_u2 (by decide) (by decide), hk_ov_u2 (by decide) (by decide), hk_ov_z (m := 9) rfl (by decide) rfl] at es80
  rw [hk_ov_z (m := 8) rfl (by decide) rfl, hk_ov_z (m := 9) rfl (by decide) rfl] at el80
  rw [hk_ov_z (m := 8) rfl (by decide) rfl, hk_ov_z (m := 9) rfl (by decide) rfl, hk_ov_uR (by decide) (by decide)] at er80
  refine hk_mkI u81 rfl rfl ?_
  have u82 := hk_up_nx u81 (q := 83) rfl (by decide)
  refine n_table_82 u82 (fun s82 l82 r82 a82 es82 el82 er82 ea82 => ?_)
  have u83 := hk_up_nx u82 (q := 84) rfl (by decide)
  try dsimp only at es82
  try dsimp only at el82
  try dsimp only at er82
  try dsimp only at ea82
  try dsimp only at u83
  rw [← ea82] at u83
  rw [es80] at es82
  rw [el80] at el82
  rw [er80, hk_ov_uR (by decide) (by decide)] at er82
  rw [ea80] at ea82
  rw [hk_ov_z (m := 10) rfl (by decide) rfl, hk_ov_u2 (by decide) (by decide), hk_ov_u2 (by decide) (by decide), hk_ov_z (m := 11) rfl (by decide) rfl] at es82
  rw [hk_ov_z (m := 10) rfl (by decide) rfl, hk_ov_z (m := 11) rfl (by decide) rfl] at el82
  rw [hk_ov_z (m := 10) rfl (by decide) rfl, hk_ov_z (m := 11) rfl (by decide) rfl, hk_ov_uR (by decide) (by decide)] at er82
  refine hk_mkI u83 rfl rfl ?_
  have u84 := hk_up_nx u83 (q := 85) rfl (by decide)
  refine n_table_84 u84 (fun s84 l84 r84 a84 es84 el84 er84 ea84 => ?_)
  have u85 := hk_up_nx u84 (q := 86) rfl (by decide)
  try dsimp only at es84
  try dsimp only at el84
  try dsimp only at er84
  try dsimp only at ea84
  try dsimp only at u85
  rw [← ea84] at u85
  rw [es82] at es84
  rw [el82] at el84
  rw [er82, hk_ov_uR (by decide) (by decide)] at er84
  rw [ea82] at ea84
  rw [hk_ov_z (m := 12) rfl (by decide) rfl, hk_ov_u2 (by decide) (by decide), hk_ov_u2 (by decide) (by decide), hk_ov_z (m := 13) rfl (by decide) rfl] at es84
  rw [hk_ov_z (m := 12) rfl (by decide) rfl, hk_ov_z (m := 13) rfl (by decide) rfl] at el84
  rw [hk_ov_z (m := 12) rfl (by decide) rfl, hk_ov_z (m := 13) rfl (by decide) rfl, hk_ov_uR (by decide) (by decide)] at er84
  refine hk_mkI u85 rfl rfl ?_
  have u86 := hk_up_nx u85 (q := 87) rfl (by decide)
  refine n_table_86 u86 (fun s86 l86 r86 a86 es86 el86 er86 ea86 => ?_)
  have u87 := hk_up_nx u86 (q := 88) rfl (by decide)
  try dsimp only at es86
  try dsimp only at el86
  try dsimp only at er86
  try dsimp only at ea86
  try dsimp only at u87
  rw [← ea86] at u87
  rw [es84] at es86
  rw [el84] at el86
  rw [er84, hk_ov_uR (by decide) (by decide)] at er86
  rw [ea84] at ea86
  rw [hk_ov_z (m := 14) rfl (by decide) rfl, hk_ov_u2 (by decide) (by decide), hk_ov_u2 (by decide) (by decide), hk_ov_z (m := 15) rfl (by decide) rfl] at es86
  rw [hk_ov_z (m := 14) rfl (by decide) rfl, hk_ov_z (m := 15) rfl (by decide) rfl] at el86
  rw [hk_ov_z (m := 14) rfl (by decide) rfl, hk_ov_z (m := 15) rfl (by decide) rfl, hk_ov_uR (by decide) (by decide)] at er86
  refine hk_mkI u87 rfl rfl ?_
  have u88 := hk_up_nx u87 (q := 89) rfl (by decide)
  refine n_table_88 u88 (fun s88 l88 r88 a88 es88 el88 er88 ea88 => ?_)
  have u89 := hk_up_nx u88 (q := 90) rfl (by decide)
  try dsimp only at es88
  try dsimp only at el88
  try dsimp only at er88
  try dsimp only at ea88
  try dsimp only at u89
  rw [← ea88] at u89
  rw [es86] at es88
  rw [el86] at el88
  rw [er86, hk_ov_uR (by decide) (by decide)] at er88
  rw [ea86] at ea88
  rw [hk_ov_z (m := 16) rfl (by decide) rfl, hk_ov_u2 (by decide) (by decide), hk_ov_u2 (by decide) (by decide), hk_ov_z (m := 17) rfl (by decide) rfl] at es88
  rw [hk_ov_z (m := 16) rfl (by decide) rfl, hk_ov_z (m := 17) rfl (by decide) rfl] at el88
  rw [hk_ov_z (m := 16) rfl (by decide) rfl, hk_ov_z (m := 17) rfl (by decide) rfl, hk_ov_uR (by decide) (by decide)] at er88
  refine hk_mkI u89 rfl rfl ?_
  have u90 := hk_up_nx u89 (q := 91) rfl (by decide)
  refine n_table_90 u90 (fun s90 l90 r90 a90 es90 el90 er90 ea90 => ?_)
  have u91 := hk_up_nx u90 (q := 92) rfl (by decide)
  try dsimp only at es90
  try dsimp only at el90
  try dsimp only at er90
  try dsimp only at ea90
  try dsimp only at u91
  rw [← ea90] at u91
  rw [es88] at es90
  rw [el88] at el90
  rw [er88, hk_ov_uR (by decide) (by decide)] at er90
  rw [ea88] at ea90
  rw [hk_ov_z (m := 18) rfl (by decide) rfl, hk_ov_u2 (by decide) (by decide), hk_ov_u2 (by decide) (by decide), hk_ov_z (m := 19) rfl (by decide) rfl] at es90
  rw [hk_ov_z (m := 18) rfl (by decide) rfl, hk_ov_z (m := 19) rfl (by decide) rfl] at el90
  rw [hk_ov_z (m := 18) rfl (by decide) rfl, hk_ov_z (m := 19) rfl (by decide) rfl, hk_ov_uR (by decide) (by decide)] at er90
  refine hk_nai 3 rfl rfl u91 rfl rfl ?_
  have u92 := hk_up_nx u91 (q := 93) rfl (by decide)
  refine hk_nai 600 rfl rfl u92 rfl rfl ?_
  have u93 := hk_up_nx u92 (q := 94) rfl (by decide)
  refine hk_nai 90 rfl rfl u93 rfl rfl ?_
  refine hk_nmR (fun s0 lZ rZ aZ e0 elZ erZ eaZ => ?_)
  try dsimp only at e0
  try dsimp only at elZ
  try dsimp only at erZ
  try dsimp only at eaZ
  try dsimp only at u93
  rw [es90, hk_ov_z (m := 20) rfl (by decide) rfl, hk_ov_z (m := 21) rfl (by decide) rfl, hk_ov_z (m := 22) rfl (by decide) rfl] at e0
  rw [el90, hk_ov_z (m := 20) rfl (by decide) rfl, hk_ov_z (m := 21) rfl (by decide) rfl, hk_ov_z (m := 22) rfl (by decide) rfl] at elZ
  rw [er90, hk_ov_uR (by decide) (by decide), hk_ov_z (m := 20) rfl (by decide) rfl, hk_ov_uR (by decide) (by decide), hk_ov_z (m := 21) rfl (by decide) rfl, hk_ov_uR (by decide) (by decide), hk_ov_z (m := 22) rfl (by decide) rfl, hk_ov_uR (by decide) (by decide)] at erZ
  rw [ea90] at eaZ
  have erY : rZ = hk_ov 0 73 22 hk_hr73 rr := erZ
  subst erY
  refine hk_hd (n := 1000) (t := 157) rfl ?_
  refine And.intro (fun hc => absurd hc (show ¬ (4 : Int32) ≤ 0 by decide)) (fun _ => ?_)
  refine h_add_80 (n := 0) rfl (by rw [e0]; exact ⟨rfl, rfl, rfl, by decide⟩) (by decide) (fun s100 f0 => ?_)
  have e1 := hk_add_1 f0 (by decide) (fun j hj => by rw [e0]; match j, hj with | 0, _ => rfl | 1, _ => rfl | 2, _ => rfl)
  rw [e0, hk_ov_u2 (by decide) (by decide), hk_ov_u2 (by decide) (by decide)] at e1
  refine hk_hd (n := 1000) (t := 157) rfl ?_
  refine And.intro (fun hc => absurd hc (show ¬ (4 : Int32) ≤ 1 by decide)) (fun _ => ?_)
  refine h_add_80 (n := 1) rfl (by rw [e1]; exact ⟨rfl, rfl, rfl, by decide⟩) (by decide) (fun s101 f1 => ?_)
  have e2 := hk_add_1 f1 (by decide) (fun j hj => by rw [e1]; match j, hj with | 0, _ => rfl | 1, _ => rfl | 2, _ => rfl)
  rw [e1, hk_ov_u2 (by decide) (by decide), hk_ov_u2 (by decide) (by decide)] at e2
  refine hk_hd (n := 1000) (t := 157) rfl ?_
  refine And.intro (fun hc => absurd hc (show ¬ (4 : Int32) ≤ 2 by decide)) (fun _ => ?_)
  refine h_add_80 (n := 2) rfl (by rw [e2]; exact ⟨rfl, rfl, rfl, by decide⟩) (by decide) (fun s102 f2 => ?_)
  have e3 := hk_add_1 f2 (by decide) (fun j hj => by rw [e2]; match j, hj with | 0, _ => rfl | 1, _ => rfl | 2, _ => rfl)
  rw [e2, hk_ov_u2 (by decide) (by decide), hk_ov_u2 (by decide) (by decide)] at e3
  refine hk_hd (n := 1000) (t := 157) rfl ?_
  refine And.intro (fun hc => absurd hc (show ¬ (4 : Int32) ≤ 3 by decide)) (fun _ => ?_)
  refine h_add_80 (n := 3) rfl (by rw [e3]; exact ⟨rfl, rfl, rfl, by decide⟩) (by decide) (fun s103 f3 => ?_)
  have e4 := hk_add_1 f3 (by decide) (fun j hj => by rw [e3]; match j, hj with | 0, _ => rfl | 1, _ => rfl | 2, _ => rfl)
  rw [e3, hk_ov_u2 (by decide) (by decide), hk_ov_u2 (by decide) (by decide)] at e4
  refine hk_hd (n := 1000) (t := 157) rfl ?_
  refine And.intro (fun _ => ?_) (fun hc => absurd (show (4 : Int32) ≤ 4 by decide) hc)
  refine hk_hd (n := 1000) (t := 183) rfl ?_
  refine And.intro (fun hc => absurd hc (show ¬ (4 : Int32) ≤ 0 by decide)) (fun _ => ?_)
  refine h_add_82 (n := 0) rfl (by rw [e4]; exact ⟨rfl, rfl, rfl, by decide⟩) (by decide) (fun s104 f4 => ?_)
  have e5 := hk_add_0 f4 (fun j hj => by rw [e4]; rfl)
  rw [e4, hk_ov_u2 (by decide) (by decide)] at e5
  refine hk_hd (n := 1000) (t := 183) rfl ?_
  refine And.intro (fun hc => absurd hc (show ¬ (4 : Int32) ≤ 1 by decide)) (fun _ => ?_)
  refine h_add_82 (n := 1) rfl (by rw [e5]; exact ⟨rfl, rfl, rfl, by decide⟩) (by decide) (fun s105 f5 => ?_)
  have e6 := hk_add_0 f5 (fun j hj => by rw [e5]; rfl)
  rw [e5, hk_ov_u2 (by decide) (by decide)] at e6
  refine hk_hd (n := 1000) (t := 183) rfl ?_
  refine And.intro (fun hc => absurd hc (show ¬ (4 : Int32) ≤ 2 by decide)) (fun _ => ?_)
  refine h_add_82 (n := 2) rfl (by rw [e6]; exact ⟨rfl, rfl, rfl, by decide⟩) (by decide) (fun s106 f6 => ?_)
  have e7 := hk_add_0 f6 (fun j hj => by rw [e6]; rfl)
  rw [e6, hk_ov_u2 (by decide) (by decide)] at e7
  refine hk_hd (n := 1000) (t := 183) rfl ?_
  refine And.intro (fun hc => absurd hc (show ¬ (4 : Int32) ≤ 3 by decide)) (fun _ => ?_)
  refine h_add_82 (n := 3) rfl (by rw [e7]; exact ⟨rfl, rfl, rfl, by decide⟩) (by decide) (fun s107 f7 => ?_)
  have e8 := hk_add_0 f7 (fun j hj => by rw [e7]; rfl)
  rw [e7, hk_ov_u2 (by decide) (by decide)] at e8
  refine hk_hd (n := 1000) (t := 183) rfl ?_
  refine And.intro (fun _ => ?_) (fun hc => absurd (show (4 : Int32) ≤ 4 by decide) hc)
  refine hk_sti (j := 0) rfl (by decide) (by decide) ?_
  refine hk_sti (j := 1) rfl (by decide) (by decide) ?_
  refine hk_sti (j := 2) rfl (by decide) (by decide) ?_
  have fin := h1 aZ  (by rw [eaZ]; simp [List.append_assoc, List.range'])
  have eF : (hk_u2 (hk_u2 (hk_u2 (hk_u2 (hk_u2 (hk_u2 (hk_u2 s107 92 0 1) 92 1 4) 92 2 2) 73 13 300) 73 14 60000) 73 15 1) 73 16 100) = hk_ov 0 73 22 hk_hi s := by
    rw [e8, hk_ov_u2 (by decide) (by decide), hk_ov_u2 (by decide) (by decide), hk_ov_u2 (by decide) (by decide), hk_ov_u2 (by decide) (by decide), hk_ov_u2 (by decide) (by decide), hk_ov_u2 (by decide) (by decide), hk_ov_u2 (by decide) (by decide)]
    rfl
  rw [← eF, ← elZ] at fin
  exact fin
theorem n_house_73 (u : hk_up al 74) (h1 : ∀ al2, al2 = al ++ List.range' 74 21 → k none (hk_ov 0 73 22 hk_hi s, hk_ov 0 73 22 [] lm, hk_ov 0 73 22 hk_hr73 rr, al2)) : hk_Cl (d + 3) 1 [.ref 73] (hk_z s 73 0, hk_z lm 73 0, hk_z rr 73 0, al) k := by
  rw [hk_zov, hk_zov, hk_zov]
  exact n_house0_73 u h1
end HKH5
