/-! ===== copies of tables, of houses; image ===== -/
/-- table p's rows and cells over those of q -/
def hk_cpT (s : Nat → Nat → Int32) (p q N : Nat) : Nat → Nat → Int32 := hk_cp (hk_u2 s q 3 (s p 3)) (p + 1) (q + 1) 0 0 N
theorem hk_minI {a m : Nat} (h : a ≤ m) (hm : m < 2 ^ 31) : (if nI m < nI a then nI m else nI a) = nI a := by
  rw [if_neg]
  rw [nI_ltI hm (by omega)]
  omega
theorem hk_cp_in {s : Nat → Nat → Int32} {p q N x : Nat} (h : x < N) : hk_cp s p q 0 0 N q x = s p x := by
  unfold hk_cp
  rw [if_pos rfl, pk_cpy_in (by omega) (by omega)]
  congr 1
  omega
theorem hk_cp_o {s : Nat → Nat → Int32} {p q N a x : Nat} (h : a ≠ q) : hk_cp s p q 0 0 N a x = s a x := by
  unfold hk_cp
  rw [if_neg h]
theorem hk_cpT_c {s : Nat → Nat → Int32} {p q N x : Nat} (h : x < N) (hp : p + 1 ≠ q) : hk_cpT s p q N (q + 1) x = s (p + 1) x := by
  unfold hk_cpT
  rw [hk_cp_in h, hk_u2o (by omega)]
theorem hk_cpT_3 {s : Nat → Nat → Int32} {p q N : Nat} : hk_cpT s p q N q 3 = s p 3 := by
  unfold hk_cpT
  rw [hk_cp_o (by omega), hk_u2s]
theorem hk_cpT_o {s : Nat → Nat → Int32} {p q N a x : Nat} (h : a ≠ q + 1) (h2 : ¬ (a = q ∧ x = 3)) : hk_cpT s p q N a x = s a x := by
  unfold hk_cpT
  rw [hk_cp_o h, hk_u2o h2]
def hk_N (j : Nat) : Nat := hk_mo (2 + 2 * j) * hk_co (2 + 2 * j)
/-- i tables of the house at S are copied over those of the house at D -/
def hk_cpd (S D : Nat) (s s2 : Nat → Nat → Int32) (i : Nat) : Prop := (∀ a x, (a < D ∨ D + 22 ≤ a) → s2 a x = s a x) ∧ (∀ j, j < 9 → ∀ x, x ≠ 3 → s2 (D + 1 + 2 * j) x = s (D + 1 + 2 * j) x) ∧ (∀ j, j < i → s2 (D + 1 + 2 * j) 3 = s (S + 1 + 2 * j) 3 ∧ ∀ x, x < hk_N j → s2 (D + 2 + 2 * j) x = s (S + 2 + 2 * j) x)
theorem hk_cpd_step {S D i : Nat} {s s2 : Nat → Nat → Int32} (hSD : S + 22 ≤ D ∨ D + 22 ≤ S) (hi : i < 9) (h : hk_cpd S D s s2 i) : hk_cpd S D s (hk_cpT s2 (S + 1 + 2 * i) (D + 1 + 2 * i) (hk_N i)) (i + 1) := by
  obtain ⟨h1, h2, h3⟩ := h
  refine ⟨fun a x ha => ?_, fun j hj x hx => ?_, fun j hj => ?_⟩
  · rw [hk_cpT_o (by omega) (by omega)]
    exact h1 a x ha
  · rw [hk_cpT_o (by omega) (by omega)]
    exact h2 j hj x hx
  · by_cases e : j = i
    · subst e
      refine ⟨?_, fun x hx => ?_⟩
      · rw [hk_cpT_3]
        exact h1 _ _ (by omega)
      · rw [show D + 2 + 2 * j = D + 1 + 2 * j + 1 by omega, hk_cpT_c hx (by omega), h1 _ _ (by omega)]
        rw [show S + 1 + 2 * j + 1 = S + 2 + 2 * j by omega]
    · obtain ⟨h4, h5⟩ := h3 j (by omega)
      refine ⟨?_, fun x hx => ?_⟩
      · rw [hk_cpT_o (by omega) (by omega)]
        exact h4
      · rw [hk_cpT_o (by omega) (by omega)]
        exact h5 x hx
section HKI
variable {d t c n : Nat} {r v w x y z : Int32} {s : Nat → Nat → Int32} {lm : Nat → Nat → Int64} {rr : Nat → Nat → Nat} {i0 i1 b : Nat} {al : List Nat} {k : Option Value → hk_H → Prop} {hp : hk_H}
theorem c_cpT_2_52 (e1 : rr 2 2 = 3) (e2 : rr 52 2 = 53) (hw : hk_tw s 2 n) (hq : s 52 0 = nI 6) (h1 : k none (hk_cpT s 2 52 54, lm, rr, al)) : hk_Cl (d + 1) 125 [.ref 52, .ref 2] (s, lm, rr, al) k := by
  obtain ⟨rr', rfl⟩ : ∃ rr', rr = hk_uR (hk_uR rr' 2 2 3) 52 2 53 := ⟨rr, by rw [← hk_uR_id e1]; exact hk_uR_id e2⟩
  have em : (if s 52 0 < s 2 3 then s 52 0 else s 2 3) = s 2 3 := by
    rw [hq, hw.2.2.1]
    exact hk_minI hw.2.2.2 (by decide)
  have h2 : k none (hk_cp (hk_u2 s 52 3 (if s 52 0 < s 2 3 then s 52 0 else s 2 3)) 3 53 0 0 54, lm, hk_uR (hk_uR rr' 2 2 3) 52 2 53, al) := by
    rw [em]
    exact h1
  refine hk_mth hk_m125 rfl rfl (n := 1000) ?_
  refine And.intro (by decide) ?_
  exact h2
theorem c_cpT_4_54 (e1 : rr 4 2 = 5) (e2 : rr 54 2 = 55) (hw : hk_tw s 4 n) (hq : s 54 0 = nI 96) (h1 : k none (hk_cpT s 4 54 576, lm, rr, al)) : hk_Cl (d + 1) 125 [.ref 54, .ref 4] (s, lm, rr, al) k := by
  obtain ⟨rr', rfl⟩ : ∃ rr', rr = hk_uR (hk_uR rr' 4 2 5) 54 2 55 := ⟨rr, by rw [← hk_uR_id e1]; exact hk_uR_id e2⟩
  have em : (if s 54 0 < s 4 3 then s 54 0 else s 4 3) = s 4 3 := by
    rw [hq, hw.2.2.1]
    exact hk_minI hw.2.2.2 (by decide)
  have h2 : k none (hk_cp (hk_u2 s 54 3 (if s 54 0 < s 4 3 then s 54 0 else s 4 3)) 5 55 0 0 576, lm, hk_uR (hk_uR rr' 4 2 5) 54 2 55, al) := by
    rw [em]
    exact h1
  refine hk_mth hk_m125 rfl rfl (n := 1000) ?_
  refine And.intro (by decide) ?_
  exact h2
theorem c_cpT_6_56 (e1 : rr 6 2 = 7) (e2 : rr 56 2 = 57) (hw : hk_tw s 6 n) (hq : s 56 0 = nI 150) (h1 : k none (hk_cpT s 6 56 750, lm, rr, al)) : hk_Cl (d + 1) 125 [.ref 56, .ref 6] (s, lm, rr, al) k := by
  obtain ⟨rr', rfl⟩ : ∃ rr', rr = hk_uR (hk_uR rr' 6 2 7) 56 2 57 := ⟨rr, by rw [← hk_uR_id e1]; exact hk_uR_id e2⟩
  have em : (if s 56 0 < s 6 3 then s 56 0 else s 6 3) = s 6 3 := by
    rw [hq, hw.2.2.1]
    exact hk_minI hw.2.2.2 (by decide)
  have h2 : k none (hk_cp (hk_u2 s 56 3 (if s 56 0 < s 6 3 then s 56 0 else s 6 3)) 7 57 0 0 750, lm, hk_uR (hk_uR rr' 6 2 7) 56 2 57, al) := by
    rw [em]
    exact h1
  refine hk_mth hk_m125 rfl rfl (n := 1000) ?_
  refine And.intro (by decide) ?_
  exact h2
theorem c_cpT_8_58 (e1 : rr 8 2 = 9) (e2 : rr 58 2 = 59) (hw : hk_tw s 8 n) (hq : s 58 0 = nI 4) (h1 : k none (hk_cpT s 8 58 12, lm, rr, al)) : hk_Cl (d + 1) 125 [.ref 58, .ref 8] (s, lm, rr, al) k := by
  obtain ⟨rr', rfl⟩ : ∃ rr', rr = hk_uR (hk_uR rr' 8 2 9) 58 2 59 := ⟨rr, by rw [← hk_uR_id e1]; exact hk_uR_id e2⟩
  have em : (if s 58 0 < s 8 3 then s 58 0 else s 8 3) = s 8 3 := by
    rw [hq, hw.2.2.1]
    exact hk_minI hw.2.2.2 (by decide)
  have h2 : k none (hk_cp (hk_u2 s 58 3 (if s 58 0 < s 8 3 then s 58 0 else s 8 3)) 9 59 0 0 12, lm, hk_uR (hk_uR rr' 8 2 9) 58 2 59, al) := by
    rw [em]
    exact h1
  refine hk_mth hk_m125 rfl rfl (n := 1000) ?_
  refine And.intro (by decide) ?_
  exact h2
theorem c_cpT_10_60 (e1 : rr 10 2 = 11) (e2 : rr 60 2 = 61) (hw : hk_tw s 10 n) (hq : s 60 0 = nI 4) (h1 : k none (hk_cpT s 10 60 244, lm, rr, al)) : hk_Cl (d + 1) 125 [.ref 60, .ref 10] (s, lm, rr, al) k := by
  obtain ⟨rr', rfl⟩ : ∃ rr', rr = hk_uR (hk_uR rr' 10 2 11) 60 2 61 := ⟨rr, by rw [← hk_uR_id e1]; exact hk_uR_id e2⟩
  have em : (if s 60 0 < s 10 3 then s 60 0 else s 10 3) = s 10 3 := by
    rw [hq, hw.2.2.1]
    exact hk_minI hw.2.2.2 (by decide)
  have h2 : k none (hk_cp (hk_u2 s 60 3 (if s 60 0 < s 10 3 then s 60 0 else s 10 3)) 11 61 0 0 244, lm, hk_uR (hk_uR rr' 10 2 11) 60 2 61, al) := by
    rw [em]
    exact h1
  refine hk_mth hk_m125 rfl rfl (n := 1000) ?_
  refine And.intro (by decide) ?_
  exact h2
theorem c_cpT_12_62 (e1 : rr 12 2 = 13) (e2 : rr 62 2 = 63) (hw : hk_tw s 12 n) (hq : s 62 0 = nI 4) (h1 : k none (hk_cpT s 12 62 12, lm, rr, al)) : hk_Cl (d + 1) 125 [.ref 62, .ref 12] (s, lm, rr, al) k := by
  obtain ⟨rr', rfl⟩ : ∃ rr', rr = hk_uR (hk_uR rr' 12 2 13) 62 2 63 := ⟨rr, by rw [← hk_uR_id e1]; exact hk_uR_id e2⟩
  have em : (if s 62 0 < s 12 3 then s 62 0 else s 12 3) = s 12 3 := by
    rw [hq, hw.2.2.1]
    exact hk_minI hw.2.2.2 (by decide)
  have h2 : k none (hk_cp (hk_u2 s 62 3 (if s 62 0 < s 12 3 then s 62 0 else s 12 3)) 13 63 0 0 12, lm, hk_uR (hk_uR rr' 12 2 13) 62 2 63, al) := by
    rw [em]
    exact h1
  refine hk_mth hk_m125 rfl rfl (n := 1000) ?_
  refine And.intro (by decide) ?_
  exact h2
theorem c_cpT_14_64 (e1 : rr 14 2 = 15) (e2 : rr 64 2 = 65) (hw : hk_tw s 14 n) (hq : s 64 0 = nI 20) (h1 : k none (hk_cpT s 14 64 40, lm, rr, al)) : hk_Cl (d + 1) 125 [.ref 64, .ref 14] (s, lm, rr, al) k := by
  obtain ⟨rr', rfl⟩ : ∃ rr', rr = hk_uR (hk_uR rr' 14 2 15) 64 2 65 := ⟨rr, by rw [← hk_uR_id e1]; exact hk_uR_id e2⟩
  have em : (if s 64 0 < s 14 3 then s 64 0 else s 14 3) = s 14 3 := by
    rw [hq, hw.2.2.1]
    exact hk_minI hw.2.2.2 (by decide)
  have h2 : k none (hk_cp (hk_u2 s 64 3 (if s 64 0 < s 14 3 then s 64 0 else s 14 3)) 15 65 0 0 40, lm, hk_uR (hk_uR rr' 14 2 15) 64 2 65, al) := by
    rw [em]
    exact h1
  refine hk_mth hk_m125 rfl rfl (n := 1000) ?_
  refine And.intro (by decide) ?_
  exact h2
theorem c_cpT_16_66 (e1 : rr 16 2 = 17) (e2 : rr 66 2 = 67) (hw : hk_tw s 16 n) (hq : s 66 0 = nI 8) (h1 : k none (hk_cpT s 16 66 16, lm, rr, al)) : hk_Cl (d + 1) 125 [.ref 66, .ref 16] (s, lm, rr, al) k := by
  obtain ⟨rr', rfl⟩ : ∃ rr', rr = hk_uR (hk_uR rr' 16 2 17) 66 2 67 := ⟨rr, by rw [← hk_uR_id e1]; exact hk_uR_id e2⟩
  have em : (if s 66 0 < s 16 3 then s 66 0 else s 16 3) = s 16 3 := by
    rw [hq, hw.2.2.1]
    exact hk_minI hw.2.2.2 (by decide)
  have h2 : k none (hk_cp (hk_u2 s 66 3 (if s 66 0 < s 16 3 then s 66 0 else s 16 3)) 17 67 0 0 16, lm, hk_uR (hk_uR rr' 16 2 17) 66 2 67, al) := by
    rw [em]
    exact h1
  refine hk_mth hk_m125 rfl rfl (n := 1000) ?_
  refine And.intro (by decide) ?_
  exact h2
theorem c_cpT_18_68 (e1 : rr 18 2 = 19) (e2 : rr 68 2 = 69) (hw : hk_tw s 18 n) (hq : s 68 0 = nI 8) (h1 : k none (hk_cpT s 18 68 24, lm, rr, al)) : hk_Cl (d + 1) 125 [.ref 68, .ref 18] (s, lm, rr, al) k := by
  obtain ⟨rr', rfl⟩ : ∃ rr', rr = hk_uR (hk_uR rr' 18 2 19) 68 2 69 := ⟨rr, by rw [← hk_uR_id e1]; exact hk_uR_id e2⟩
  have em : (if s 68 0 < s 18 3 then s 68 0 else s 18 3) = s 18 3 := by
    rw [hq, hw.2.2.1]
    exact hk_minI hw.2.2.2 (by decide)
  have h2 : k none (hk_cp (hk_u2 s 68 3 (if s 68 0 < s 18 3 then s 68 0 else s 18 3)) 19 69 0 0 24, lm, hk_uR (hk_uR rr' 18 2 19) 68 2 69, al) := by
    rw [em]
    exact h1
  refine hk_mth hk_m125 rfl rfl (n := 1000) ?_
  refine And.intro (by decide) ?_
  exact h2
theorem c_cpT_2_74 (e1 : rr 2 2 = 3) (e2 : rr 74 2 = 75) (hw : hk_tw s 2 n) (hq : s 74 0 = nI 6) (h1 : k none (hk_cpT s 2 74 54, lm, rr, al)) : hk_Cl (d + 1) 125 [.ref 74, .ref 2] (s, lm, rr, al) k := by
  obtain ⟨rr', rfl⟩ : ∃ rr', rr = hk_uR (hk_uR rr' 2 2 3) 74 2 75 := ⟨rr, by rw [← hk_uR_id e1]; exact hk_uR_id e2⟩
  have em : (if s 74 0 < s 2 3 then s 74 0 else s 2 3) = s 2 3 := by
    rw [hq, hw.2.2.1]
    exact hk_minI hw.2.2.2 (by decide)
  have h2 : k none (hk_cp (hk_u2 s 74 3 (if s 74 0 < s 2 3 then s 74 0 else s 2 3)) 3 75 0 0 54, lm, hk_uR (hk_uR rr' 2 2 3) 74 2 75, al) := by
    rw [em]
    exact h1
  refine hk_mth hk_m125 rfl rfl (n := 1000) ?_
  refine And.intro (by decide) ?_
  exact h2
theorem c_cpT_4_76 (e1 : rr 4 2 = 5) (e2 : rr 76 2 = 77) (hw : hk_tw s 4 n) (hq : s 76 0 = nI 96) (h1 : k none (hk_cpT s 4 76 576, lm, rr, al)) : hk_Cl (d + 1) 125 [.ref 76, .ref 4] (s, lm, rr, al) k := by
  obtain ⟨rr', rfl⟩ : ∃ rr', rr = hk_uR (hk_uR rr' 4 2 5) 76 2 77 := ⟨rr, by rw [← hk_uR_id e1]; exact hk_uR_id e2⟩
  have em : (if s 76 0 < s 4 3 then s 76 0 else s 4 3) = s 4 3 := by
    rw [hq, hw.2.2.1]
    exact hk_minI hw.2.2.2 (by decide)
  have h2 : k none (hk_cp (hk_u2 s 76 3 (if s 76 0 < s 4 3 then s 76 0 else s 4 3)) 5 77 0 0 576, lm, hk_uR (hk_uR rr' 4 2 5) 76 2 77, al) := by
    rw [em]
    exact h1
  refine hk_mth hk_m125 rfl rfl (n := 1000) ?_
  refine And.intro (by decide) ?_
  exact h2
theorem c_cpT_6_78 (e1 : rr 6 2 = 7) (e2 : rr 78 2 = 79) (hw : hk_tw s 6 n) (hq : s 78 0 = nI 150) (h1 : k none (hk_cpT s 6 78 750, lm, rr, al)) : hk_Cl (d + 1) 125 [.ref 78, .ref 6] (s, lm, rr, al) k := by
  obtain ⟨rr', rfl⟩ : ∃ rr', rr = hk_uR (hk_uR rr' 6 2 7) 78 2 79 := ⟨rr, by rw [← hk_uR_id e1]; exact hk_uR_id e2⟩
  have em : (if s 78 0 < s 6 3 then s 78 0 else s 6 3) = s 6 3 := by
    rw [hq, hw.2.2.1]
    exact hk_minI hw.2.2.2 (by decide)
  have h2 : k none (hk_cp (hk_u2 s 78 3 (if s 78 0 < s 6 3 then s 78 0 else s 6 3)) 7 79 0 0 750, lm, hk_uR (hk_uR rr' 6 2 7) 78 2 79, al) := by
    rw [em]
    exact h1
  refine hk_mth hk_m125 rfl rfl (n := 1000) ?_
  refine And.intro (by decide) ?_
  exact h2
theorem c_cpT_8_80 (e1 : rr 8 2 = 9) (e2 : rr 80 2 = 81) (hw : hk_tw s 8 n) (hq : s 80 0 = nI 4) (h1 : k none (hk_cpT s 8 80 12, lm, rr, al)) : hk_Cl (d + 1) 125 [.ref 80, .ref 8] (s, lm, rr, al) k := by
  obtain ⟨rr', rfl⟩ : ∃ rr', rr = hk_uR (hk_uR rr' 8 2 9) 80 2 81 := ⟨rr, by rw [← hk_uR_id e1]; exact hk_uR_id e2⟩
  have em : (if s 80 0 < s 8 3 then s 80 0 else s 8 3) = s 8 3 := by
    rw [hq, hw.2.2.1]
    exact hk_minI hw.2.2.2 (by decide)
  have h2 : k none (hk_cp (hk_u2 s 80 3 (if s 80 0 < s 8 3 then s 80 0 else s 8 3)) 9 81 0 0 12, lm, hk_uR (hk_uR rr' 8 2 9) 80 2 81, al) := by
    rw [em]
    exact h1
  refine hk_mth hk_m125 rfl rfl (n := 1000) ?_
  refine And.intro (by decide) ?_
  exact h2
theorem c_cpT_10_82 (e1 : rr 10 2 = 11) (e2 : rr 82 2 = 83) (hw : hk_tw s 10 n) (hq : s 82 0 = nI 4) (h1 : k none (hk_cpT s 10 82 244, lm, rr, al)) : hk_Cl (d + 1) 125 [.ref 82, .ref 10] (s, lm, rr, al) k := by
  obtain ⟨rr', rfl⟩ : ∃ rr', rr = hk_uR (hk_uR rr' 10 2 11) 82 2 83 := ⟨rr, by rw [← hk_uR_id e1]; exact hk_uR_id e2⟩
  have em : (if s 82 0 < s 10 3 then s 82 0 else s 10 3) = s 10 3 := by
    rw [hq, hw.2.2.1]
    exact hk_minI hw.2.2.2 (by decide)
  have h2 : k none (hk_cp (hk_u2 s 82 3 (if s 82 0 < s 10 3 then s 82 0 else s 10 3)) 11 83 0 0 244, lm, hk_uR (hk_uR rr' 10 2 11) 82 2 83, al) := by
    rw [em]
    exact h1
  refine hk_mth hk_m125 rfl rfl (n := 1000) ?_
  refine And.intro (by decide) ?_
  exact h2
theorem c_cpT_12_84 (e1 : rr 12 2 = 13) (e2 : rr 84 2 = 85) (hw : hk_tw s 12 n) (hq : s 84 0 = nI 4) (h1 : k none (hk_cpT s 12 84 12, lm, rr, al)) : hk_Cl (d + 1) 125 [.ref 84, .ref 12] (s, lm, rr, al) k := by
  obtain ⟨rr', rfl⟩ : ∃ rr', rr = hk_uR (hk_uR rr' 12 2 13) 84 2 85 := ⟨rr, by rw [← hk_uR_id e1]; exact hk_uR_id e2⟩
  have em : (if s 84 0 < s 12 3 then s 84 0 else s 12 3) = s 12 3 := by
    rw [hq, hw.2.2.1]
    exact hk_minI hw.2.2.2 (by decide)
  have h2 : k none (hk_cp (hk_u2 s 84 3 (if s 84 0 < s 12 3 then s 84 0 else s 12 3)) 13 85 0 0 12, lm, hk_uR (hk_uR rr' 12 2 13) 84 2 85, al) := by
    rw [em]
    exact h1
  refine hk_mth hk_m125 rfl rfl (n := 1000) ?_
  refine And.intro (by decide) ?_
  exact h2
theorem c_cpT_14_86 (e1 : rr 14 2 = 15) (e2 : rr 86 2 = 87) (hw : hk_tw s 14 n) (hq : s 86 0 = nI 20) (h1 : k none (hk_cpT s 14 86 40, lm, rr, al)) : hk_Cl (d + 1) 125 [.ref 86, .ref 14] (s, lm, rr, al) k := by
  obtain ⟨rr', rfl⟩ : ∃ rr', rr = hk_uR (hk_uR rr' 14 2 15) 86 2 87 := ⟨rr, by rw [← hk_uR_id e1]; exact hk_uR_id e2⟩
  have em : (if s 86 0 < s 14 3 then s 86 0 else s 14 3) = s 14 3 := by
    rw [hq, hw.2.2.1]
    exact hk_minI hw.2.2.2 (by decide)
  have h2 : k none (hk_cp (hk_u2 s 86 3 (if s 86 0 < s 14 3 then s 86 0 else s 14 3)) 15 87 0 0 40, lm, hk_uR (hk_uR rr' 14 2 15) 86 2 87, al) := by
    rw [em]
    exact h1
  refine hk_mth hk_m125 rfl rfl (n := 1000) ?_
  refine And.intro (by decide) ?_
  exact h2
theorem c_cpT_16_88 (e1 : rr 16 2 = 17) (e2 : rr 88 2 = 89) (hw : hk_tw s 16 n) (hq : s 88 0 = nI 8) (h1 : k none (hk_cpT s 16 88 16, lm, rr, al)) : hk_Cl (d + 1) 125 [.ref 88, .ref 16] (s, lm, rr, al) k := by
  obtain ⟨rr', rfl⟩ : ∃ rr', rr = hk_uR (hk_uR rr' 16 2 17) 88 2 89 := ⟨rr, by rw [← hk_uR_id e1]; exact hk_uR_id e2⟩
  have em : (if s 88 0 < s 16 3 then s 88 0 else s 16 3) = s 16 3 := by
    rw [hq, hw.2.2.1]
    exact hk_minI hw.2.2.2 (by decide)
  have h2 : k none (hk_cp (hk_u2 s 88 3 (if s 88 0 < s 16 3 then s 88 0 else s 16 3)) 17 89 0 0 16, lm, hk_uR (hk_uR rr' 16 2 17) 88 2 89, al) := by
    rw [em]
    exact h1
  refine hk_mth hk_m125 rfl rfl (n := 1000) ?_
  refine And.intro (by decide) ?_
  exact h2
theorem c_cpT_18_90 (e1 : rr 18 2 = 19) (e2 : rr 90 2 = 91) (hw : hk_tw s 18 n) (hq : s 90 0 = nI 8) (h1 : k none (hk_cpT s 18 90 24, lm, rr, al)) : hk_Cl (d + 1) 125 [.ref 90, .ref 18] (s, lm, rr, al) k := by
  obtain ⟨rr', rfl⟩ : ∃ rr', rr = hk_uR (hk_uR rr' 18 2 19) 90 2 91 := ⟨rr, by rw [← hk_uR_id e1]; exact hk_uR_id e2⟩
  have em : (if s 90 0 < s 18 3 then s 90 0 else s 18 3) = s 18 3 := by
    rw [hq, hw.2.2.1]
    exact hk_minI hw.2.2.2 (by decide)
  have h2 : k none (hk_cp (hk_u2 s 90 3 (if s 90 0 < s 18 3 then s 90 0 else s 18 3)) 19 91 0 0 24, lm, hk_uR (hk_uR rr' 18 2 19) 90 2 91, al) := by
    rw [em]
    exact h1
  refine hk_mth hk_m125 rfl rfl (n := 1000) ?_
  refine And.intro (by decide) ?_
  exact h2
theorem c_cpT_52_2 (e1 : rr 52 2 = 53) (e2 : rr 2 2 = 3) (hw : hk_tw s 52 n) (hq : s 2 0 = nI 6) (h1 : k none (hk_cpT s 52 2 54, lm, rr, al)) : hk_Cl (d + 1) 125 [.ref 2, .ref 52] (s, lm, rr, al) k := by
  obtain ⟨rr', rfl⟩ : ∃ rr', rr = hk_uR (hk_uR rr' 52 2 53) 2 2 3 := ⟨rr, by rw [← hk_uR_id e1]; exact hk_uR_id e2⟩
  have em : (if s 2 0 < s 52 3 then s 2 0 else s 52 3) = s 52 3 := by
    rw [hq, hw.2.2.1]
    exact hk_minI hw.2.2.2 (by decide)
  have h2 : k none (hk_cp (hk_u2 s 2 3 (if s 2 0 < s 52 3 then s 2 0 else s 52 3)) 53 3 0 0 54, lm, hk_uR (hk_uR rr' 52 2 53) 2 2 3, al) := by
    rw [em]
    exact h1
  refine hk_mth hk_m125 rfl rfl (n := 1000) ?_
  refine And.intro (by decide) ?_
  exact h2
theorem c_cpT_54_4 (e1 : rr 54 2 = 55) (e2 : rr 4 2 = 5) (hw : hk_tw s 54 n) (hq : s 4 0 = nI 96) (h1 : k none (hk_cpT s 54 4 576, lm, rr, al)) : hk_Cl (d + 1) 125 [.ref 4, .ref 54] (s, lm, rr, al) k := by
  obtain ⟨rr', rfl⟩ : ∃ rr', rr = hk_uR (hk_uR rr' 54 2 55) 4 2 5 := ⟨rr, by rw [← hk_uR_id e1]; exact hk_uR_id e2⟩
  have em : (if s 4 0 < s 54 3 then s 4 0 else s 54 3) = s 54 3 := by
    rw [hq, hw.2.2.1]
    exact hk_minI hw.2.2.2 (by decide)
  have h2 : k none (hk_cp (hk_u2 s 4 3 (if s 4 0 < s 54 3 then s 4 0 else s 54 3)) 55 5 0 0 576, lm, hk_uR (hk_uR rr' 54 2 55) 4 2 5, al) := by
    rw [em]
    exact h1
  refine hk_mth hk_m125 rfl rfl (n := 1000) ?_
  refine And.intro (by decide) ?_
  exact h2
theorem c_cpT_56_6 (e1 : rr 56 2 = 57) (e2 : rr 6 2 = 7) (hw : hk_tw s 56 n) (hq : s 6 0 = nI 150) (h1 : k none (hk_cpT s 56 6 750, lm, rr, al)) : hk_Cl (d + 1) 125 [.ref 6, .ref 56] (s, lm, rr, al) k := by
  obtain ⟨rr', rfl⟩ : ∃ rr', rr = hk_uR (hk_uR rr' 56 2 57) 6 2 7 := ⟨rr, by rw [← hk_uR_id e1]; exact hk_uR_id e2⟩
  have em : (if s 6 0 < s 56 3 then s 6 0 else s 56 3) = s 56 3 := by
    rw [hq, hw.2.2.1]
    exact hk_minI hw.2.2.2 (by decide)
  have h2 : k none (hk_cp (hk_u2 s 6 3 (if s 6 0 < s 56 3 then s 6 0 else s 56 3)) 57 7 0 0 750, lm, hk_uR (hk_uR rr' 56 2 57) 6 2 7, al) := by
    rw [em]
    exact h1
  refine hk_mth hk_m125 rfl rfl (n := 1000) ?_
  refine And.intro (by decide) ?_
  exact h2
theorem c_cpT_58_8 (e1 : rr 58 2 = 59) (e2 : rr 8 2 = 9) (hw : hk_tw s 58 n) (hq : s 8 0 = nI 4) (h1 : k none (hk_cpT s 58 8 12, lm, rr, al)) : hk_Cl (d + 1) 125 [.ref 8, .ref 58] (s, lm, rr, al) k := by
  obtain ⟨rr', rfl⟩ : ∃ rr', rr = hk_uR (hk_uR rr' 58 2 59) 8 2 9 := ⟨rr, by rw [← hk_uR_id e1]; exact hk_uR_id e2⟩
  have em : (if s 8 0 < s 58 3 then s 8 0 else s 58 3) = s 58 3 := by
    rw [hq, hw.2.2.1]
    exact hk_minI hw.2.2.2 (by decide)
  have h2 : k none (hk_cp (hk_u2 s 8 3 (if s 8 0 < s 58 3 then s 8 0 else s 58 3)) 59 9 0 0 12, lm, hk_uR (hk_uR rr' 58 2 59) 8 2 9, al) := by
    rw [em]
    exact h1
  refine hk_mth hk_m125 rfl rfl (n := 1000) ?_
  refine And.intro (by decide) ?_
  exact h2
theorem c_cpT_60_10 (e1 : rr 60 2 = 61) (e2 : rr 10 2 = 11) (hw : hk_tw s 60 n) (hq : s 10 0 = nI 4) (h1 : k none (hk_cpT s 60 10 244, lm, rr, al)) : hk_Cl (d + 1) 125 [.ref 10, .ref 60] (s, lm, rr, al) k := by
  obtain ⟨rr', rfl⟩ : ∃ rr', rr = hk_uR (hk_uR rr' 60 2 61) 10 2 11 := ⟨rr, by rw [← hk_uR_id e1]; exact hk_uR_id e2⟩
  have em : (if s 10 0 < s 60 3 then s 10 0 else s 60 3) = s 60 3 := by
    rw [hq, hw.2.2.1]
    exact hk_minI hw.2.2.2 (by decide)
  have h2 : k none (hk_cp (hk_u2 s 10 3 (if s 10 0 < s 60 3 then s 10 0 else s 60 3)) 61 11 0 0 244, lm, hk_uR (hk_uR rr' 60 2 61) 10 2 11, al) := by
    rw [em]
    exact h1
  refine hk_mth hk_m125 rfl rfl (n := 1000) ?_
  refine And.intro (by decide) ?_
  exact h2
theorem c_cpT_62_12 (e1 : rr 62 2 = 63) (e2 : rr 12 2 = 13) (hw : hk_tw s 62 n) (hq : s 12 0 = nI 4) (h1 : k none (hk_cpT s 62 12 12, lm, rr, al)) : hk_Cl (d + 1) 125 [.ref 12, .ref 62] (s, lm, rr, al) k := by
  obtain ⟨rr', rfl⟩ : ∃ rr', rr = hk_uR (hk_uR rr' 62 2 63) 12 2 13 := ⟨rr, by rw [← hk_uR_id e1]; exact hk_uR_id e2⟩
  have em : (if s 12 0 < s 62 3 then s 12 0 else s 62 3) = s 62 3 := by
    rw [hq, hw.2.2.1]
    exact hk_minI hw.2.2.2 (by decide)
  have h2 : k none (hk_cp (hk_u2 s 12 3 (if s 12 0 < s 62 3 then s 12 0 else s 62 3)) 63 13 0 0 12, lm, hk_uR (hk_uR rr' 62 2 63) 12 2 13, al) := by
    rw [em]
    exact h1
  refine hk_mth hk_m125 rfl rfl (n := 1000) ?_
  refine And.intro (by decide) ?_
  exact h2
theorem c_cpT_64_14 (e1 : rr 64 2 = 65) (e2 : rr 14 2 = 15) (hw : hk_tw s 64 n) (hq : s 14 0 = nI 20) (h1 : k none (hk_cpT s 64 14 40, lm, rr, al)) : hk_Cl (d + 1) 125 [.ref 14, .ref 64] (s, lm, rr, al) k := by
  obtain ⟨rr', rfl⟩ : ∃ rr', rr = hk_uR (hk_uR rr' 64 2 65) 14 2 15 := ⟨rr, by rw [← hk_uR_id e1]; exact hk_uR_id e2⟩
  have em : (if s 14 0 < s 64 3 then s 14 0 else s 64 3) = s 64 3 := by
    rw [hq, hw.2.2.1]
    exact hk_minI hw.2.2.2 (by decide)
  have h2 : k none (hk_cp (hk_u2 s 14 3 (if s 14 0 < s 64 3 then s 14 0 else s 64 3)) 65 15 0 0 40, lm, hk_uR (hk_uR rr' 64 2 65) 14 2 15, al) := by
    rw [em]
    exact h1
  refine hk_mth hk_m125 rfl rfl (n := 1000) ?_
  refine And.intro (by decide) ?_
  exact h2
theorem c_cpT_66_16 (e1 : rr 66 2 = 67) (e2 : rr 16 2 = 17) (hw : hk_tw s 66 n) (hq : s 16 0 = nI 8) (h1 : k none (hk_cpT s 66 16 16, lm, rr, al)) : hk_Cl (d + 1) 125 [.ref 16, .ref 66] (s, lm, rr, al) k := by
  obtain ⟨rr', rfl⟩ : ∃ rr', rr = hk_uR (hk_uR rr' 66 2 67) 16 2 17 := ⟨rr, by rw [← hk_uR_id e1]; exact hk_uR_id e2⟩
  have em : (if s 16 0 < s 66 3 then s 16 0 else s 66 3) = s 66 3 := by
    rw [hq, hw.2.2.1]
    exact hk_minI hw.2.2.2 (by decide)
  have h2 : k none (hk_cp (hk_u2 s 16 3 (if s 16 0 < s 66 3 then s 16 0 else s 66 3)) 67 17 0 0 16, lm, hk_uR (hk_uR rr' 66 2 67) 16 2 17, al) := by
    rw [em]
    exact h1
  refine hk_mth hk_m125 rfl rfl (n := 1000) ?_
  refine And.intro (by decide) ?_
  exact h2
theorem c_cpT_68_18 (e1 : rr 68 2 = 69) (e2 : rr 18 2 = 19) (hw : hk_tw s 68 n) (hq : s 18 0 = nI 8) (h1 : k none (hk_cpT s 68 18 24, lm, rr, al)) : hk_Cl (d + 1) 125 [.ref 18, .ref 68] (s, lm, rr, al) k := by
  obtain ⟨rr', rfl⟩ : ∃ rr', rr = hk_uR (hk_uR rr' 68 2 69) 18 2 19 := ⟨rr, by rw [← hk_uR_id e1]; exact hk_uR_id e2⟩
  have em : (if s 18 0 < s 68 3 then s 18 0 else s 68 3) = s 68 3 := by
    rw [hq, hw.2.2.1]
    exact hk_minI hw.2.2.2 (by decide)
  have h2 : k none (hk_cp (hk_u2 s 18 3 (if s 18 0 < s 68 3 then s 18 0 else s 68 3)) 69 19 0 0 24, lm, hk_uR (hk_uR rr' 68 2 69) 18 2 19, al) := by
    rw [em]
    exact h1
  refine hk_mth hk_m125 rfl rfl (n := 1000) ?_
  refine And.intro (by decide) ?_
  exact h2
theorem c_cpT_74_2 (e1 : rr 74 2 = 75) (e2 : rr 2 2 = 3) (hw : hk_tw s 74 n) (hq : s 2 0 = nI 6) (h1 : k none (hk_cpT s 74 2 54, lm, rr, al)) : hk_Cl (d + 1) 125 [.ref 2, .ref 74] (s, lm, rr, al) k := by
  obtain ⟨rr', rfl⟩ : ∃ rr', rr = hk_uR (hk_uR rr' 74 2 75) 2 2 3 := ⟨rr, by rw [← hk_uR_id e1]; exact hk_uR_id e2⟩
  have em : (if s 2 0 < s 74 3 then s 2 0 else s 74 3) = s 74 3 := by
    rw [hq, hw.2.2.1]
    exact hk_minI hw.2.2.2 (by decide)
  have h2 : k none (hk_cp (hk_u2 s 2 3 (if s 2 0 < s 74 3 then s 2 0 else s 74 3)) 75 3 0 0 54, lm, hk_uR (hk_uR rr' 74 2 75) 2 2 3, al) := by
    rw [em]
    exact h1
  refine hk_mth hk_m125 rfl rfl (n := 1000) ?_
  refine And.intro (by decide) ?_
  exact h2
theorem c_cpT_76_4 (e1 : rr 76 2 = 77) (e2 : rr 4 2 = 5) (hw : hk_tw s 76 n) (hq : s 4 0 = nI 96) (h1 : k none (hk_cpT s 76 4 576, lm, rr, al)) : hk_Cl (d + 1) 125 [.ref 4, .ref 76] (s, lm, rr, al) k := by
  obtain ⟨rr', rfl⟩ : ∃ rr', rr = hk_uR (hk_uR rr' 76 2 77) 4 2 5 := ⟨rr, by rw [← hk_uR_id e1]; exact hk_uR_id e2⟩
  have em : (if s 4 0 < s 76 3 then s 4 0 else s 76 3) = s 76 3 := by
    rw [hq, hw.2.2.1]
    exact hk_minI hw.2.2.2 (by decide)
  have h2 : k none (hk_cp (hk_u2 s 4 3 (if s 4 0 < s 76 3 then s 4 0 else s 76 3)) 77 5 0 0 576, lm, hk_uR (hk_uR rr' 76 2 77) 4 2 5, al) := by
    rw [em]
    exact h1
  refine hk_mth hk_m125 rfl rfl (n := 1000) ?_
  refine And.intro (by decide) ?_
  exact h2
theorem c_cpT_78_6 (e1 : rr 78 2 = 79) (e2 : rr 6 2 = 7) (hw : hk_tw s 78 n) (hq : s 6 0 = nI 150) (h1 : k none (hk_cpT s 78 6 750, lm, rr, al)) : hk_Cl (d + 1) 125 [.ref 6, .ref 78] (s, lm, rr, al) k := by
  obtain ⟨rr', rfl⟩ : ∃ rr', rr = hk_uR (hk_uR rr' 78 2 79) 6 2 7 := ⟨rr, by rw [← hk_uR_id e1]; exact hk_uR_id e2⟩
  have em : (if s 6 0 < s 78 3 then s 6 0 else s 78 3) = s 78 3 := by
    rw [hq, hw.2.2.1]
    exact hk_minI hw.2.2.2 (by decide)
  have h2 : k none (hk_cp (hk_u2 s 6 3 (if s 6 0 < s 78 3 then s 6 0 else s 78 3)) 79 7 0 0 750, lm, hk_uR (hk_uR rr' 78 2 79) 6 2 7, al) := by
    rw [em]
    exact h1
  refine hk_mth hk_m125 rfl rfl (n := 1000) ?_
  refine And.intro (by decide) ?_
  exact h2
theorem c_cpT_80_8 (e1 : rr 80 2 = 81) (e2 : rr 8 2 = 9) (hw : hk_tw s 80 n) (hq : s 8 0 = nI 4) (h1 : k none (hk_cpT s 80 8 12, lm, rr, al)) : hk_Cl (d + 1) 125 [.ref 8, .ref 80] (s, lm, rr, al) k := by
  obtain ⟨rr', rfl⟩ : ∃ rr', rr = hk_uR (hk_uR rr' 80 2 81) 8 2 9 := ⟨rr, by rw [← hk_uR_id e1]; exact hk_uR_id e2⟩
  have em : (if s 8 0 < s 80 3 then s 8 0 else s 80 3) = s 80 3 := by
    rw [hq, hw.2.2.1]
    exact hk_minI hw.2.2.2 (by decide)
  have h2 : k none (hk_cp (hk_u2 s 8 3 (if s 8 0 < s 80 3 then s 8 0 else s 80 3)) 81 9 0 0 12, lm, hk_uR (hk_uR rr' 80 2 81) 8 2 9, al) := by
    rw [em]
    exact h1
  refine hk_mth hk_m125 rfl rfl (n := 1000) ?_
  refine And.intro (by decide) ?_
  exact h2
theorem c_cpT_82_10 (e1 : rr 82 2 = 83) (e2 : rr 10 2 = 11) (hw : hk_tw s 82 n) (hq : s 10 0 = nI 4) (h1 : k none (hk_cpT s 82 10 244, lm, rr, al)) : hk_Cl (d + 1) 125 [.ref 10, .ref 82] (s, lm, rr, al) k := by
  obtain ⟨rr', rfl⟩ : ∃ rr', rr = hk_uR (hk_uR rr' 82 2 83) 10 2 11 := ⟨rr, by rw [← hk_uR_id e1]; exact hk_uR_id e2⟩
  have em : (if s 10 0 < s 82 3 then s 10 0 else s 82 3) = s 82 3 := by
    rw [hq, hw.2.2.1]
    exact hk_minI hw.2.2.2 (by decide)
  have h2 : k none (hk_cp (hk_u2 s 10 3 (if s 10 0 < s 82 3 then s 10 0 else s 82 3)) 83 11 0 0 244, lm, hk_uR (hk_uR rr' 82 2 83) 10 2 11, al) := by
    rw [em]
    exact h1
  refine hk_mth hk_m125 rfl rfl (n := 1000) ?_
  refine And.intro (by decide) ?_
  exact h2
theorem c_cpT_84_12 (e1 : rr 84 2 = 85) (e2 : rr 12 2 = 13) (hw : hk_tw s 84 n) (hq : s 12 0 = nI 4) (h1 : k none (hk_cpT s 84 12 12, lm, rr, al)) : hk_Cl (d + 1) 125 [.ref 12, .ref 84] (s, lm, rr, al) k := by
  obtain ⟨rr', rfl⟩ : ∃ rr', rr = hk_uR (hk_uR rr' 84 2 85) 12 2 13 := ⟨rr, by rw [← hk_uR_id e1]; exact hk_uR_id e2⟩
  have em : (if s 12 0 < s 84 3 then s 12 0 else s 84 3) = s 84 3 := by
    rw [hq, hw.2.2.1]
    exact hk_minI hw.2.2.2 (by decide)
  have h2 : k none (hk_cp (hk_u2 s 12 3 (if s 12 0 < s 84 3 then s 12 0 else s 84 3)) 85 13 0 0 12, lm, hk_uR (hk_uR rr' 84 2 85) 12 2 13, al) := by
    rw [em]
    exact h1
  refine hk_mth hk_m125 rfl rfl (n := 1000) ?_
  refine And.intro (by decide) ?_
  exact h2
theorem c_cpT_86_14 (e1 : rr 86 2 = 87) (e2 : rr 14 2 = 15) (hw : hk_tw s 86 n) (hq : s 14 0 = nI 20) (h1 : k none (hk_cpT s 86 14 40, lm, rr, al)) : hk_Cl (d + 1) 125 [.ref 14, .ref 86] (s, lm, rr, al) k := by
  obtain ⟨rr', rfl⟩ : ∃ rr', rr = hk_uR (hk_uR rr' 86 2 87) 14 2 15 := ⟨rr, by rw [← hk_uR_id e1]; exact hk_uR_id e2⟩
  have em : (if s 14 0 < s 86 3 then s 14 0 else s 86 3) = s 86 3 := by
    rw [hq, hw.2.2.1]
    exact hk_minI hw.2.2.2 (by decide)
  have h2 : k none (hk_cp (hk_u2 s 14 3 (if s 14 0 < s 86 3 then s 14 0 else s 86 3)) 87 15 0 0 40, lm, hk_uR (hk_uR rr' 86 2 87) 14 2 15, al) := by
    rw [em]
    exact h1
  refine hk_mth hk_m125 rfl rfl (n := 1000) ?_
  refine And.intro (by decide) ?_
  exact h2
theorem c_cpT_88_16 (e1 : rr 88 2 = 89) (e2 : rr 16 2 = 17) (hw : hk_tw s 88 n) (hq : s 16 0 = nI 8) (h1 : k none (hk_cpT s 88 16 16, lm, rr, al)) : hk_Cl (d + 1) 125 [.ref 16, .ref 88] (s, lm, rr, al) k := by
  obtain ⟨rr', rfl⟩ : ∃ rr', rr = hk_uR (hk_uR rr' 88 2 89) 16 2 17 := ⟨rr, by rw [← hk_uR_id e1]; exact hk_uR_id e2⟩
  have em : (if s 16 0 < s 88 3 then s 16 0 else s 88 3) = s 88 3 := by
    rw [hq, hw.2.2.1]
    exact hk_minI hw.2.2.2 (by decide)
  have h2 : k none (hk_cp (hk_u2 s 16 3 (if s 16 0 < s 88 3 then s 16 0 else s 88 3)) 89 17 0 0 16, lm, hk_uR (hk_uR rr' 88 2 89) 16 2 17, al) := by
    rw [em]
    exact h1
  refine hk_mth hk_m125 rfl rfl (n := 1000) ?_
  refine And.intro (by decide) ?_
  exact h2
theorem c_cpT_90_18 (e1 : rr 90 2 = 91) (e2 : rr 18 2 = 19) (hw : hk_tw s 90 n) (hq : s 18 0 = nI 8) (h1 : k none (hk_cpT s 90 18 24, lm, rr, al)) : hk_Cl (d + 1) 125 [.ref 18, .ref 90] (s, lm, rr, al) k := by
  obtain ⟨rr', rfl⟩ : ∃ rr', rr = hk_uR (hk_uR rr' 90 2 91) 18 2 19 := ⟨rr, by rw [← hk_uR_id e1]; exact hk_uR_id e2⟩
  have em : (if s 18 0 < s 90 3 then s 18 0 else s 90 3) = s 90 3 := by
    rw [hq, hw.2.2.1]
    exact hk_minI hw.2.2.2 (by decide)
  have h2 : k none (hk_cp (hk_u2 s 18 3 (if s 18 0 < s 90 3 then s 18 0 else s 90 3)) 91 19 0 0 24, lm, hk_uR (hk_uR rr' 90 2 91) 18 2 19, al) := by
    rw [em]
    exact h1
  refine hk_mth hk_m125 rfl rfl (n := 1000) ?_
  refine And.intro (by decide) ?_
  exact h2
end HKI
