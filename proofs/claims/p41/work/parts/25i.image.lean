/-! ===== copies of tables, of houses; image ===== -/
/-- table p's rows and cells over those of q -/
def hk_cpT (s : Nat → Nat → Int32) (p q N : Nat) : Nat → Nat → Int32 := hk_cp (hk_u2 s q 3 (s p 3)) (p + 1) (q + 1) 0 0 N
theorem hk_minI {a m : Nat} (h : a ≤ m) (hm : m < 2 ^ 31) : (if nI m < nI a then nI m else nI a) = nI a := by
  rw [if_neg]
  rw [nI_ltI hm (by omega)]
  omega
theorem hk_cp_in {s : Nat → Nat → Int32} {p q N x : Nat} (h : x < N) : hk_cp s p q 0 0 N q x = s p x := by
  unfold hk_cp
  rw [if_pos rfl, pk_cpy_in (by omega) (by omega)]
  congr 1
  omega
theorem hk_cp_o {s : Nat → Nat → Int32} {p q N a x : Nat} (h : a ≠ q) : hk_cp s p q 0 0 N a x = s a x := by
  unfold hk_cp
  rw [if_neg h]
theorem hk_cpT_c {s : Nat → Nat → Int32} {p q N x : Nat} (h : x < N) (hp : p + 1 ≠ q) : hk_cpT s p q N (q + 1) x = s (p + 1) x := by
  unfold hk_cpT
  rw [hk_cp_in h, hk_u2o (by omega)]
theorem hk_cpT_3 {s : Nat → Nat → Int32} {p q N : Nat} : hk_cpT s p q N q 3 = s p 3 := by
  unfold hk_cpT
  rw [hk_cp_o (by omega), hk_u2s]
theorem hk_cpT_o {s : Nat → Nat → Int32} {p q N a x : Nat} (h : a ≠ q + 1) (h2 : ¬ (a = q ∧ x = 3)) : hk_cpT s p q N a x = s a x := by
  unfold hk_cpT
  rw [hk_cp_o h, hk_u2o h2]
def hk_N (j : Nat) : Nat := hk_mo (2 + 2 * j) * hk_co (2 + 2 * j)
/-- i tables of the house at S are copied over those of the house at D -/
def hk_cpd (S D : Nat) (s s2 : Nat → Nat → Int32) (i : Nat) : Prop := (∀ a x, (a < D ∨ D + 22 ≤ a) → s2 a x = s a x) ∧ (∀ j, j < 9 → ∀ x, x ≠ 3 → s2 (D + 1 + 2 * j) x = s (D + 1 + 2 * j) x) ∧ (∀ j, j < i → s2 (D + 1 + 2 * j) 3 = s (S + 1 + 2 * j) 3 ∧ ∀ x, x < hk_N j → s2 (D + 2 + 2 * j) x = s (S + 2 + 2 * j) x)
theorem hk_cpd_step {S D i : Nat} {s s2 : Nat → Nat → Int32} (hSD : S + 22 ≤ D ∨ D + 22 ≤ S) (hi : i < 9) (h : hk_cpd S D s s2 i) : hk_cpd S D s (hk_cpT s2 (S + 1 + 2 * i) (D + 1 + 2 * i) (hk_N i)) (i + 1) := by
  obtain ⟨h1, h2, h3⟩ := h
  refine ⟨fun a x ha => ?_, fun j hj x hx => ?_, fun j hj => ?_⟩
  · rw [hk_cpT_o (by omega) (by omega)]
    exact h1 a x ha
  · rw [hk_cpT_o (by omega) (by omega)]
    exact h2 j hj x hx
  · by_cases e : j = i
    · subst e
      refine ⟨?_, fun x hx => ?_⟩
      · rw [hk_cpT_3]
        exact h1 _ _ (by omega)
      · rw [show D + 2 + 2 * j = D + 1 + 2 * j + 1 by omega, hk_cpT_c hx (by omega), h1 _ _ (by omega)]
        rw [show S + 1 + 2 * j + 1 = S + 2 + 2 * j by omega]
    · obtain ⟨h4, h5⟩ := h3 j (by omega)
      refine ⟨?_, fun x hx => ?_⟩
      · rw [hk_cpT_o (by omega) (by omega)]
        exact h4
      · rw [hk_cpT_o (by omega) (by omega)]
        exact h5 x hx
section HKI
variable {d t c n : Nat} {r v w x y z : Int32} {s : Nat → Nat → Int32} {lm : Nat → Nat → Int64} {rr : Nat → Nat → Nat} {i0 i1 b : Nat} {al : List Nat} {k : Option Value → hk_H → Prop} {hp : hk_H}
theorem hk_cpn {P : Prop} {scr : Option (Nat × (Nat → Int32))} {cd cs : List hk_E} {L : hk_L} {st : List Value} {p q N a1 a2 a3 : Nat} (hP : P) (e1 : a1 = 0) (e2 : a2 = 0) (e3 : a3 = N) (h : ∀ s2, s2 = hk_cp s p q 0 0 N → hk_wp d scr cd k n cs L st (s2, lm, rr, al)) : P ∧ hk_wp d scr cd k n cs L st (hk_cp s p q a1 a2 a3, lm, rr, al) := by
  subst e1 e2 e3
  exact ⟨hP, h _ rfl⟩
theorem c_cpT_2_52 (e1 : rr 2 2 = 3) (e2 : rr 52 2 = 53) (hw : hk_tw s 2 n) (hq : s 52 0 = nI 6) (h1 : ∀ s2, s2 = hk_cpT s 2 52 54 → k none (s2, lm, rr, al)) : hk_Cl (d + 1) 125 [.ref 52, .ref 2] (s, lm, rr, al) k := by
  obtain ⟨rr', rfl⟩ : ∃ rr', rr = hk_uR (hk_uR rr' 2 2 3) 52 2 53 := ⟨rr, by rw [← hk_uR_id e1]; exact hk_uR_id e2⟩
  have em : (if s 52 0 < s 2 3 then s 52 0 else s 2 3) = s 2 3 := by
    rw [hq, hw.2.2.1]
    exact hk_minI hw.2.2.2 (by decide)
  have h2 : k none (hk_cp (hk_u2 s 52 3 (if s 52 0 < s 2 3 then s 52 0 else s 2 3)) 3 53 0 0 54, lm, hk_uR (hk_uR rr' 2 2 3) 52 2 53, al) := by
    rw [em]
    exact h1 _ rfl
  refine hk_mth hk_m125 rfl rfl (n := 1000) ?_
  refine And.intro (by decide) ?_
  exact h2
theorem c_cpT_4_54 (e1 : rr 4 2 = 5) (e2 : rr 54 2 = 55) (hw : hk_tw s 4 n) (hq : s 54 0 = nI 96) (h1 : ∀ s2, s2 = hk_cpT s 4 54 576 → k none (s2, lm, rr, al)) : hk_Cl (d + 1) 125 [.ref 54, .ref 4] (s, lm, rr, al) k := by
  obtain ⟨rr', rfl⟩ : ∃ rr', rr = hk_uR (hk_uR rr' 4 2 5) 54 2 55 := ⟨rr, by rw [← hk_uR_id e1]; exact hk_uR_id e2⟩
  have em : (if s 54 0 < s 4 3 then s 54 0 else s 4 3) = s 4 3 := by
    rw [hq, hw.2.2.1]
    exact hk_minI hw.2.2.2 (by decide)
  have h2 : k none (hk_cp (hk_u2 s 54 3 (if s 54 0 < s 4 3 then s 54 0 else s 4 3)) 5 55 0 0 576, lm, hk_uR (hk_uR rr' 4 2 5) 54 2 55, al) := by
    rw [em]
    exact h1 _ rfl
  refine hk_mth hk_m125 rfl rfl (n := 1000) ?_
  refine And.intro (by decide) ?_
  exact h2
theorem c_cpT_6_56 (e1 : rr 6 2 = 7) (e2 : rr 56 2 = 57) (hw : hk_tw s 6 n) (hq : s 56 0 = nI 150) (h1 : ∀ s2, s2 = hk_cpT s 6 56 750 → k none (s2, lm, rr, al)) : hk_Cl (d + 1) 125 [.ref 56, .ref 6] (s, lm, rr, al) k := by
  obtain ⟨rr', rfl⟩ : ∃ rr', rr = hk_uR (hk_uR rr' 6 2 7) 56 2 57 := ⟨rr, by rw [← hk_uR_id e1]; exact hk_uR_id e2⟩
  have em : (if s 56 0 < s 6 3 then s 56 0 else s 6 3) = s 6 3 := by
    rw [hq, hw.2.2.1]
    exact hk_minI hw.2.2.2 (by decide)
  have h2 : k none (hk_cp (hk_u2 s 56 3 (if s 56 0 < s 6 3 then s 56 0 else s 6 3)) 7 57 0 0 750, lm, hk_uR (hk_uR rr' 6 2 7) 56 2 57, al) := by
    rw [em]
    exact h1 _ rfl
  refine hk_mth hk_m125 rfl rfl (n := 1000) ?_
  refine And.intro (by decide) ?_
  exact h2
theorem c_cpT_8_58 (e1 : rr 8 2 = 9) (e2 : rr 58 2 = 59) (hw : hk_tw s 8 n) (hq : s 58 0 = nI 4) (h1 : ∀ s2, s2 = hk_cpT s 8 58 12 → k none (s2, lm, rr, al)) : hk_Cl (d + 1) 125 [.ref 58, .ref 8] (s, lm, rr, al) k := by
  obtain ⟨rr', rfl⟩ : ∃ rr', rr = hk_uR (hk_uR rr' 8 2 9) 58 2 59 := ⟨rr, by rw [← hk_uR_id e1]; exact hk_uR_id e2⟩
  have em : (if s 58 0 < s 8 3 then s 58 0 else s 8 3) = s 8 3 := by
    rw [hq, hw.2.2.1]
    exact hk_minI hw.2.2.2 (by decide)
  have h2 : k none (hk_cp (hk_u2 s 58 3 (if s 58 0 < s 8 3 then s 58 0 else s 8 3)) 9 59 0 0 12, lm, hk_uR (hk_uR rr' 8 2 9) 58 2 59, al) := by
    rw [em]
    exact h1 _ rfl
  refine hk_mth hk_m125 rfl rfl (n := 1000) ?_
  refine And.intro (by decide) ?_
  exact h2
theorem c_cpT_10_60 (e1 : rr 10 2 = 11) (e2 : rr 60 2 = 61) (hw : hk_tw s 10 n) (hq : s 60 0 = nI 4) (h1 : ∀ s2, s2 = hk_cpT s 10 60 244 → k none (s2, lm, rr, al)) : hk_Cl (d + 1) 125 [.ref 60, .ref 10] (s, lm, rr, al) k := by
  obtain ⟨rr', rfl⟩ : ∃ rr', rr = hk_uR (hk_uR rr' 10 2 11) 60 2 61 := ⟨rr, by rw [← hk_uR_id e1]; exact hk_uR_id e2⟩
  have em : (if s 60 0 < s 10 3 then s 60 0 else s 10 3) = s 10 3 := by
    rw [hq, hw.2.2.1]
    exact hk_minI hw.2.2.2 (by decide)
  have h2 : k none (hk_cp (hk_u2 s 60 3 (if s 60 0 < s 10 3 then s 60 0 else s 10 3)) 11 61 0 0 244, lm, hk_uR (hk_uR rr' 10 2 11) 60 2 61, al) := by
    rw [em]
    exact h1 _ rfl
  refine hk_mth hk_m125 rfl rfl (n := 1000) ?_
  refine And.intro (by decide) ?_
  exact h2
theorem c_cpT_12_62 (e1 : rr 12 2 = 13) (e2 : rr 62 2 = 63) (hw : hk_tw s 12 n) (hq : s 62 0 = nI 4) (h1 : ∀ s2, s2 = hk_cpT s 12 62 12 → k none (s2, lm, rr, al)) : hk_Cl (d + 1) 125 [.ref 62, .ref 12] (s, lm, rr, al) k := by
  obtain ⟨rr', rfl⟩ : ∃ rr', rr = hk_uR (hk_uR rr' 12 2 13) 62 2 63 := ⟨rr, by rw [← hk_uR_id e1]; exact hk_uR_id e2⟩
  have em : (if s 62 0 < s 12 3 then s 62 0 else s 12 3) = s 12 3 := by
    rw [hq, hw.2.2.1]
    exact hk_minI hw.2.2.2 (by decide)
  have h2 : k none (hk_cp (hk_u2 s 62 3 (if s 62 0 < s 12 3 then s 62 0 else s 12 3)) 13 63 0 0 12, lm, hk_uR (hk_uR rr' 12 2 13) 62 2 63, al) := by
    rw [em]
    exact h1 _ rfl
  refine hk_mth hk_m125 rfl rfl (n := 1000) ?_
  refine And.intro (by decide) ?_
  exact h2
theorem c_cpT_14_64 (e1 : rr 14 2 = 15) (e2 : rr 64 2 = 65) (hw : hk_tw s 14 n) (hq : s 64 0 = nI 20) (h1 : ∀ s2, s2 = hk_cpT s 14 64 40 → k none (s2, lm, rr, al)) : hk_Cl (d + 1) 125 [.ref 64, .ref 14] (s, lm, rr, al) k := by
  obtain ⟨rr', rfl⟩ : ∃ rr', rr = hk_uR (hk_uR rr' 14 2 15) 64 2 65 := ⟨rr, by rw [← hk_uR_id e1]; exact hk_uR_id e2⟩
  have em : (if s 64 0 < s 14 3 then s 64 0 else s 14 3) = s 14 3 := by
    rw [hq, hw.2.2.1]
    exact hk_minI hw.2.2.2 (by decide)
  have h2 : k none (hk_cp (hk_u2 s 64 3 (if s 64 0 < s 14 3 then s 64 0 else s 14 3)) 15 65 0 0 40, lm, hk_uR (hk_uR rr' 14 2 15) 64 2 65, al) := by
    rw [em]
    exact h1 _ rfl
  refine hk_mth hk_m125 rfl rfl (n := 1000) ?_
  refine And.intro (by decide) ?_
  exact h2
theorem c_cpT_16_66 (e1 : rr 16 2 = 17) (e2 : rr 66 2 = 67) (hw : hk_tw s 16 n) (hq : s 66 0 = nI 8) (h1 : ∀ s2, s2 = hk_cpT s 16 66 16 → k none (s2, lm, rr, al)) : hk_Cl (d + 1) 125 [.ref 66, .ref 16] (s, lm, rr, al) k := by
  obtain ⟨rr', rfl⟩ : ∃ rr', rr = hk_uR (hk_uR rr' 16 2 17) 66 2 67 := ⟨rr, by rw [← hk_uR_id e1]; exact hk_uR_id e2⟩
  have em : (if s 66 0 < s 16 3 then s 66 0 else s 16 3) = s 16 3 := by
    rw [hq, hw.2.2.1]
    exact hk_minI hw.2.2.2 (by decide)
  have h2 : k none (hk_cp (hk_u2 s 66 3 (if s 66 0 < s 16 3 then s 66 0 else s 16 3)) 17 67 0 0 16, lm, hk_uR (hk_uR rr' 16 2 17) 66 2 67, al) := by
    rw [em]
    exact h1 _ rfl
  refine hk_mth hk_m125 rfl rfl (n := 1000) ?_
  refine And.intro (by decide) ?_
  exact h2
theorem c_cpT_18_68 (e1 : rr 18 2 = 19) (e2 : rr 68 2 = 69) (hw : hk_tw s 18 n) (hq : s 68 0 = nI 8) (h1 : ∀ s2, s2 = hk_cpT s 18 68 24 → k none (s2, lm, rr, al)) : hk_Cl (d + 1) 125 [.ref 68, .ref 18] (s, lm, rr, al) k := by
  obtain ⟨rr', rfl⟩ : ∃ rr', rr = hk_uR (hk_uR rr' 18 2 19) 68 2 69 := ⟨rr, by rw [← hk_uR_id e1]; exact hk_uR_id e2⟩
  have em : (if s 68 0 < s 18 3 then s 68 0 else s 18 3) = s 18 3 := by
    rw [hq, hw.2.2.1]
    exact hk_minI hw.2.2.2 (by decide)
  have h2 : k none (hk_cp (hk_u2 s 68 3 (if s 68 0 < s 18 3 then s 68 0 else s 18 3)) 19 69 0 0 24, lm, hk_uR (hk_uR rr' 18 2 19) 68 2 69, al) := by
    rw [em]
    exact h1 _ rfl
  refine hk_mth hk_m125 rfl rfl (n := 1000) ?_
  refine And.intro (by decide) ?_
  exact h2
theorem c_cpT_2_74 (e1 : rr 2 2 = 3) (e2 : rr 74 2 = 75) (hw : hk_tw s 2 n) (hq : s 74 0 = nI 6) (h1 : ∀ s2, s2 = hk_cpT s 2 74 54 → k none (s2, lm, rr, al)) : hk_Cl (d + 1) 125 [.ref 74, .ref 2] (s, lm, rr, al) k := by
  obtain ⟨rr', rfl⟩ : ∃ rr', rr = hk_uR (hk_uR rr' 2 2 3) 74 2 75 := ⟨rr, by rw [← hk_uR_id e1]; exact hk_uR_id e2⟩
  have em : (if s 74 0 < s 2 3 then s 74 0 else s 2 3) = s 2 3 := by
    rw [hq, hw.2.2.1]
    exact hk_minI hw.2.2.2 (by decide)
  have h2 : k none (hk_cp (hk_u2 s 74 3 (if s 74 0 < s 2 3 then s 74 0 else s 2 3)) 3 75 0 0 54, lm, hk_uR (hk_uR rr' 2 2 3) 74 2 75, al) := by
    rw [em]
    exact h1 _ rfl
  refine hk_mth hk_m125 rfl rfl (n := 1000) ?_
  refine And.intro (by decide) ?_
  exact h2
theorem c_cpT_4_76 (e1 : rr 4 2 = 5) (e2 : rr 76 2 = 77) (hw : hk_tw s 4 n) (hq : s 76 0 = nI 96) (h1 : ∀ s2, s2 = hk_cpT s 4 76 576 → k none (s2, lm, rr, al)) : hk_Cl (d + 1) 125 [.ref 76, .ref 4] (s, lm, rr, al) k := by
  obtain ⟨rr', rfl⟩ : ∃ rr', rr = hk_uR (hk_uR rr' 4 2 5) 76 2 77 := ⟨rr, by rw [← hk_uR_id e1]; exact hk_uR_id e2⟩
  have em : (if s 76 0 < s 4 3 then s 76 0 else s 4 3) = s 4 3 := by
    rw [hq, hw.2.2.1]
    exact hk_minI hw.2.2.2 (by decide)
  have h2 : k none (hk_cp (hk_u2 s 76 3 (if s 76 0 < s 4 3 then s 76 0 else s 4 3)) 5 77 0 0 576, lm, hk_uR (hk_uR rr' 4 2 5) 76 2 77, al) := by
    rw [em]
    exact h1 _ rfl
  refine hk_mth hk_m125 rfl rfl (n := 1000) ?_
  refine And.intro (by decide) ?_
  exact h2
theorem c_cpT_6_78 (e1 : rr 6 2 = 7) (e2 : rr 78 2 = 79) (hw : hk_tw s 6 n) (hq : s 78 0 = nI 150) (h1 : ∀ s2, s2 = hk_cpT s 6 78 750 → k none (s2, lm, rr, al)) : hk_Cl (d + 1) 125 [.ref 78, .ref 6] (s, lm, rr, al) k := by
  obtain ⟨rr', rfl⟩ : ∃ rr', rr = hk_uR (hk_uR rr' 6 2 7) 78 2 79 := ⟨rr, by rw [← hk_uR_id e1]; exact hk_uR_id e2⟩
  have em : (if s 78 0 < s 6 3 then s 78 0 else s 6 3) = s 6 3 := by
    rw [hq, hw.2.2.1]
    exact hk_minI hw.2.2.2 (by decide)
  have h2 : k none (hk_cp (hk_u2 s 78 3 (if s 78 0 < s 6 3 then s 78 0 else s 6 3)) 7 79 0 0 750, lm, hk_uR (hk_uR rr' 6 2 7) 78 2 79, al) := by
    rw [em]
    exact h1 _ rfl
  refine hk_mth hk_m125 rfl rfl (n := 1000) ?_
  refine And.intro (by decide) ?_
  exact h2
theorem c_cpT_8_80 (e1 : rr 8 2 = 9) (e2 : rr 80 2 = 81) (hw : hk_tw s 8 n) (hq : s 80 0 = nI 4) (h1 : ∀ s2, s2 = hk_cpT s 8 80 12 → k none (s2, lm, rr, al)) : hk_Cl (d + 1) 125 [.ref 80, .ref 8] (s, lm, rr, al) k := by
  obtain ⟨rr', rfl⟩ : ∃ rr', rr = hk_uR (hk_uR rr' 8 2 9) 80 2 81 := ⟨rr, by rw [← hk_uR_id e1]; exact hk_uR_id e2⟩
  have em : (if s 80 0 < s 8 3 then s 80 0 else s 8 3) = s 8 3 := by
    rw [hq, hw.2.2.1]
    exact hk_minI hw.2.2.2 (by decide)
  have h2 : k none (hk_cp (hk_u2 s 80 3 (if s 80 0 < s 8 3 then s 80 0 else s 8 3)) 9 81 0 0 12, lm, hk_uR (hk_uR rr' 8 2 9) 80 2 81, al) := by
    rw [em]
    exact h1 _ rfl
  refine hk_mth hk_m125 rfl rfl (n := 1000) ?_
  refine And.intro (by decide) ?_
  exact h2
theorem c_cpT_10_82 (e1 : rr 10 2 = 11) (e2 : rr 82 2 = 83) (hw : hk_tw s 10 n) (hq : s 82 0 = nI 4) (h1 : ∀ s2, s2 = hk_cpT s 10 82 244 → k none (s2, lm, rr, al)) : hk_Cl (d + 1) 125 [.ref 82, .ref 10] (s, lm, rr, al) k := by
  obtain ⟨rr', rfl⟩ : ∃ rr', rr = hk_uR (hk_uR rr' 10 2 11) 82 2 83 := ⟨rr, by rw [← hk_uR_id e1]; exact hk_uR_id e2⟩
  have em : (if s 82 0 < s 10 3 then s 82 0 else s 10 3) = s 10 3 := by
    rw [hq, hw.2.2.1]
    exact hk_minI hw.2.2.2 (by decide)
  have h2 : k none (hk_cp (hk_u2 s 82 3 (if s 82 0 < s 10 3 then s 82 0 else s 10 3)) 11 83 0 0 244, lm, hk_uR (hk_uR rr' 10 2 11) 82 2 83, al) := by
    rw [em]
    exact h1 _ rfl
  refine hk_mth hk_m125 rfl rfl (n := 1000) ?_
  refine And.intro (by decide) ?_
  exact h2
theorem c_cpT_12_84 (e1 : rr 12 2 = 13) (e2 : rr 84 2 = 85) (hw : hk_tw s 12 n) (hq : s 84 0 = nI 4) (h1 : ∀ s2, s2 = hk_cpT s 12 84 12 → k none (s2, lm, rr, al)) : hk_Cl (d + 1) 125 [.ref 84, .ref 12] (s, lm, rr, al) k := by
  obtain ⟨rr', rfl⟩ : ∃ rr', rr = hk_uR (hk_uR rr' 12 2 13) 84 2 85 := ⟨rr, by rw [← hk_uR_id e1]; exact hk_uR_id e2⟩
  have em : (if s 84 0 < s 12 3 then s 84 0 else s 12 3) = s 12 3 := by
    rw [hq, hw.2.2.1]
    exact hk_minI hw.2.2.2 (by decide)
  have h2 : k none (hk_cp (hk_u2 s 84 3 (if s 84 0 < s 12 3 then s 84 0 else s 12 3)) 13 85 0 0 12, lm, hk_uR (hk_uR rr' 12 2 13) 84 2 85, al) := by
    rw [em]
    exact h1 _ rfl
  refine hk_mth hk_m125 rfl rfl (n := 1000) ?_
  refine And.intro (by decide) ?_
  exact h2
theorem c_cpT_14_86 (e1 : rr 14 2 = 15) (e2 : rr 86 2 = 87) (hw : hk_tw s 14 n) (hq : s 86 0 = nI 20) (h1 : ∀ s2, s2 = hk_cpT s 14 86 40 → k none (s2, lm, rr, al)) : hk_Cl (d + 1) 125 [.ref 86, .ref 14] (s, lm, rr, al) k := by
  obtain ⟨rr', rfl⟩ : ∃ rr', rr = hk_uR (hk_uR rr' 14 2 15) 86 2 87 := ⟨rr, by rw [← hk_uR_id e1]; exact hk_uR_id e2⟩
  have em : (if s 86 0 < s 14 3 then s 86 0 else s 14 3) = s 14 3 := by
    rw [hq, hw.2.2.1]
    exact hk_minI hw.2.2.2 (by decide)
  have h2 : k none (hk_cp (hk_u2 s 86 3 (if s 86 0 < s 14 3 then s 86 0 else s 14 3)) 15 87 0 0 40, lm, hk_uR (hk_uR rr' 14 2 15) 86 2 87, al) := by
    rw [em]
    exact h1 _ rfl
  refine hk_mth hk_m125 rfl rfl (n := 1000) ?_
  refine And.intro (by decide) ?_
  exact h2
theorem c_cpT_16_88 (e1 : rr 16 2 = 17) (e2 : rr 88 2 = 89) (hw : hk_tw s 16 n) (hq : s 88 0 = nI 8) (h1 : ∀ s2, s2 = hk_cpT s 16 88 16 → k none (s2, lm, rr, al)) : hk_Cl (d + 1) 125 [.ref 88, .ref 16] (s, lm, rr, al) k := by
  obtain ⟨rr', rfl⟩ : ∃ rr', rr = hk_uR (hk_uR rr' 16 2 17) 88 2 89 := ⟨rr, by rw [← hk_uR_id e1]; exact hk_uR_id e2⟩
  have em : (if s 88 0 < s 16 3 then s 88 0 else s 16 3) = s 16 3 := by
    rw [hq, hw.2.2.1]
    exact hk_minI hw.2.2.2 (by decide)
  have h2 : k none (hk_cp (hk_u2 s 88 3 (if s 88 0 < s 16 3 then s 88 0 else s 16 3)) 17 89 0 0 16, lm, hk_uR (hk_uR rr' 16 2 17) 88 2 89, al) := by
    rw [em]
    exact h1 _ rfl
  refine hk_mth hk_m125 rfl rfl (n := 1000) ?_
  refine And.intro (by decide) ?_
  exact h2
theorem c_cpT_18_90 (e1 : rr 18 2 = 19) (e2 : rr 90 2 = 91) (hw : hk_tw s 18 n) (hq : s 90 0 = nI 8) (h1 : ∀ s2, s2 = hk_cpT s 18 90 24 → k none (s2, lm, rr, al)) : hk_Cl (d + 1) 125 [.ref 90, .ref 18] (s, lm, rr, al) k := by
  obtain ⟨rr', rfl⟩ : ∃ rr', rr = hk_uR (hk_uR rr' 18 2 19) 90 2 91 := ⟨rr, by rw [← hk_uR_id e1]; exact hk_uR_id e2⟩
  have em : (if s 90 0 < s 18 3 then s 90 0 else s 18 3) = s 18 3 := by
    rw [hq, hw.2.2.1]
    exact hk_minI hw.2.2.2 (by decide)
  have h2 : k none (hk_cp (hk_u2 s 90 3 (if s 90 0 < s 18 3 then s 90 0 else s 18 3)) 19 91 0 0 24, lm, hk_uR (hk_uR rr' 18 2 19) 90 2 91, al) := by
    rw [em]
    exact h1 _ rfl
  refine hk_mth hk_m125 rfl rfl (n := 1000) ?_
  refine And.intro (by decide) ?_
  exact h2
theorem c_cpT_52_2 (e1 : rr 52 2 = 53) (e2 : rr 2 2 = 3) (hw : hk_tw s 52 n) (hq : s 2 0 = nI 6) (h1 : ∀ s2, s2 = hk_cpT s 52 2 54 → k none (s2, lm, rr, al)) : hk_Cl (d + 1) 125 [.ref 2, .ref 52] (s, lm, rr, al) k := by
  obtain ⟨rr', rfl⟩ : ∃ rr', rr = hk_uR (hk_uR rr' 52 2 53) 2 2 3 := ⟨rr, by rw [← hk_uR_id e1]; exact hk_uR_id e2⟩
  have em : (if s 2 0 < s 52 3 then s 2 0 else s 52 3) = s 52 3 := by
    rw [hq, hw.2.2.1]
    exact hk_minI hw.2.2.2 (by decide)
  have h2 : k none (hk_cp (hk_u2 s 2 3 (if s 2 0 < s 52 3 then s 2 0 else s 52 3)) 53 3 0 0 54, lm, hk_uR (hk_uR rr' 52 2 53) 2 2 3, al) := by
    rw [em]
    exact h1 _ rfl
  refine hk_mth hk_m125 rfl rfl (n := 1000) ?_
  refine And.intro (by decide) ?_
  exact h2
theorem c_cpT_54_4 (e1 : rr 54 2 = 55) (e2 : rr 4 2 = 5) (hw : hk_tw s 54 n) (hq : s 4 0 = nI 96) (h1 : ∀ s2, s2 = hk_cpT s 54 4 576 → k none (s2, lm, rr, al)) : hk_Cl (d + 1) 125 [.ref 4, .ref 54] (s, lm, rr, al) k := by
  obtain ⟨rr', rfl⟩ : ∃ rr', rr = hk_uR (hk_uR rr' 54 2 55) 4 2 5 := ⟨rr, by rw [← hk_uR_id e1]; exact hk_uR_id e2⟩
  have em : (if s 4 0 < s 54 3 then s 4 0 else s 54 3) = s 54 3 := by
    rw [hq, hw.2.2.1]
    exact hk_minI hw.2.2.2 (by decide)
  have h2 : k none (hk_cp (hk_u2 s 4 3 (if s 4 0 < s 54 3 then s 4 0 else s 54 3)) 55 5 0 0 576, lm, hk_uR (hk_uR rr' 54 2 55) 4 2 5, al) := by
    rw [em]
    exact h1 _ rfl
  refine hk_mth hk_m125 rfl rfl (n := 1000) ?_
  refine And.intro (by decide) ?_
  exact h2
theorem c_cpT_56_6 (e1 : rr 56 2 = 57) (e2 : rr 6 2 = 7) (hw : hk_tw s 56 n) (hq : s 6 0 = nI 150) (h1 : ∀ s2, s2 = hk_cpT s 56 6 750 → k none (s2, lm, rr, al)) : hk_Cl (d + 1) 125 [.ref 6, .ref 56] (s, lm, rr, al) k := by
  obtain ⟨rr', rfl⟩ : ∃ rr', rr = hk_uR (hk_uR rr' 56 2 57) 6 2 7 := ⟨rr, by rw [← hk_uR_id e1]; exact hk_uR_id e2⟩
  have em : (if s 6 0 < s 56 3 then s 6 0 else s 56 3) = s 56 3 := by
    rw [hq, hw.2.2.1]
    exact hk_minI hw.2.2.2 (by decide)
  have h2 : k none (hk_cp (hk_u2 s 6 3 (if s 6 0 < s 56 3 then s 6 0 else s 56 3)) 57 7 0 0 750, lm, hk_uR (hk_uR rr' 56 2 57) 6 2 7, al) := by
    rw [em]
    exact h1 _ rfl
  refine hk_mth hk_m125 rfl rfl (n := 1000) ?_
  refine And.intro (by decide) ?_
  exact h2
theorem c_cpT_58_8 (e1 : rr 58 2 = 59) (e2 : rr 8 2 = 9) (hw : hk_tw s 58 n) (hq : s 8 0 = nI 4) (h1 : ∀ s2, s2 = hk_cpT s 58 8 12 → k none (s2, lm, rr, al)) : hk_Cl (d + 1) 125 [.ref 8, .ref 58] (s, lm, rr, al) k := by
  obtain ⟨rr', rfl⟩ : ∃ rr', rr = hk_uR (hk_uR rr' 58 2 59) 8 2 9 := ⟨rr, by rw [← hk_uR_id e1]; exact hk_uR_id e2⟩
  have em : (if s 8 0 < s 58 3 then s 8 0 else s 58 3) = s 58 3 := by
    rw [hq, hw.2.2.1]
    exact hk_minI hw.2.2.2 (by decide)
  have h2 : k none (hk_cp (hk_u2 s 8 3 (if s 8 0 < s 58 3 then s 8 0 else s 58 3)) 59 9 0 0 12, lm, hk_uR (hk_uR rr' 58 2 59) 8 2 9, al) := by
    rw [em]
    exact h1 _ rfl
  refine hk_mth hk_m125 rfl rfl (n := 1000) ?_
  refine And.intro (by decide) ?_
  exact h2
theorem c_cpT_60_10 (e1 : rr 60 2 = 61) (e2 : rr 10 2 = 11) (hw : hk_tw s 60 n) (hq : s 10 0 = nI 4) (h1 : ∀ s2, s2 = hk_cpT s 60 10 244 → k none (s2, lm, rr, al)) : hk_Cl (d + 1) 125 [.ref 10, .ref 60] (s, lm, rr, al) k := by
  obtain ⟨rr', rfl⟩ : ∃ rr', rr = hk_uR (hk_uR rr' 60 2 61) 10 2 11 := ⟨rr, by rw [← hk_uR_id e1]; exact hk_uR_id e2⟩
  have em : (if s 10 0 < s 60 3 then s 10 0 else s 60 3) = s 60 3 := by
    rw [hq, hw.2.2.1]
    exact hk_minI hw.2.2.2 (by decide)
  have h2 : k none (hk_cp (hk_u2 s 10 3 (if s 10 0 < s 60 3 then s 10 0 else s 60 3)) 61 11 0 0 244, lm, hk_uR (hk_uR rr' 60 2 61) 10 2 11, al) := by
    rw [em]
    exact h1 _ rfl
  refine hk_mth hk_m125 rfl rfl (n := 1000) ?_
  refine And.intro (by decide) ?_
  exact h2
theorem c_cpT_62_12 (e1 : rr 62 2 = 63) (e2 : rr 12 2 = 13) (hw : hk_tw s 62 n) (hq : s 12 0 = nI 4) (h1 : ∀ s2, s2 = hk_cpT s 62 12 12 → k none (s2, lm, rr, al)) : hk_Cl (d + 1) 125 [.ref 12, .ref 62] (s, lm, rr, al) k := by
  obtain ⟨rr', rfl⟩ : ∃ rr', rr = hk_uR (hk_uR rr' 62 2 63) 12 2 13 := ⟨rr, by rw [← hk_uR_id e1]; exact hk_uR_id e2⟩
  have em : (if s 12 0 < s 62 3 then s 12 0 else s 62 3) = s 62 3 := by
    rw [hq, hw.2.2.1]
    exact hk_minI hw.2.2.2 (by decide)
  have h2 : k none (hk_cp (hk_u2 s 12 3 (if s 12 0 < s 62 3 then s 12 0 else s 62 3)) 63 13 0 0 12, lm, hk_uR (hk_uR rr' 62 2 63) 12 2 13, al) := by
    rw [em]
    exact h1 _ rfl
  refine hk_mth hk_m125 rfl rfl (n := 1000) ?_
  refine And.intro (by decide) ?_
  exact h2
theorem c_cpT_64_14 (e1 : rr 64 2 = 65) (e2 : rr 14 2 = 15) (hw : hk_tw s 64 n) (hq : s 14 0 = nI 20) (h1 : ∀ s2, s2 = hk_cpT s 64 14 40 → k none (s2, lm, rr, al)) : hk_Cl (d + 1) 125 [.ref 14, .ref 64] (s, lm, rr, al) k := by
  obtain ⟨rr', rfl⟩ : ∃ rr', rr = hk_uR (hk_uR rr' 64 2 65) 14 2 15 := ⟨rr, by rw [← hk_uR_id e1]; exact hk_uR_id e2⟩
  have em : (if s 14 0 < s 64 3 then s 14 0 else s 64 3) = s 64 3 := by
    rw [hq, hw.2.2.1]
    exact hk_minI hw.2.2.2 (by decide)
  have h2 : k none (hk_cp (hk_u2 s 14 3 (if s 14 0 < s 64 3 then s 14 0 else s 64 3)) 65 15 0 0 40, lm, hk_uR (hk_uR rr' 64 2 65) 14 2 15, al) := by
    rw [em]
    exact h1 _ rfl
  refine hk_mth hk_m125 rfl rfl (n := 1000) ?_
  refine And.intro (by decide) ?_
  exact h2
theorem c_cpT_66_16 (e1 : rr 66 2 = 67) (e2 : rr 16 2 = 17) (hw : hk_tw s 66 n) (hq : s 16 0 = nI 8) (h1 : ∀ s2, s2 = hk_cpT s 66 16 16 → k none (s2, lm, rr, al)) : hk_Cl (d + 1) 125 [.ref 16, .ref 66] (s, lm, rr, al) k := by
  obtain ⟨rr', rfl⟩ : ∃ rr', rr = hk_uR (hk_uR rr' 66 2 67) 16 2 17 := ⟨rr, by rw [← hk_uR_id e1]; exact hk_uR_id e2⟩
  have em : (if s 16 0 < s 66 3 then s 16 0 else s 66 3) = s 66 3 := by
    rw [hq, hw.2.2.1]
    exact hk_minI hw.2.2.2 (by decide)
  have h2 : k none (hk_cp (hk_u2 s 16 3 (if s 16 0 < s 66 3 then s 16 0 else s 66 3)) 67 17 0 0 16, lm, hk_uR (hk_uR rr' 66 2 67) 16 2 17, al) := by
    rw [em]
    exact h1 _ rfl
  refine hk_mth hk_m125 rfl rfl (n := 1000) ?_
  refine And.intro (by decide) ?_
  exact h2
theorem c_cpT_68_18 (e1 : rr 68 2 = 69) (e2 : rr 18 2 = 19) (hw : hk_tw s 68 n) (hq : s 18 0 = nI 8) (h1 : ∀ s2, s2 = hk_cpT s 68 18 24 → k none (s2, lm, rr, al)) : hk_Cl (d + 1) 125 [.ref 18, .ref 68] (s, lm, rr, al) k := by
  obtain ⟨rr', rfl⟩ : ∃ rr', rr = hk_uR (hk_uR rr' 68 2 69) 18 2 19 := ⟨rr, by rw [← hk_uR_id e1]; exact hk_uR_id e2⟩
  have em : (if s 18 0 < s 68 3 then s 18 0 else s 68 3) = s 68 3 := by
    rw [hq, hw.2.2.1]
    exact hk_minI hw.2.2.2 (by decide)
  have h2 : k none (hk_cp (hk_u2 s 18 3 (if s 18 0 < s 68 3 then s 18 0 else s 68 3)) 69 19 0 0 24, lm, hk_uR (hk_uR rr' 68 2 69) 18 2 19, al) := by
    rw [em]
    exact h1 _ rfl
  refine hk_mth hk_m125 rfl rfl (n := 1000) ?_
  refine And.intro (by decide) ?_
  exact h2
theorem c_cpT_74_2 (e1 : rr 74 2 = 75) (e2 : rr 2 2 = 3) (hw : hk_tw s 74 n) (hq : s 2 0 = nI 6) (h1 : ∀ s2, s2 = hk_cpT s 74 2 54 → k none (s2, lm, rr, al)) : hk_Cl (d + 1) 125 [.ref 2, .ref 74] (s, lm, rr, al) k := by
  obtain ⟨rr', rfl⟩ : ∃ rr', rr = hk_uR (hk_uR rr' 74 2 75) 2 2 3 := ⟨rr, by rw [← hk_uR_id e1]; exact hk_uR_id e2⟩
  have em : (if s 2 0 < s 74 3 then s 2 0 else s 74 3) = s 74 3 := by
    rw [hq, hw.2.2.1]
    exact hk_minI hw.2.2.2 (by decide)
  have h2 : k none (hk_cp (hk_u2 s 2 3 (if s 2 0 < s 74 3 then s 2 0 else s 74 3)) 75 3 0 0 54, lm, hk_uR (hk_uR rr' 74 2 75) 2 2 3, al) := by
    rw [em]
    exact h1 _ rfl
  refine hk_mth hk_m125 rfl rfl (n := 1000) ?_
  refine And.intro (by decide) ?_
  exact h2
theorem c_cpT_76_4 (e1 : rr 76 2 = 77) (e2 : rr 4 2 = 5) (hw : hk_tw s 76 n) (hq : s 4 0 = nI 96) (h1 : ∀ s2, s2 = hk_cpT s 76 4 576 → k none (s2, lm, rr, al)) : hk_Cl (d + 1) 125 [.ref 4, .ref 76] (s, lm, rr, al) k := by
  obtain ⟨rr', rfl⟩ : ∃ rr', rr = hk_uR (hk_uR rr' 76 2 77) 4 2 5 := ⟨rr, by rw [← hk_uR_id e1]; exact hk_uR_id e2⟩
  have em : (if s 4 0 < s 76 3 then s 4 0 else s 76 3) = s 76 3 := by
    rw [hq, hw.2.2.1]
    exact hk_minI hw.2.2.2 (by decide)
  have h2 : k none (hk_cp (hk_u2 s 4 3 (if s 4 0 < s 76 3 then s 4 0 else s 76 3)) 77 5 0 0 576, lm, hk_uR (hk_uR rr' 76 2 77) 4 2 5, al) := by
    rw [em]
    exact h1 _ rfl
  refine hk_mth hk_m125 rfl rfl (n := 1000) ?_
  refine And.intro (by decide) ?_
  exact h2
theorem c_cpT_78_6 (e1 : rr 78 2 = 79) (e2 : rr 6 2 = 7) (hw : hk_tw s 78 n) (hq : s 6 0 = nI 150) (h1 : ∀ s2, s2 = hk_cpT s 78 6 750 → k none (s2, lm, rr, al)) : hk_Cl (d + 1) 125 [.ref 6, .ref 78] (s, lm, rr, al) k := by
  obtain ⟨rr', rfl⟩ : ∃ rr', rr = hk_uR (hk_uR rr' 78 2 79) 6 2 7 := ⟨rr, by rw [← hk_uR_id e1]; exact hk_uR_id e2⟩
  have em : (if s 6 0 < s 78 3 then s 6 0 else s 78 3) = s 78 3 := by
    rw [hq, hw.2.2.1]
    exact hk_minI hw.2.2.2 (by decide)
  have h2 : k none (hk_cp (hk_u2 s 6 3 (if s 6 0 < s 78 3 then s 6 0 else s 78 3)) 79 7 0 0 750, lm, hk_uR (hk_uR rr' 78 2 79) 6 2 7, al) := by
    rw [em]
    exact h1 _ rfl
  refine hk_mth hk_m125 rfl rfl (n := 1000) ?_
  refine And.intro (by decide) ?_
  exact h2
theorem c_cpT_80_8 (e1 : rr 80 2 = 81) (e2 : rr 8 2 = 9) (hw : hk_tw s 80 n) (hq : s 8 0 = nI 4) (h1 : ∀ s2, s2 = hk_cpT s 80 8 12 → k none (s2, lm, rr, al)) : hk_Cl (d + 1) 125 [.ref 8, .ref 80] (s, lm, rr, al) k := by
  obtain ⟨rr', rfl⟩ : ∃ rr', rr = hk_uR (hk_uR rr' 80 2 81) 8 2 9 := ⟨rr, by rw [← hk_uR_id e1]; exact hk_uR_id e2⟩
  have em : (if s 8 0 < s 80 3 then s 8 0 else s 80 3) = s 80 3 := by
    rw [hq, hw.2.2.1]
    exact hk_minI hw.2.2.2 (by decide)
  have h2 : k none (hk_cp (hk_u2 s 8 3 (if s 8 0 < s 80 3 then s 8 0 else s 80 3)) 81 9 0 0 12, lm, hk_uR (hk_uR rr' 80 2 81) 8 2 9, al) := by
    rw [em]
    exact h1 _ rfl
  refine hk_mth hk_m125 rfl rfl (n := 1000) ?_
  refine And.intro (by decide) ?_
  exact h2
theorem c_cpT_82_10 (e1 : rr 82 2 = 83) (e2 : rr 10 2 = 11) (hw : hk_tw s 82 n) (hq : s 10 0 = nI 4) (h1 : ∀ s2, s2 = hk_cpT s 82 10 244 → k none (s2, lm, rr, al)) : hk_Cl (d + 1) 125 [.ref 10, .ref 82] (s, lm, rr, al) k := by
  obtain ⟨rr', rfl⟩ : ∃ rr', rr = hk_uR (hk_uR rr' 82 2 83) 10 2 11 := ⟨rr, by rw [← hk_uR_id e1]; exact hk_uR_id e2⟩
  have em : (if s 10 0 < s 82 3 then s 10 0 else s 82 3) = s 82 3 := by
    rw [hq, hw.2.2.1]
    exact hk_minI hw.2.2.2 (by decide)
  have h2 : k none (hk_cp (hk_u2 s 10 3 (if s 10 0 < s 82 3 then s 10 0 else s 82 3)) 83 11 0 0 244, lm, hk_uR (hk_uR rr' 82 2 83) 10 2 11, al) := by
    rw [em]
    exact h1 _ rfl
  refine hk_mth hk_m125 rfl rfl (n := 1000) ?_
  refine And.intro (by decide) ?_
  exact h2
theorem c_cpT_84_12 (e1 : rr 84 2 = 85) (e2 : rr 12 2 = 13) (hw : hk_tw s 84 n) (hq : s 12 0 = nI 4) (h1 : ∀ s2, s2 = hk_cpT s 84 12 12 → k none (s2, lm, rr, al)) : hk_Cl (d + 1) 125 [.ref 12, .ref 84] (s, lm, rr, al) k := by
  obtain ⟨rr', rfl⟩ : ∃ rr', rr = hk_uR (hk_uR rr' 84 2 85) 12 2 13 := ⟨rr, by rw [← hk_uR_id e1]; exact hk_uR_id e2⟩
  have em : (if s 12 0 < s 84 3 then s 12 0 else s 84 3) = s 84 3 := by
    rw [hq, hw.2.2.1]
    exact hk_minI hw.2.2.2 (by decide)
  have h2 : k none (hk_cp (hk_u2 s 12 3 (if s 12 0 < s 84 3 then s 12 0 else s 84 3)) 85 13 0 0 12, lm, hk_uR (hk_uR rr' 84 2 85) 12 2 13, al) := by
    rw [em]
    exact h1 _ rfl
  refine hk_mth hk_m125 rfl rfl (n := 1000) ?_
  refine And.intro (by decide) ?_
  exact h2
theorem c_cpT_86_14 (e1 : rr 86 2 = 87) (e2 : rr 14 2 = 15) (hw : hk_tw s 86 n) (hq : s 14 0 = nI 20) (h1 : ∀ s2, s2 = hk_cpT s 86 14 40 → k none (s2, lm, rr, al)) : hk_Cl (d + 1) 125 [.ref 14, .ref 86] (s, lm, rr, al) k := by
  obtain ⟨rr', rfl⟩ : ∃ rr', rr = hk_uR (hk_uR rr' 86 2 87) 14 2 15 := ⟨rr, by rw [← hk_uR_id e1]; exact hk_uR_id e2⟩
  have em : (if s 14 0 < s 86 3 then s 14 0 else s 86 3) = s 86 3 := by
    rw [hq, hw.2.2.1]
    exact hk_minI hw.2.2.2 (by decide)
  have h2 : k none (hk_cp (hk_u2 s 14 3 (if s 14 0 < s 86 3 then s 14 0 else s 86 3)) 87 15 0 0 40, lm, hk_uR (hk_uR rr' 86 2 87) 14 2 15, al) := by
    rw [em]
    exact h1 _ rfl
  refine hk_mth hk_m125 rfl rfl (n := 1000) ?_
  refine And.intro (by decide) ?_
  exact h2
theorem c_cpT_88_16 (e1 : rr 88 2 = 89) (e2 : rr 16 2 = 17) (hw : hk_tw s 88 n) (hq : s 16 0 = nI 8) (h1 : ∀ s2, s2 = hk_cpT s 88 16 16 → k none (s2, lm, rr, al)) : hk_Cl (d + 1) 125 [.ref 16, .ref 88] (s, lm, rr, al) k := by
  obtain ⟨rr', rfl⟩ : ∃ rr', rr = hk_uR (hk_uR rr' 88 2 89) 16 2 17 := ⟨rr, by rw [← hk_uR_id e1]; exact hk_uR_id e2⟩
  have em : (if s 16 0 < s 88 3 then s 16 0 else s 88 3) = s 88 3 := by
    rw [hq, hw.2.2.1]
    exact hk_minI hw.2.2.2 (by decide)
  have h2 : k none (hk_cp (hk_u2 s 16 3 (if s 16 0 < s 88 3 then s 16 0 else s 88 3)) 89 17 0 0 16, lm, hk_uR (hk_uR rr' 88 2 89) 16 2 17, al) := by
    rw [em]
    exact h1 _ rfl
  refine hk_mth hk_m125 rfl rfl (n := 1000) ?_
  refine And.intro (by decide) ?_
  exact h2
theorem c_cpT_90_18 (e1 : rr 90 2 = 91) (e2 : rr 18 2 = 19) (hw : hk_tw s 90 n) (hq : s 18 0 = nI 8) (h1 : ∀ s2, s2 = hk_cpT s 90 18 24 → k none (s2, lm, rr, al)) : hk_Cl (d + 1) 125 [.ref 18, .ref 90] (s, lm, rr, al) k := by
  obtain ⟨rr', rfl⟩ : ∃ rr', rr = hk_uR (hk_uR rr' 90 2 91) 18 2 19 := ⟨rr, by rw [← hk_uR_id e1]; exact hk_uR_id e2⟩
  have em : (if s 18 0 < s 90 3 then s 18 0 else s 90 3) = s 90 3 := by
    rw [hq, hw.2.2.1]
    exact hk_minI hw.2.2.2 (by decide)
  have h2 : k none (hk_cp (hk_u2 s 18 3 (if s 18 0 < s 90 3 then s 18 0 else s 90 3)) 91 19 0 0 24, lm, hk_uR (hk_uR rr' 90 2 91) 18 2 19, al) := by
    rw [em]
    exact h1 _ rfl
  refine hk_mth hk_m125 rfl rfl (n := 1000) ?_
  refine And.intro (by decide) ?_
  exact h2
theorem hk_cpd_tw {S D i j : Nat} {s s2 : Nat → Nat → Int32} (hSD : S + 22 ≤ D ∨ D + 22 ≤ S) (h : hk_cpd S D s s2 i) (hj : j < 9) (hw : hk_tw s (S + 1 + 2 * j) n) : hk_tw s2 (S + 1 + 2 * j) n := by
  obtain ⟨a1, a2, a3, a4⟩ := hw
  exact ⟨by rw [h.1 _ _ (by omega)]; exact a1, by rw [h.1 _ _ (by omega)]; exact a2, by rw [h.1 _ _ (by omega)]; exact a3, a4⟩
/-- the house at S is copied over the house at D -/
def hk_cpA (S D : Nat) (s s2 : Nat → Nat → Int32) : Prop := (∀ a x, (a < D ∨ D + 22 ≤ a) → s2 a x = s a x) ∧ (∀ j, j < 9 → ∀ x, x ≠ 3 → s2 (D + 1 + 2 * j) x = s (D + 1 + 2 * j) x) ∧ (∀ j, j < 9 → s2 (D + 1 + 2 * j) 3 = s (S + 1 + 2 * j) 3 ∧ ∀ x, x < hk_N j → s2 (D + 2 + 2 * j) x = s (S + 2 + 2 * j) x) ∧ (∀ x, x < 3 → s2 (D + 19) x = s (S + 19) x) ∧ (∀ x, x < 600 → s2 (D + 20) x = s (S + 20) x) ∧ (∀ x, x < 90 → s2 (D + 21) x = s (S + 21) x) ∧ (s2 D 12 = s S 12 ∧ s2 D 13 = s S 13 ∧ s2 D 14 = s S 14 ∧ s2 D 15 = s S 15 ∧ s2 D 16 = s S 16)
theorem hk_cpd_end {S D : Nat} {s s9 c1 c2 c3 u1 u2 u3 u4 u5 : Nat → Nat → Int32} (hSD : S + 22 ≤ D ∨ D + 22 ≤ S) (h : hk_cpd S D s s9 9) (e1 : c1 = hk_cp s9 (S + 19) (D + 19) 0 0 3) (e2 : c2 = hk_cp c1 (S + 20) (D + 20) 0 0 600) (e3 : c3 = hk_cp c2 (S + 21) (D + 21) 0 0 90) (f1 : u1 = hk_u2 c3 D 12 (c3 S 12)) (f2 : u2 = hk_u2 u1 D 13 (u1 S 13)) (f3 : u3 = hk_u2 u2 D 14 (u2 S 14)) (f4 : u4 = hk_u2 u3 D 15 (u3 S 15)) (f5 : u5 = hk_u2 u4 D 16 (u4 S 16)) : hk_cpA S D s u5 := by
  have o5 : ∀ a x, a ≠ D → u5 a x = c3 a x := fun a x ha => by
    rw [f5, hk_u2o (by omega), f4, hk_u2o (by omega), f3, hk_u2o (by omega), f2, hk_u2o (by omega), f1, hk_u2o (by omega)]
  obtain ⟨h1, h2, h3⟩ := h
  have oc : ∀ a x, a ≠ D + 19 → a ≠ D + 20 → a ≠ D + 21 → c3 a x = s9 a x := fun a x h1 h2 h3 => by
    rw [e3, hk_cp_o (by omega), e2, hk_cp_o (by omega), e1, hk_cp_o (by omega)]
  have o9 : ∀ a x, a ≠ D → a ≠ D + 19 → a ≠ D + 20 → a ≠ D + 21 → u5 a x = s9 a x := fun a x h0 h1 h2 h3 => by
    rw [o5 a x h0, oc a x h1 h2 h3]
  have oS : ∀ x, c3 S x = s S x := fun x => by
    rw [oc S x (by omega) (by omega) (by omega), h1 _ _ (by omega)]
  have g1 : ∀ x, u1 S x = c3 S x := fun x => by rw [f1, hk_u2o (by omega)]
  have g2 : ∀ x, u2 S x = c3 S x := fun x => by rw [f2, hk_u2o (by omega), g1]
  have g3 : ∀ x, u3 S x = c3 S x := fun x => by rw [f3, hk_u2o (by omega), g2]
  have g4 : ∀ x, u4 S x = c3 S x := fun x => by rw [f4, hk_u2o (by omega), g3]
  refine ⟨fun a x ha => ?_, fun j hj x hx => ?_, fun j hj => ⟨?_, fun x hx => ?_⟩, fun x hx => ?_, fun x hx => ?_, fun x hx => ?_, ?_, ?_, ?_, ?_, ?_⟩
  · by_cases h0 : a = D
    · omega
    · rw [o9 a x (by omega) (by omega) (by omega) (by omega)]
      exact h1 a x ha
  · rw [o9 _ _ (by omega) (by omega) (by omega) (by omega)]
    exact h2 j hj x hx
  · rw [o9 _ _ (by omega) (by omega) (by omega) (by omega)]
    exact (h3 j hj).1
  · rw [o9 _ _ (by omega) (by omega) (by omega) (by omega)]
    exact (h3 j hj).2 x hx
  · rw [o5 _ _ (by omega), e3, hk_cp_o (by omega), e2, hk_cp_o (by omega), e1, hk_cp_in hx, h1 _ _ (by omega)]
  · rw [o5 _ _ (by omega), e3, hk_cp_o (by omega), e2, hk_cp_in hx, e1, hk_cp_o (by omega), h1 _ _ (by omega)]
  · rw [o5 _ _ (by omega), e3, hk_cp_in hx, e2, hk_cp_o (by omega), e1, hk_cp_o (by omega), h1 _ _ (by omega)]
  · rw [f5, hk_u2o (by omega), f4, hk_u2o (by omega), f3, hk_u2o (by omega), f2, hk_u2o (by omega), f1, hk_u2s, oS]
  · rw [f5, hk_u2o (by omega), f4, hk_u2o (by omega), f3, hk_u2o (by omega), f2, hk_u2s, g1, oS]
  · rw [f5, hk_u2o (by omega), f4, hk_u2o (by omega), f3, hk_u2s, g2, oS]
  · rw [f5, hk_u2o (by omega), f4, hk_u2s, g3, oS]
  · rw [f5, hk_u2s, g4, oS]
/-- the references with rows X for images -/
def hk_RX (i0 i1 b : Nat) (X : List (List Nat)) (p k : Nat) : Nat := (((([[1, 23, 24, 25, 29, 36, 37], [2, 4, 6, 8, 10, 12, 14, 16, 18, 20, 21, 22], [0, 0, 3], [], [0, 0, 5], [], [0, 0, 7], [], [0, 0, 9], [], [0, 0, 11], [], [0, 0, 13], [], [0, 0, 15], [], [0, 0, 17], [], [0, 0, 19], [], [], [], [], [i0, i1], [1], [26, 27, 28], [], [], [], [30, 31, 32, 33, 34, 1, b], [], [], [], [], [], [], [], [38, 39], [], [], [41, 42, 43, 44, 0, 45, 46, 0, 47, 48, 49, 50]] ++ ([[], [], [], [], [], [], [], [], [], []] ++ X))[p]?).getD [])[k]?).getD 0
theorem c_cpH_1_51 {R : List (List Nat)} (hS : ∀ j, j < 9 → ∃ n, hk_tw s (1 + 1 + 2 * j) n) (hD : ∀ j, j < 9 → s (51 + 1 + 2 * j) 0 = nI (hk_mo (2 + 2 * j))) (h1 : ∀ s2, hk_cpA 1 51 s s2 → k none (s2, lm, hk_RX i0 i1 b (hk_hx 51 ++ R), al)) : hk_Cl (d + 2) 124 [.ref 51, .ref 1] (s, lm, hk_RX i0 i1 b (hk_hx 51 ++ R), al) k := by
  have hSD : 1 + 22 ≤ 51 ∨ 51 + 22 ≤ 1 := by omega
  have q0 : hk_cpd 1 51 s s 0 := ⟨fun _ _ _ => rfl, fun _ _ _ _ => rfl, fun j hj => absurd hj (Nat.not_lt_zero j)⟩
  refine hk_mth hk_m124 rfl rfl (n := 1000) ?_
  obtain ⟨n0, w0⟩ := hS 0 (by omega)
  refine c_cpT_2_52 rfl rfl (hk_cpd_tw (j := 0) hSD q0 (by omega) w0) ((q0.2.1 0 (by omega) 0 (by omega)).trans (hD 0 (by omega))) (fun s1 e1 => ?_)
  have q1 : hk_cpd 1 51 s s1 1 := by rw [e1]; exact hk_cpd_step hSD (by omega) q0
  clear e1
  obtain ⟨n1, w1⟩ := hS 1 (by omega)
  refine c_cpT_4_54 rfl rfl (hk_cpd_tw (j := 1) hSD q1 (by omega) w1) ((q1.2.1 1 (by omega) 0 (by omega)).trans (hD 1 (by omega))) (fun s2 e2 => ?_)
  have q2 : hk_cpd 1 51 s s2 2 := by rw [e2]; exact hk_cpd_step hSD (by omega) q1
  clear e2
  obtain ⟨n2, w2⟩ := hS 2 (by omega)
  refine c_cpT_6_56 rfl rfl (hk_cpd_tw (j := 2) hSD q2 (by omega) w2) ((q2.2.1 2 (by omega) 0 (by omega)).trans (hD 2 (by omega))) (fun s3 e3 => ?_)
  have q3 : hk_cpd 1 51 s s3 3 := by rw [e3]; exact hk_cpd_step hSD (by omega) q2
  clear e3
  obtain ⟨n3, w3⟩ := hS 3 (by omega)
  refine c_cpT_8_58 rfl rfl (hk_cpd_tw (j := 3) hSD q3 (by omega) w3) ((q3.2.1 3 (by omega) 0 (by omega)).trans (hD 3 (by omega))) (fun s4 e4 => ?_)
  have q4 : hk_cpd 1 51 s s4 4 := by rw [e4]; exact hk_cpd_step hSD (by omega) q3
  clear e4
  obtain ⟨n4, w4⟩ := hS 4 (by omega)
  refine c_cpT_10_60 rfl rfl (hk_cpd_tw (j := 4) hSD q4 (by omega) w4) ((q4.2.1 4 (by omega) 0 (by omega)).trans (hD 4 (by omega))) (fun s5 e5 => ?_)
  have q5 : hk_cpd 1 51 s s5 5 := by rw [e5]; exact hk_cpd_step hSD (by omega) q4
  clear e5
  obtain ⟨n5, w5⟩ := hS 5 (by omega)
  refine c_cpT_12_62 rfl rfl (hk_cpd_tw (j := 5) hSD q5 (by omega) w5) ((q5.2.1 5 (by omega) 0 (by omega)).trans (hD 5 (by omega))) (fun s6 e6 => ?_)
  have q6 : hk_cpd 1 51 s s6 6 := by rw [e6]; exact hk_cpd_step hSD (by omega) q5
  clear e6
  obtain ⟨n6, w6⟩ := hS 6 (by omega)
  refine c_cpT_14_64 rfl rfl (hk_cpd_tw (j := 6) hSD q6 (by omega) w6) ((q6.2.1 6 (by omega) 0 (by omega)).trans (hD 6 (by omega))) (fun s7 e7 => ?_)
  have q7 : hk_cpd 1 51 s s7 7 := by rw [e7]; exact hk_cpd_step hSD (by omega) q6
  clear e7
  obtain ⟨n7, w7⟩ := hS 7 (by omega)
  refine c_cpT_16_66 rfl rfl (hk_cpd_tw (j := 7) hSD q7 (by omega) w7) ((q7.2.1 7 (by omega) 0 (by omega)).trans (hD 7 (by omega))) (fun s8 e8 => ?_)
  have q8 : hk_cpd 1 51 s s8 8 := by rw [e8]; exact hk_cpd_step hSD (by omega) q7
  clear e8
  obtain ⟨n8, w8⟩ := hS 8 (by omega)
  refine c_cpT_18_68 rfl rfl (hk_cpd_tw (j := 8) hSD q8 (by omega) w8) ((q8.2.1 8 (by omega) 0 (by omega)).trans (hD 8 (by omega))) (fun s9 e9 => ?_)
  have q9 : hk_cpd 1 51 s s9 9 := by rw [e9]; exact hk_cpd_step hSD (by omega) q8
  clear e9
  refine hk_cpn (N := 3) (by decide) (by decide) (by decide) (by decide) (fun c1 ec1 => ?_)
  refine hk_cpn (N := 600) (by decide) (by decide) (by decide) (by decide) (fun c2 ec2 => ?_)
  refine hk_cpn (N := 90) (by decide) (by decide) (by decide) (by decide) (fun c3 ec3 => ?_)
  exact h1 _ (hk_cpd_end hSD q9 ec1 ec2 ec3 rfl rfl rfl rfl rfl)
theorem c_cpH_1_73 (hS : ∀ j, j < 9 → ∃ n, hk_tw s (1 + 1 + 2 * j) n) (hD : ∀ j, j < 9 → s (73 + 1 + 2 * j) 0 = nI (hk_mo (2 + 2 * j))) (h1 : ∀ s2, hk_cpA 1 73 s s2 → k none (s2, lm, hk_RX i0 i1 b (hk_hx 51 ++ hk_hx 73), al)) : hk_Cl (d + 2) 124 [.ref 73, .ref 1] (s, lm, hk_RX i0 i1 b (hk_hx 51 ++ hk_hx 73), al) k := by
  have hSD : 1 + 22 ≤ 73 ∨ 73 + 22 ≤ 1 := by omega
  have q0 : hk_cpd 1 73 s s 0 := ⟨fun _ _ _ => rfl, fun _ _ _ _ => rfl, fun j hj => absurd hj (Nat.not_lt_zero j)⟩
  refine hk_mth hk_m124 rfl rfl (n := 1000) ?_
  obtain ⟨n0, w0⟩ := hS 0 (by omega)
  refine c_cpT_2_74 rfl rfl (hk_cpd_tw (j := 0) hSD q0 (by omega) w0) ((q0.2.1 0 (by omega) 0 (by omega)).trans (hD 0 (by omega))) (fun s1 e1 => ?_)
  have q1 : hk_cpd 1 73 s s1 1 := by rw [e1]; exact hk_cpd_step hSD (by omega) q0
  clear e1
  obtain ⟨n1, w1⟩ := hS 1 (by omega)
  refine c_cpT_4_76 rfl rfl (hk_cpd_tw (j := 1) hSD q1 (by omega) w1) ((q1.2.1 1 (by omega) 0 (by omega)).trans (hD 1 (by omega))) (fun s2 e2 => ?_)
  have q2 : hk_cpd 1 73 s s2 2 := by rw [e2]; exact hk_cpd_step hSD (by omega) q1
  clear e2
  obtain ⟨n2, w2⟩ := hS 2 (by omega)
  refine c_cpT_6_78 rfl rfl (hk_cpd_tw (j := 2) hSD q2 (by omega) w2) ((q2.2.1 2 (by omega) 0 (by omega)).trans (hD 2 (by omega))) (fun s3 e3 => ?_)
  have q3 : hk_cpd 1 73 s s3 3 := by rw [e3]; exact hk_cpd_step hSD (by omega) q2
  clear e3
  obtain ⟨n3, w3⟩ := hS 3 (by omega)
  refine c_cpT_8_80 rfl rfl (hk_cpd_tw (j := 3) hSD q3 (by omega) w3) ((q3.2.1 3 (by omega) 0 (by omega)).trans (hD 3 (by omega))) (fun s4 e4 => ?_)
  have q4 : hk_cpd 1 73 s s4 4 := by rw [e4]; exact hk_cpd_step hSD (by omega) q3
  clear e4
  obtain ⟨n4, w4⟩ := hS 4 (by omega)
  refine c_cpT_10_82 rfl rfl (hk_cpd_tw (j := 4) hSD q4 (by omega) w4) ((q4.2.1 4 (by omega) 0 (by omega)).trans (hD 4 (by omega))) (fun s5 e5 => ?_)
  have q5 : hk_cpd 1 73 s s5 5 := by rw [e5]; exact hk_cpd_step hSD (by omega) q4
  clear e5
  obtain ⟨n5, w5⟩ := hS 5 (by omega)
  refine c_cpT_12_84 rfl rfl (hk_cpd_tw (j := 5) hSD q5 (by omega) w5) ((q5.2.1 5 (by omega) 0 (by omega)).trans (hD 5 (by omega))) (fun s6 e6 => ?_)
  have q6 : hk_cpd 1 73 s s6 6 := by rw [e6]; exact hk_cpd_step hSD (by omega) q5
  clear e6
  obtain ⟨n6, w6⟩ := hS 6 (by omega)
  refine c_cpT_14_86 rfl rfl (hk_cpd_tw (j := 6) hSD q6 (by omega) w6) ((q6.2.1 6 (by omega) 0 (by omega)).trans (hD 6 (by omega))) (fun s7 e7 => ?_)
  have q7 : hk_cpd 1 73 s s7 7 := by rw [e7]; exact hk_cpd_step hSD (by omega) q6
  clear e7
  obtain ⟨n7, w7⟩ := hS 7 (by omega)
  refine c_cpT_16_88 rfl rfl (hk_cpd_tw (j := 7) hSD q7 (by omega) w7) ((q7.2.1 7 (by omega) 0 (by omega)).trans (hD 7 (by omega))) (fun s8 e8 => ?_)
  have q8 : hk_cpd 1 73 s s8 8 := by rw [e8]; exact hk_cpd_step hSD (by omega) q7
  clear e8
  obtain ⟨n8, w8⟩ := hS 8 (by omega)
  refine c_cpT_18_90 rfl rfl (hk_cpd_tw (j := 8) hSD q8 (by omega) w8) ((q8.2.1 8 (by omega) 0 (by omega)).trans (hD 8 (by omega))) (fun s9 e9 => ?_)
  have q9 : hk_cpd 1 73 s s9 9 := by rw [e9]; exact hk_cpd_step hSD (by omega) q8
  clear e9
  refine hk_cpn (N := 3) (by decide) (by decide) (by decide) (by decide) (fun c1 ec1 => ?_)
  refine hk_cpn (N := 600) (by decide) (by decide) (by decide) (by decide) (fun c2 ec2 => ?_)
  refine hk_cpn (N := 90) (by decide) (by decide) (by decide) (by decide) (fun c3 ec3 => ?_)
  exact h1 _ (hk_cpd_end hSD q9 ec1 ec2 ec3 rfl rfl rfl rfl rfl)
theorem c_cpH_51_1 {R : List (List Nat)} (hS : ∀ j, j < 9 → ∃ n, hk_tw s (51 + 1 + 2 * j) n) (hD : ∀ j, j < 9 → s (1 + 1 + 2 * j) 0 = nI (hk_mo (2 + 2 * j))) (h1 : ∀ s2, hk_cpA 51 1 s s2 → k none (s2, lm, hk_RX i0 i1 b (hk_hx 51 ++ R), al)) : hk_Cl (d + 2) 124 [.ref 1, .ref 51] (s, lm, hk_RX i0 i1 b (hk_hx 51 ++ R), al) k := by
  have hSD : 51 + 22 ≤ 1 ∨ 1 + 22 ≤ 51 := by omega
  have q0 : hk_cpd 51 1 s s 0 := ⟨fun _ _ _ => rfl, fun _ _ _ _ => rfl, fun j hj => absurd hj (Nat.not_lt_zero j)⟩
  refine hk_mth hk_m124 rfl rfl (n := 1000) ?_
  obtain ⟨n0, w0⟩ := hS 0 (by omega)
  refine c_cpT_52_2 rfl rfl (hk_cpd_tw (j := 0) hSD q0 (by omega) w0) ((q0.2.1 0 (by omega) 0 (by omega)).trans (hD 0 (by omega))) (fun s1 e1 => ?_)
  have q1 : hk_cpd 51 1 s s1 1 := by rw [e1]; exact hk_cpd_step hSD (by omega) q0
  clear e1
  obtain ⟨n1, w1⟩ := hS 1 (by omega)
  refine c_cpT_54_4 rfl rfl (hk_cpd_tw (j := 1) hSD q1 (by omega) w1) ((q1.2.1 1 (by omega) 0 (by omega)).trans (hD 1 (by omega))) (fun s2 e2 => ?_)
  have q2 : hk_cpd 51 1 s s2 2 := by rw [e2]; exact hk_cpd_step hSD (by omega) q1
  clear e2
  obtain ⟨n2, w2⟩ := hS 2 (by omega)
  refine c_cpT_56_6 rfl rfl (hk_cpd_tw (j := 2) hSD q2 (by omega) w2) ((q2.2.1 2 (by omega) 0 (by omega)).trans (hD 2 (by omega))) (fun s3 e3 => ?_)
  have q3 : hk_cpd 51 1 s s3 3 := by rw [e3]; exact hk_cpd_step hSD (by omega) q2
  clear e3
  obtain ⟨n3, w3⟩ := hS 3 (by omega)
  refine c_cpT_58_8 rfl rfl (hk_cpd_tw (j := 3) hSD q3 (by omega) w3) ((q3.2.1 3 (by omega) 0 (by omega)).trans (hD 3 (by omega))) (fun s4 e4 => ?_)
  have q4 : hk_cpd 51 1 s s4 4 := by rw [e4]; exact hk_cpd_step hSD (by omega) q3
  clear e4
  obtain ⟨n4, w4⟩ := hS 4 (by omega)
  refine c_cpT_60_10 rfl rfl (hk_cpd_tw (j := 4) hSD q4 (by omega) w4) ((q4.2.1 4 (by omega) 0 (by omega)).trans (hD 4 (by omega))) (fun s5 e5 => ?_)
  have q5 : hk_cpd 51 1 s s5 5 := by rw [e5]; exact hk_cpd_step hSD (by omega) q4
  clear e5
  obtain ⟨n5, w5⟩ := hS 5 (by omega)
  refine c_cpT_62_12 rfl rfl (hk_cpd_tw (j := 5) hSD q5 (by omega) w5) ((q5.2.1 5 (by omega) 0 (by omega)).trans (hD 5 (by omega))) (fun s6 e6 => ?_)
  have q6 : hk_cpd 51 1 s s6 6 := by rw [e6]; exact hk_cpd_step hSD (by omega) q5
  clear e6
  obtain ⟨n6, w6⟩ := hS 6 (by omega)
  refine c_cpT_64_14 rfl rfl (hk_cpd_tw (j := 6) hSD q6 (by omega) w6) ((q6.2.1 6 (by omega) 0 (by omega)).trans (hD 6 (by omega))) (fun s7 e7 => ?_)
  have q7 : hk_cpd 51 1 s s7 7 := by rw [e7]; exact hk_cpd_step hSD (by omega) q6
  clear e7
  obtain ⟨n7, w7⟩ := hS 7 (by omega)
  refine c_cpT_66_16 rfl rfl (hk_cpd_tw (j := 7) hSD q7 (by omega) w7) ((q7.2.1 7 (by omega) 0 (by omega)).trans (hD 7 (by omega))) (fun s8 e8 => ?_)
  have q8 : hk_cpd 51 1 s s8 8 := by rw [e8]; exact hk_cpd_step hSD (by omega) q7
  clear e8
  obtain ⟨n8, w8⟩ := hS 8 (by omega)
  refine c_cpT_68_18 rfl rfl (hk_cpd_tw (j := 8) hSD q8 (by omega) w8) ((q8.2.1 8 (by omega) 0 (by omega)).trans (hD 8 (by omega))) (fun s9 e9 => ?_)
  have q9 : hk_cpd 51 1 s s9 9 := by rw [e9]; exact hk_cpd_step hSD (by omega) q8
  clear e9
  refine hk_cpn (N := 3) (by decide) (by decide) (by decide) (by decide) (fun c1 ec1 => ?_)
  refine hk_cpn (N := 600) (by decide) (by decide) (by decide) (by decide) (fun c2 ec2 => ?_)
  refine hk_cpn (N := 90) (by decide) (by decide) (by decide) (by decide) (fun c3 ec3 => ?_)
  exact h1 _ (hk_cpd_end hSD q9 ec1 ec2 ec3 rfl rfl rfl rfl rfl)
theorem c_cpH_73_1 (hS : ∀ j, j < 9 → ∃ n, hk_tw s (73 + 1 + 2 * j) n) (hD : ∀ j, j < 9 → s (1 + 1 + 2 * j) 0 = nI (hk_mo (2 + 2 * j))) (h1 : ∀ s2, hk_cpA 73 1 s s2 → k none (s2, lm, hk_RX i0 i1 b (hk_hx 51 ++ hk_hx 73), al)) : hk_Cl (d + 2) 124 [.ref 1, .ref 73] (s, lm, hk_RX i0 i1 b (hk_hx 51 ++ hk_hx 73), al) k := by
  have hSD : 73 + 22 ≤ 1 ∨ 1 + 22 ≤ 73 := by omega
  have q0 : hk_cpd 73 1 s s 0 := ⟨fun _ _ _ => rfl, fun _ _ _ _ => rfl, fun j hj => absurd hj (Nat.not_lt_zero j)⟩
  refine hk_mth hk_m124 rfl rfl (n := 1000) ?_
  obtain ⟨n0, w0⟩ := hS 0 (by omega)
  refine c_cpT_74_2 rfl rfl (hk_cpd_tw (j := 0) hSD q0 (by omega) w0) ((q0.2.1 0 (by omega) 0 (by omega)).trans (hD 0 (by omega))) (fun s1 e1 => ?_)
  have q1 : hk_cpd 73 1 s s1 1 := by rw [e1]; exact hk_cpd_step hSD (by omega) q0
  clear e1
  obtain ⟨n1, w1⟩ := hS 1 (by omega)
  refine c_cpT_76_4 rfl rfl (hk_cpd_tw (j := 1) hSD q1 (by omega) w1) ((q1.2.1 1 (by omega) 0 (by omega)).trans (hD 1 (by omega))) (fun s2 e2 => ?_)
  have q2 : hk_cpd 73 1 s s2 2 := by rw [e2]; exact hk_cpd_step hSD (by omega) q1
  clear e2
  obtain ⟨n2, w2⟩ := hS 2 (by omega)
  refine c_cpT_78_6 rfl rfl (hk_cpd_tw (j := 2) hSD q2 (by omega) w2) ((q2.2.1 2 (by omega) 0 (by omega)).trans (hD 2 (by omega))) (fun s3 e3 => ?_)
  have q3 : hk_cpd 73 1 s s3 3 := by rw [e3]; exact hk_cpd_step hSD (by omega) q2
  clear e3
  obtain ⟨n3, w3⟩ := hS 3 (by omega)
  refine c_cpT_80_8 rfl rfl (hk_cpd_tw (j := 3) hSD q3 (by omega) w3) ((q3.2.1 3 (by omega) 0 (by omega)).trans (hD 3 (by omega))) (fun s4 e4 => ?_)
  have q4 : hk_cpd 73 1 s s4 4 := by rw [e4]; exact hk_cpd_step hSD (by omega) q3
  clear e4
  obtain ⟨n4, w4⟩ := hS 4 (by omega)
  refine c_cpT_82_10 rfl rfl (hk_cpd_tw (j := 4) hSD q4 (by omega) w4) ((q4.2.1 4 (by omega) 0 (by omega)).trans (hD 4 (by omega))) (fun s5 e5 => ?_)
  have q5 : hk_cpd 73 1 s s5 5 := by rw [e5]; exact hk_cpd_step hSD (by omega) q4
  clear e5
  obtain ⟨n5, w5⟩ := hS 5 (by omega)
  refine c_cpT_84_12 rfl rfl (hk_cpd_tw (j := 5) hSD q5 (by omega) w5) ((q5.2.1 5 (by omega) 0 (by omega)).trans (hD 5 (by omega))) (fun s6 e6 => ?_)
  have q6 : hk_cpd 73 1 s s6 6 := by rw [e6]; exact hk_cpd_step hSD (by omega) q5
  clear e6
  obtain ⟨n6, w6⟩ := hS 6 (by omega)
  refine c_cpT_86_14 rfl rfl (hk_cpd_tw (j := 6) hSD q6 (by omega) w6) ((q6.2.1 6 (by omega) 0 (by omega)).trans (hD 6 (by omega))) (fun s7 e7 => ?_)
  have q7 : hk_cpd 73 1 s s7 7 := by rw [e7]; exact hk_cpd_step hSD (by omega) q6
  clear e7
  obtain ⟨n7, w7⟩ := hS 7 (by omega)
  refine c_cpT_88_16 rfl rfl (hk_cpd_tw (j := 7) hSD q7 (by omega) w7) ((q7.2.1 7 (by omega) 0 (by omega)).trans (hD 7 (by omega))) (fun s8 e8 => ?_)
  have q8 : hk_cpd 73 1 s s8 8 := by rw [e8]; exact hk_cpd_step hSD (by omega) q7
  clear e8
  obtain ⟨n8, w8⟩ := hS 8 (by omega)
  refine c_cpT_90_18 rfl rfl (hk_cpd_tw (j := 8) hSD q8 (by omega) w8) ((q8.2.1 8 (by omega) 0 (by omega)).trans (hD 8 (by omega))) (fun s9 e9 => ?_)
  have q9 : hk_cpd 73 1 s s9 9 := by rw [e9]; exact hk_cpd_step hSD (by omega) q8
  clear e9
  refine hk_cpn (N := 3) (by decide) (by decide) (by decide) (by decide) (fun c1 ec1 => ?_)
  refine hk_cpn (N := 600) (by decide) (by decide) (by decide) (by decide) (fun c2 ec2 => ?_)
  refine hk_cpn (N := 90) (by decide) (by decide) (by decide) (by decide) (fun c3 ec3 => ?_)
  exact h1 _ (hk_cpd_end hSD q9 ec1 ec2 ec3 rfl rfl rfl rfl rfl)
end HKI
