/-! ===== the planner makes the plan ===== -/
def hk_pw4 (fl gn : Nat → Nat) (N X : Nat) : Nat → Nat
  | 0 => 0
  | h + 1 => hk_pw4 fl gn N X h + (1000 * min 10 (hk_e4 fl N h + hk_e4 gn N h * hk_dg X h) - hk_dg X h)
section HKPE
variable {fl gn cn : Nat → Nat} {N D I X y : Nat}
theorem hk_pw4_e (hN : N ≤ 4) (h0 : ∀ h, N ≤ h → h < 4 → hk_dg X h = 0) : hk_pw4 fl gn N X 4 = hk_pwo fl gn X N := by
  have h1 : ∀ h, h ≤ N → hk_pw4 fl gn N X h = hk_pwo fl gn X h := fun h => by
    induction h with
    | zero => intro _; rfl
    | succ h ih =>
      intro hh
      rw [hk_pw4, hk_pwo, ih (by omega)]
      unfold hk_e4 hk_tl
      rw [if_pos (show h < N by omega), if_pos (show h < N by omega)]
  have h2 : ∀ g, N + g ≤ 4 → hk_pw4 fl gn N X (N + g) = hk_pwo fl gn X N := fun g => by
    induction g with
    | zero => intro _; exact h1 N (Nat.le_refl _)
    | succ g ih =>
      intro hh
      show hk_pw4 fl gn N X (N + g) + (1000 * min 10 (hk_e4 fl N (N + g) + hk_e4 gn N (N + g) * hk_dg X (N + g)) - hk_dg X (N + g)) = _
      rw [ih (by omega), h0 (N + g) (by omega) (by omega)]
      unfold hk_e4
      rw [if_neg (by omega), if_neg (by omega)]
      rfl
  have := h2 (4 - N) (by omega)
  rw [show N + (4 - N) = 4 by omega] at this
  exact this
theorem hk_Gd0 (g1 : hk_Gd cn N I y X) : ∀ h, N ≤ h → h < 4 → hk_dg X h = 0 := fun h h2 h3 => by
  have := g1.2.1 h h3
  unfold hk_cap at this
  rw [if_neg (by omega)] at this
  omega
theorem hk_pwo_le : ∀ n, hk_pwo fl gn X n ≤ 10000 * n
  | 0 => Nat.le_refl _
  | n + 1 => by
    have ih := hk_pwo_le n
    rw [hk_pwo]
    omega
theorem hk_C_le (hN : N ≤ 4) : ∀ g X, hk_C fl gn cn N D I g X ≤ 40000
  | 0, X => by
    have := hk_pwo_le (fl := fl) (gn := gn) (X := X) N
    show hk_pwo fl gn X N ≤ 40000
    omega
  | g + 1, X => by
    show hk_pmx (fun set => hk_pdc fl gn cn N D I X (9 - g) set) (fun set => hk_C fl gn cn N D I g (hk_dt X set N)) 16 ≤ 40000
    rcases hk_pmx_at (dc := fun set => hk_pdc fl gn cn N D I X (9 - g) set) (v := fun set => hk_C fl gn cn N D I g (hk_dt X set N)) 16 with e | ⟨i, _, _, e⟩
    · omega
    · rw [e]
      exact hk_C_le hN g _
theorem hk_sbi (hN : N ≤ 4) (hy : y ≤ 9) (g1 : hk_Gd cn N I y X) {set : Nat} (hd : hk_pdc fl gn cn N D I X y set) : hk_stX fl gn N (hk_dt X set N) 4 = hk_stX fl gn N X 4 + hk_sb (hk_sd fl gn N) set 4 := by
  refine hk_sXn (fun h hh => ?_) 4 (Nat.le_refl _)
  rw [(hk_dg_dt (y := y) (set := set) hN g1.1 (hk_Gd9 hy g1)).2 h hh]
  by_cases c : set / 2 ^ h % 2 = 1
  · by_cases c2 : h < N
    · rw [if_pos ⟨c2, c⟩, if_pos c]
    · exfalso
      have h1 := hd.1
      have h2 : set < 2 ^ h := Nat.lt_of_lt_of_le h1 (Nat.pow_le_pow_right (n := 2) (by omega) (by omega))
      rw [Nat.div_eq_of_lt h2] at c
      omega
  · rw [if_neg (fun q => c q.2), if_neg c]
end HKPE
/-- what the row of bests holds -/
def hk_Mm (s : Nat → Nat → Int32) (fl gn cn : Nat → Nat) (N D I : Nat) : Prop := ∀ y, y < 10 → ∀ X, hk_Gd cn N I y X → hk_In fl gn N X → s 95 (y * hk_sd fl gn N 4 + hk_stX fl gn N X 4) = -1 ∨ s 95 (y * hk_sd fl gn N 4 + hk_stX fl gn N X 4) = nI (hk_C fl gn cn N D I (10 - y) X)
section HKPF
variable {d n a bb r : Nat} {v w x z : Int32} {s : Nat → Nat → Int32} {lm : Nat → Nat → Int64} {i0 i1 b : Nat} {al : List Nat} {k : Option Value → hk_H → Prop} {hp : hk_H} {fl gn cn : Nat → Nat} {N D I X y : Nat}
theorem c_worthOfX (H : hk_HC s fl gn cn N D I) (L : hk_Ly s fl gn cn N) (hI : hk_I4 fl gn N X) (g1 : hk_Gd cn N I 10 X) (h1 : k (some (.int (nI (hk_pwo fl gn X N)))) (s, lm, hk_RH i0 i1 b, al)) : hk_Cl (d + 3) 89 [.ref 29, .int (nI (hk_stX fl gn N X 4))] (s, lm, hk_RH i0 i1 b, al) k := by
  have hN := hk_HC_N H
  rw [← hk_pw4_e hN (hk_Gd0 g1)] at h1
  have loop : ∀ (g i : Nat), i + g = 4 → hk_Rn (d + 2) none hk_c89 (hk_sfx 4 hk_c89) [some (.ref 29), some (.int (nI (hk_stX fl gn N X 4))), some (.int (nI (hk_pw4 fl gn N X i))), some (.int (nI i))] [] (s, lm, hk_RH i0 i1 b, al) k := by
    intro g
    induction g with
    | zero =>
      intro i hi
      have e : i = 4 := by omega
      subst e
      refine hk_hd (n := 1000) (t := 4) rfl ?_
      refine And.intro (fun _ => ?_) (fun hc => absurd (show (4 : Int32) ≤ nI 4 by decide) hc)
      exact h1
    | succ g ih =>
      intro i hi
      have b1 : ¬ nI 4 ≤ nI i := hk_nlt (by omega) (by omega)
      have fm := hk_ft_le (X := X) (i := i) H
      have dm : hk_dg X i < 11 := Nat.mod_lt _ (by omega)
      have em : (if nI (hk_e4 fl N i + hk_e4 gn N i * hk_dg X i) < nI 10 then nI (hk_e4 fl N i + hk_e4 gn N i * hk_dg X i) else nI 10) = nI (min 10 (hk_e4 fl N i + hk_e4 gn N i * hk_dg X i)) := by
        by_cases c : hk_e4 fl N i + hk_e4 gn N i * hk_dg X i < 10
        · rw [if_pos ((nI_ltI (by omega) (by omega)).mpr c), Nat.min_eq_right (by omega)]
        · rw [if_neg (fun q => c ((nI_ltI (by omega) (by omega)).mp q)), Nat.min_eq_left (by omega)]
      have hd0 : hk_dg X i ≤ 1000 * min 10 (hk_e4 fl N i + hk_e4 gn N i * hk_dg X i) := by
        by_cases c0 : hk_dg X i = 0
        · omega
        · by_cases c : i < N
          · have h3 := hk_HC_g H i c
            have := Nat.mul_le_mul h3 (show 1 ≤ hk_dg X i by omega)
            unfold hk_e4
            rw [if_pos c, if_pos c]
            omega
          · exact absurd (hk_Gd0 g1 i (by omega) (by omega)) c0
      refine hk_hd (n := 1000) (t := 4) rfl ?_
      refine And.intro (fun hc => absurd hc b1) (fun _ => ?_)
      refine c_floatsTX H L hI (by omega) ?_
      refine c_timesX L (hk_HC_g H) hI (by omega) ?_
      refine hk_Rn_cast ?_ (ih (i + 1) (by omega))
      have e2 : nI (hk_pw4 fl gn N X (i + 1)) = nI (hk_pw4 fl gn N X i) + (1000 * (if nI (hk_e4 fl N i + hk_e4 gn N i * hk_dg X i) < nI 10 then nI (hk_e4 fl N i + hk_e4 gn N i * hk_dg X i) else nI 10) - nI (hk_dg X i)) := by
        rw [em, show (1000 : Int32) * nI (min 10 (hk_e4 fl N i + hk_e4 gn N i * hk_dg X i)) = nI (1000 * min 10 (hk_e4 fl N i + hk_e4 gn N i * hk_dg X i)) from pk_mul 1000 _, pk_sub hd0, nI_add, hk_pw4]
      rw [e2, ← nI_1 i]
      rfl
  refine hk_mth hk_m89 rfl rfl (n := 1000) ?_
  exact loop 4 0 (by omega)
set_option maxHeartbeats 1000000 in
theorem c_workedX {u : Nat} (hu : u < 10) (H : hk_HC s fl gn cn N D I) (L : hk_Ly s fl gn cn N) (hM : hk_Mm s fl gn cn N D I) (g1 : hk_Gd cn N I u X) (hI : hk_In fl gn N X) (hB : ∀ (s : Nat → Nat → Int32) (X : Nat) (k : Option Value → hk_H → Prop), hk_HC s fl gn cn N D I → hk_Ly s fl gn cn N → hk_Mm s fl gn cn N D I → hk_Gd cn N I (u + 1) X → hk_In fl gn N X → (∀ s2, (∀ p q, p ≠ 95 → s2 p q = s p q) → hk_Mm s2 fl gn cn N D I → k (some (.int (nI (hk_C fl gn cn N D I (9 - u) X)))) (s2, lm, hk_RH i0 i1 95, al)) → hk_Cl (d + 2) 88 [.ref 29, .int (nI (u + 1)), .int (nI (hk_stX fl gn N X 4))] (s, lm, hk_RH i0 i1 95, al) k) (h1 : ∀ s2, (∀ p q, p ≠ 95 → s2 p q = s p q) → hk_Mm s2 fl gn cn N D I → k (some (.int (nI (hk_C fl gn cn N D I (10 - u) X)))) (s2, lm, hk_RH i0 i1 95, al)) : hk_Cl (d + 4) 92 [.ref 29, .int (nI u), .int (nI (hk_stX fl gn N X 4))] (s, lm, hk_RH i0 i1 95, al) k := by
  have hN := hk_HC_N H
  have I4 := hk_I4_of hN (by omega) g1 hI
  have e10 : 10 - u = (9 - u) + 1 := by omega
  have e9 : 9 - (9 - u) = u := by omega
  have loop : ∀ (g j : Nat) (s3 : Nat → Nat → Int32), j + g = 16 → (∀ p q, p ≠ 95 → s3 p q = s p q) → hk_Mm s3 fl gn cn N D I → hk_Rn (d + 3) none hk_c92 (hk_sfx 21 hk_c92) [some (.ref 29), some (.int (nI u)), some (.int (nI (hk_stX fl gn N X 4))), some (.int (nI (hk_rdy fl gn N u X 4))), some (.int (nI (I * (u + 1) - hk_dq cn X 0 N))), some (.int (nI (hk_pmx (fun set => hk_pdc fl gn cn N D I X u set) (fun set => hk_C fl gn cn N D I (9 - u) (hk_dt X set N)) j))), some (.int (nI j))] [] (s3, lm, hk_RH i0 i1 95, al) k := by
    intro g
    induction g with
    | zero =>
      intro j s3 hj h3 m3
      have ej : j = 16 := by omega
      subst ej
      have key := h1 s3 h3 m3
      rw [e10, hk_C, e9] at key
      refine hk_hd (n := 1000) (t := 21) rfl ?_
      refine And.intro (fun _ => ?_) (fun hc => absurd (show (16 : Int32) ≤ nI 16 by decide) hc)
      exact key
    | succ g ih =>
      intro j s3 hj h3 m3
      have b1 : ¬ nI 16 ≤ nI j := hk_nlt (by omega) (by omega)
      have H3 := hk_HC_fr H (fun p q hp => h3 p q (by omega))
      have L3 := hk_Ly_fr L (fun p q hp => h3 p q (by omega))
      have e32 := L3.2.2.2.1 j (by omega)
      refine hk_hd (n := 1000) (t := 21) rfl ?_
      refine And.intro (fun hc => absurd hc b1) (fun _ => ?_)
      refine c_mayDockX H3 L3 g1 (by omega) (by omega) (fun hd => ?_) (fun hd => ?_)
      · refine And.intro (fun hc => absurd hc (show ¬ (1 : Int32) = 0 by decide)) (fun _ => ?_)
        refine hk_ldi (i := nI j) (j := j) (by simp only [hk_lit, pk_mul, nI_add]) (by omega) (by decide) e32 ?_
        refine hk_Cl_arg (a2 := [.ref 29, .int (nI (u + 1)), .int (nI (hk_stX fl gn N (hk_dt X j N) 4))]) (by rw [hk_sbi hN (by omega) g1 hd, ← nI_1, ← nI_add]; rfl) ?_
        refine hk_Cl_deep (d := d + 2) (by omega) ?_
        have C1 := hk_C_le (fl := fl) (gn := gn) (cn := cn) (D := D) (I := I) hN (9 - u) (hk_dt X j N)
        refine hB s3 _ _ H3 L3 m3 (hk_Gd_next hN (by omega) g1 hd.2.1) (hk_In_next hN (by omega) g1 hI hd) (fun s4 h4 m4 => ?_)
        have C2 : hk_pmx (fun set => hk_pdc fl gn cn N D I X u set) (fun set => hk_C fl gn cn N D I (9 - u) (hk_dt X set N)) j ≤ 40000 := by
          rcases hk_pmx_at (dc := fun set => hk_pdc fl gn cn N D I X u set) (v := fun set => hk_C fl gn cn N D I (9 - u) (hk_dt X set N)) j with e | ⟨i, _, _, e⟩
          · omega
          · rw [e]
            exact hk_C_le hN _ _
        have ey : hk_pmx (fun set => hk_pdc fl gn cn N D I X u set) (fun set => hk_C fl gn cn N D I (9 - u) (hk_dt X set N)) (j + 1) = max (hk_pmx (fun set => hk_pdc fl gn cn N D I X u set) (fun set => hk_C fl gn cn N D I (9 - u) (hk_dt X set N)) j) (hk_C fl gn cn N D I (9 - u) (hk_dt X j N)) := hk_pmx_y (dc := fun set => hk_pdc fl gn cn N D I X u set) (v := fun set => hk_C fl gn cn N D I (9 - u) (hk_dt X set N)) hd
        have nx := ih (j + 1) s4 (by omega) (fun p q c => (h4 p q c).trans (h3 p q c)) m4
        rw [ey] at nx
        generalize hk_pmx (fun set => hk_pdc fl gn cn N D I X u set) (fun set => hk_C fl gn cn N D I (9 - u) (hk_dt X set N)) j = A at nx C2
        generalize hk_C fl gn cn N D I (9 - u) (hk_dt X j N) = B at nx C1
        have em : (if nI A < nI B then nI B else nI A) = nI (max A B) := by
          by_cases c : A < B
          · rw [if_pos ((nI_ltI (by omega) (by omega)).mpr c), Nat.max_eq_right (by omega)]
          · rw [if_neg (fun q => c ((nI_ltI (by omega) (by omega)).mp q)), Nat.max_eq_left (by omega)]
        refine hk_Rn_cast ?_ nx
        rw [← em, ← nI_1 j]
        rfl
      · refine And.intro (fun _ => ?_) (fun hc => absurd rfl hc)
        refine hk_Rn_cast ?_ (ih (j + 1) s3 (by omega) h3 m3)
        rw [hk_pmx_n (dc := fun set => hk_pdc fl gn cn N D I X u set) (v := fun set => hk_C fl gn cn N D I (9 - u) (hk_dt X set N)) hd, ← nI_1 j]
        rfl
  refine hk_mth hk_m92 rfl rfl (n := 1000) ?_
  refine c_dockableX H L I4 (by omega) ?_
  refine c_coinX H L I4 g1 (by omega) ?_
  exact loop 16 0 s (by omega) (fun _ _ _ => rfl) hM
set_option maxHeartbeats 1000000 in
theorem c_bestX : ∀ (g u : Nat), u + g = 10 → ∀ (s : Nat → Nat → Int32) (X : Nat) (k : Option Value → hk_H → Prop), hk_HC s fl gn cn N D I → hk_Ly s fl gn cn N → hk_Mm s fl gn cn N D I → hk_Gd cn N I u X → hk_In fl gn N X → (∀ s2, (∀ p q, p ≠ 95 → s2 p q = s p q) → hk_Mm s2 fl gn cn N D I → k (some (.int (nI (hk_C fl gn cn N D I g X)))) (s2, lm, hk_RH i0 i1 95, al)) → hk_Cl (d + 3 * g + 5) 88 [.ref 29, .int (nI u), .int (nI (hk_stX fl gn N X 4))] (s, lm, hk_RH i0 i1 95, al) k := by
  intro g
  induction g with
  | zero =>
    intro u hu s X k H L hM g1 hI h1
    have e : u = 10 := by omega
    subst e
    have I4 := hk_I4_of (hk_HC_N H) (by omega) g1 hI
    refine hk_mth hk_m88 rfl rfl (n := 1000) ?_
    refine And.intro (fun hc => absurd hc (show ¬ nI 10 < 10 by decide)) (fun _ => ?_)
    exact c_worthOfX H L I4 g1 (h1 s (fun _ _ _ => rfl) hM)
  | succ g ih =>
    intro u hu s X k H L hM g1 hI h1
    have hN := hk_HC_N H
    have b0 : nI u < 10 := nI_lt (b := 10) (by omega) (by omega)
    have b9 : u < 10 := by omega
    have I4 := hk_I4_of hN (by omega) g1 hI
    have sl := hk_sXl I4 4 (by omega)
    have sm := hk_sdm (fl := fl) (hk_HC_g H) 4
    have um : u * hk_sd fl gn N 4 ≤ 9 * hk_sd fl gn N 4 := Nat.mul_le_mul_right _ (by omega)
    have ei : nI u * s 29 7 + nI (hk_stX fl gn N X 4) = nI (u * hk_sd fl gn N 4 + hk_stX fl gn N X 4) := by rw [L.1, pk_mul, nI_add]
    have C1 := hk_C_le (fl := fl) (gn := gn) (cn := cn) (D := D) (I := I) hN (g + 1) X
    have e10 : 10 - u = g + 1 := by omega
    refine hk_mth hk_m88 rfl rfl (n := 1000) ?_
    refine And.intro (fun _ => ?_) (fun hc => absurd b0 hc)
    refine And.intro (fun hc => absurd hc (show ¬ nI u * s 29 7 + nI (hk_stX fl gn N X 4) < 0 by rw [ei]; exact nI_pos (by omega))) (fun _ => ?_)
    refine And.intro (fun _ => ?_) (fun hc => absurd (show nI u * s 29 7 + nI (hk_stX fl gn N X 4) < nI 100000 by rw [ei]; exact nI_lt (by omega) (by omega)) hc)
    refine hk_ldi (i := nI u * s 29 7 + nI (hk_stX fl gn N X 4)) (j := u * hk_sd fl gn N 4 + hk_stX fl gn N X 4) ei (by omega) (by decide) rfl ?_
    rcases Classical.em (s 95 (u * hk_sd fl gn N 4 + hk_stX fl gn N X 4) = -1) with c | c
    · refine And.intro (fun hc => absurd hc (fun q => q c)) (fun _ => ?_)
      refine c_workedX (d := d + 3 * g + 3) b9 H L hM g1 hI (fun s X k q1 q2 q3 q4 q5 q6 => ?_) (fun s2 h2 m2 => ?_)
      · rw [show 9 - u = g by omega] at q6
        exact ih (u + 1) (by omega) s X k q1 q2 q3 q4 q5 q6
      rw [e10]
      refine hk_sti (i := nI u * s 29 7 + nI (hk_stX fl gn N X 4)) (j := u * hk_sd fl gn N 4 + hk_stX fl gn N X 4) ei (by omega) (by decide) ?_
      have ei2 : nI u * (hk_u2 s2 95 (u * hk_sd fl gn N 4 + hk_stX fl gn N X 4) (nI (hk_C fl gn cn N D I (g + 1) X))) 29 7 + nI (hk_stX fl gn N X 4) = nI (u * hk_sd fl gn N 4 + hk_stX fl gn N X 4) := by
        rw [hk_u2o (by omega), h2 29 7 (by omega)]
        exact ei
      refine hk_ldi (i := nI u * s 29 7 + nI (hk_stX fl gn N X 4)) (j := u * hk_sd fl gn N 4 + hk_stX fl gn N X 4) ei (by omega) (by decide) (show hk_u2 s2 95 (u * hk_sd fl gn N 4 + hk_stX fl gn N X 4) (nI (hk_C fl gn cn N D I (g + 1) X)) 95 (u * hk_sd fl gn N 4 + hk_stX fl gn N X 4) = nI (hk_C fl gn cn N D I (g + 1) X) from hk_u2s) ?_
      refine h1 (hk_u2 s2 95 (u * hk_sd fl gn N 4 + hk_stX fl gn N X 4) (nI (hk_C fl gn cn N D I (g + 1) X))) (fun p q hp => by rw [hk_u2o (by omega)]; exact h2 p q hp) (fun y2 hy2 X2 hG2 hI2 => ?_)
      by_cases e : y2 * hk_sd fl gn N 4 + hk_stX fl gn N X2 4 = u * hk_sd fl gn N 4 + hk_stX fl gn N X 4
      · have I42 := hk_I4_of hN (by omega) hG2 hI2
        have sl2 := hk_sXl I42 4 (by omega)
        have ey : y2 = u := by
          have a1 : (y2 * hk_sd fl gn N 4 + hk_stX fl gn N X2 4) / hk_sd fl gn N 4 = y2 := by
            rw [Nat.mul_comm, Nat.mul_add_div (by omega), Nat.div_eq_of_lt sl2]
            rfl
          have a2 : (u * hk_sd fl gn N 4 + hk_stX fl gn N X 4) / hk_sd fl gn N 4 = u := by
            rw [Nat.mul_comm, Nat.mul_add_div (by omega), Nat.div_eq_of_lt sl]
            rfl
          rw [← a1, e, a2]
        subst ey
        have eX : X2 = X := hk_sXi hG2.1 g1.1 I42 I4 (by omega)
        subst eX
        right
        rw [hk_u2s, e10]
      · rw [hk_u2o (fun q => e q.2)]
        exact m2 y2 hy2 X2 hG2 hI2
    · have e := (hM u b9 X g1 hI).elim (fun q => absurd q c) id
      rw [e10] at e
      refine And.intro (fun _ => ?_) (fun hc => absurd c hc)
      refine hk_ldi (i := nI u * s 29 7 + nI (hk_stX fl gn N X 4)) (j := u * hk_sd fl gn N 4 + hk_stX fl gn N X 4) ei (by omega) (by decide) e ?_
      exact h1 s (fun _ _ _ => rfl) hM
set_option maxHeartbeats 1000000 in
theorem c_leastX {u : Nat} (hu : u < 10) (H : hk_HC s fl gn cn N D I) (L : hk_Ly s fl gn cn N) (hM : hk_Mm s fl gn cn N D I) (g1 : hk_Gd cn N I u X) (hI : hk_In fl gn N X) (h1 : ∀ s2, (∀ p q, p ≠ 95 → s2 p q = s p q) → hk_Mm s2 fl gn cn N D I → k (some (.int (nI (hk_lst fl gn cn N D I u X)))) (s2, lm, hk_RH i0 i1 95, al)) : hk_Cl (d + 36) 87 [.ref 29, .int (nI u), .int (nI (hk_stX fl gn N X 4))] (s, lm, hk_RH i0 i1 95, al) k := by
  have hN := hk_HC_N H
  have I4 := hk_I4_of hN (by omega) g1 hI
  obtain ⟨ls1, ls2, ls3⟩ := hk_lst_s (fl := fl) (gn := gn) (D := D) hN hu g1
  have CM := hk_C_le (fl := fl) (gn := gn) (cn := cn) (D := D) (I := I) hN (10 - u) X
  generalize hk_lst fl gn cn N D I u X = wt at h1 ls1 ls2 ls3
  have loop : ∀ (g j : Nat) (s3 : Nat → Nat → Int32), j + g = wt → (∀ p q, p ≠ 95 → s3 p q = s p q) → hk_Mm s3 fl gn cn N D I → hk_Rn (d + 35) none hk_c87 (hk_sfx 26 hk_c87) [some (.ref 29), some (.int (nI u)), some (.int (nI (hk_stX fl gn N X 4))), some (.int (nI (hk_C fl gn cn N D I (10 - u) X))), some (.int (nI (hk_rdy fl gn N u X 4))), some (.int (nI (I * (u + 1) - hk_dq cn X 0 N))), some (.int (nI j))] [] (s3, lm, hk_RH i0 i1 95, al) k := by
    intro g
    induction g with
    | zero =>
      intro j s3 hj h3 m3
      have ej : j = wt := by omega
      subst ej
      have b1 : ¬ nI 16 ≤ nI j := hk_nlt (by omega) (by omega)
      have H3 := hk_HC_fr H (fun p q hp => h3 p q (by omega))
      have L3 := hk_Ly_fr L (fun p q hp => h3 p q (by omega))
      have e32 := L3.2.2.2.1 j (by omega)
      refine hk_hd (n := 1000) (t := 26) rfl ?_
      refine And.intro (fun hc => absurd hc b1) (fun _ => ?_)
      refine c_mayDockX H3 L3 g1 (by omega) (by omega) (fun hd => ?_) (fun hd => absurd ls1.1 hd)
      refine And.intro (fun hc => absurd hc (show ¬ (1 : Int32) = 0 by decide)) (fun _ => ?_)
      refine hk_ldi (i := nI j) (j := j) (by simp only [hk_lit, pk_mul, nI_add]) (by omega) (by decide) e32 ?_
      refine hk_Cl_arg (a2 := [.ref 29, .int (nI (u + 1)), .int (nI (hk_stX fl gn N (hk_dt X j N) 4))]) (by rw [hk_sbi hN (by omega) g1 hd, ← nI_1, ← nI_add]; rfl) ?_
      refine hk_Cl_deep (d := d + 3 * (9 - u) + 5) (by omega) ?_
      refine c_bestX (9 - u) (u + 1) (by omega) s3 _ _ H3 L3 m3 (hk_Gd_next hN (by omega) g1 hd.2.1) (hk_In_next hN (by omega) g1 hI hd) (fun s4 h4 m4 => ?_)
      rw [ls1.2]
      refine And.intro (fun hc => absurd hc (fun q => q rfl)) (fun _ => ?_)
      exact h1 s4 (fun p q c => (h4 p q c).trans (h3 p q c)) m4
    | succ g ih =>
      intro j s3 hj h3 m3
      have b1 : ¬ nI 16 ≤ nI j := hk_nlt (by omega) (by omega)
      have H3 := hk_HC_fr H (fun p q hp => h3 p q (by omega))
      have L3 := hk_Ly_fr L (fun p q hp => h3 p q (by omega))
      have e32 := L3.2.2.2.1 j (by omega)
      have nb := ls3 j (by omega)
      refine hk_hd (n := 1000) (t := 26) rfl ?_
      refine And.intro (fun hc => absurd hc b1) (fun _ => ?_)
      refine c_mayDockX H3 L3 g1 (by omega) (by omega) (fun hd => ?_) (fun hd => ?_)
      · refine And.intro (fun hc => absurd hc (show ¬ (1 : Int32) = 0 by decide)) (fun _ => ?_)
        refine hk_ldi (i := nI j) (j := j) (by simp only [hk_lit, pk_mul, nI_add]) (by omega) (by decide) e32 ?_
        refine hk_Cl_arg (a2 := [.ref 29, .int (nI (u + 1)), .int (nI (hk_stX fl gn N (hk_dt X j N) 4))]) (by rw [hk_sbi hN (by omega) g1 hd, ← nI_1, ← nI_add]; rfl) ?_
        refine hk_Cl_deep (d := d + 3 * (9 - u) + 5) (by omega) ?_
        have C1 := hk_C_le (fl := fl) (gn := gn) (cn := cn) (D := D) (I := I) hN (9 - u) (hk_dt X j N)
        refine c_bestX (9 - u) (u + 1) (by omega) s3 _ _ H3 L3 m3 (hk_Gd_next hN (by omega) g1 hd.2.1) (hk_In_next hN (by omega) g1 hI hd) (fun s4 h4 m4 => ?_)
        refine And.intro (fun _ => ?_) (fun hc => absurd (fun q => nb ⟨hd, (nI_eq (by omega) (by omega)).mp q⟩) hc)
        exact hk_Rn_cast (by rw [← nI_1]; rfl) (ih (j + 1) s4 (by omega) (fun p q c => (h4 p q c).trans (h3 p q c)) m4)
      · refine And.intro (fun _ => ?_) (fun hc => absurd rfl hc)
        exact hk_Rn_cast (by rw [← nI_1]; rfl) (ih (j + 1) s3 (by omega) h3 m3)
  refine hk_mth hk_m87 rfl rfl (n := 1000) ?_
  refine hk_Cl_deep (d := d + 3 * (10 - u) + 5) (by omega) ?_
  refine c_bestX (10 - u) u (by omega) s _ _ H L hM g1 hI (fun s2 h2 m2 => ?_)
  have H2 := hk_HC_fr H (fun p q hp => h2 p q (by omega))
  have L2 := hk_Ly_fr L (fun p q hp => h2 p q (by omega))
  refine c_dockableX H2 L2 I4 (by omega) ?_
  refine c_coinX H2 L2 I4 g1 (by omega) ?_
  exact loop wt 0 s2 (by omega) h2 m2
end HKPF
