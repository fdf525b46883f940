/-! ===== the way of the plan; the reference goes it ===== -/
noncomputable def hk_lsF (P : Nat → Prop) : Nat → Nat → Nat
  | 0, _ => 0
  | g + 1, j => @ite _ (P j) (Classical.propDecidable _) j (hk_lsF P g (j + 1))
theorem hk_lsF_s {P : Nat → Prop} : ∀ g j, (∃ i, j ≤ i ∧ i < j + g ∧ P i) → P (hk_lsF P g j) ∧ j ≤ hk_lsF P g j ∧ hk_lsF P g j < j + g ∧ ∀ i, j ≤ i → i < hk_lsF P g j → ¬ P i
  | 0, j, h => by
    obtain ⟨i, h1, h2, _⟩ := h
    omega
  | g + 1, j, h => by
    by_cases c : P j
    · have e : hk_lsF P (g + 1) j = j := by rw [hk_lsF, if_pos c]
      rw [e]
      exact ⟨c, Nat.le_refl _, by omega, fun i h1 h2 => by omega⟩
    · have e : hk_lsF P (g + 1) j = hk_lsF P g (j + 1) := by rw [hk_lsF, if_neg c]
      obtain ⟨i, h1, h2, h3⟩ := h
      have ne : i ≠ j := fun q => c (q ▸ h3)
      obtain ⟨q1, q2, q3, q4⟩ := hk_lsF_s (P := P) g (j + 1) ⟨i, by omega, by omega, h3⟩
      rw [e]
      refine ⟨q1, by omega, by omega, fun i h1 h2 => ?_⟩
      by_cases e2 : i = j
      · rw [e2]
        exact c
      · exact q4 i (by omega) h2
def hk_bst (fl gn cn : Nat → Nat) (N D I y X set : Nat) : Prop := hk_pdc fl gn cn N D I X y set ∧ hk_C fl gn cn N D I (9 - y) (hk_dt X set N) = hk_C fl gn cn N D I (10 - y) X
noncomputable def hk_lst (fl gn cn : Nat → Nat) (N D I y X : Nat) : Nat := hk_lsF (hk_bst fl gn cn N D I y X) 16 0
noncomputable def hk_pX (fl gn cn : Nat → Nat) (N D I : Nat) : Nat → Nat
  | 0 => 0
  | y + 1 => hk_dt (hk_pX fl gn cn N D I y) (hk_lst fl gn cn N D I y (hk_pX fl gn cn N D I y)) N
def hk_lg (fl gn : Nat → Nat) (X : Nat) : Nat → Nat
  | 0 => 0
  | h + 1 => hk_lg fl gn X h + (if 9 < hk_tl fl gn X h then 0 else 2 ^ h)
theorem hk_lg_lt {fl gn : Nat → Nat} {X : Nat} : ∀ h, hk_lg fl gn X h < 2 ^ h
  | 0 => by
    show 0 < 2 ^ 0
    decide
  | h + 1 => by
    have ih := hk_lg_lt (fl := fl) (gn := gn) (X := X) h
    rw [hk_lg, Nat.pow_succ]
    split <;> omega
/-- the plan's answers -/
noncomputable def hk_pvN (fl gn cn : Nat → Nat) (N D I zz : Nat) : Nat := if zz < 10 then hk_lst fl gn cn N D I zz (hk_pX fl gn cn N D I zz) else if zz = 10 then hk_lg fl gn (hk_pX fl gn cn N D I 10) N else hk_sdg (hk_pX fl gn cn N D I 10) N
section HKPP
variable {fl gn cn : Nat → Nat} {N D I y X X2 set : Nat} {R : Nat → Nat → Nat}
theorem hk_Gd00 : hk_Gd cn N I 0 0 := ⟨by omega, fun h _ => by rw [hk_dg00]; exact Nat.zero_le _, by rw [hk_dq00]; exact Nat.zero_le _⟩
theorem hk_lst_s (hN : N ≤ 4) (hy : y < 10) (g1 : hk_Gd cn N I y X) : hk_bst fl gn cn N D I y X (hk_lst fl gn cn N D I y X) ∧ hk_lst fl gn cn N D I y X < 16 ∧ ∀ i, i < hk_lst fl gn cn N D I y X → ¬ hk_bst fl gn cn N D I y X i := by
  have e9 : 9 - (9 - y) = y := by omega
  have e10 : 9 - y + 1 = 10 - y := by omega
  obtain ⟨i, h1, h2, h3⟩ := hk_C_at (fl := fl) (gn := gn) (D := D) (g := 9 - y) hN (by rw [e9]; exact g1)
  rw [e9] at h2
  rw [e10] at h3
  obtain ⟨q1, _, q2, q3⟩ := hk_lsF_s (P := hk_bst fl gn cn N D I y X) 16 0 ⟨i, by omega, by omega, h2, h3.symm⟩
  exact ⟨q1, by unfold hk_lst; omega, fun i hi => q3 i (by omega) hi⟩
theorem hk_pX_s (hN : N ≤ 4) : ∀ y, y ≤ 10 → hk_Gd cn N I y (hk_pX fl gn cn N D I y) ∧ hk_In fl gn N (hk_pX fl gn cn N D I y)
  | 0, _ => ⟨hk_Gd00, fun h _ => by show hk_dg 0 h ≤ _; rw [hk_dg00]; exact Nat.zero_le _⟩
  | y + 1, hy => by
    obtain ⟨g1, g2⟩ := hk_pX_s hN y (by omega)
    obtain ⟨⟨d1, _⟩, _, _⟩ := hk_lst_s (fl := fl) (gn := gn) (D := D) hN (by omega) g1
    exact ⟨hk_Gd_next hN (by omega) g1 d1.2.1, hk_In_next hN (by omega) g1 g2 d1⟩
theorem hk_pX_C (hN : N ≤ 4) : ∀ y, y ≤ 10 → hk_C fl gn cn N D I (10 - y) (hk_pX fl gn cn N D I y) = hk_C fl gn cn N D I 10 0
  | 0, _ => rfl
  | y + 1, hy => by
    have ih := hk_pX_C hN y (by omega)
    obtain ⟨g1, g2⟩ := hk_pX_s (fl := fl) (gn := gn) (cn := cn) (D := D) (I := I) hN y (by omega)
    obtain ⟨⟨_, d2⟩, _, _⟩ := hk_lst_s (fl := fl) (gn := gn) (D := D) hN (by omega) g1
    rw [show 10 - (y + 1) = 9 - y by omega, ← ih, ← d2]
    rfl
theorem hk_pX_d (hN : N ≤ 4) (hy : y < 10) : hk_sdg (hk_pX fl gn cn N D I (y + 1)) N = hk_sdg (hk_pX fl gn cn N D I y) N + hk_pc (hk_lst fl gn cn N D I y (hk_pX fl gn cn N D I y)) := by
  obtain ⟨g1, g2⟩ := hk_pX_s (fl := fl) (gn := gn) (cn := cn) (D := D) (I := I) hN y (by omega)
  obtain ⟨⟨d1, _⟩, _, _⟩ := hk_lst_s (fl := fl) (gn := gn) (D := D) hN (by omega) g1
  rw [hk_pcb hN d1.1]
  exact hk_sdg_dt (fun h hh => hk_dgs hN (by omega) g1 hh) N (Nat.le_refl _)
theorem hk_sdg_le (hN : N ≤ 4) (g1 : hk_Gd cn N I 10 X) : ∀ h, h ≤ N → hk_sdg X h ≤ 10 * h
  | 0, _ => Nat.le_refl _
  | h + 1, hh => by
    have ih := hk_sdg_le hN g1 h (by omega)
    have := g1.2.1 h (by omega)
    unfold hk_cap at this
    rw [hk_sdg]
    split at this <;> omega
/-- the greatest sum: years and dockings of the way -/
theorem hk_top (hN : N ≤ 4) (hD : D ≤ 3) (hg : ∀ h, h < N → 1 ≤ gn h) (hR : hk_pRR R fl gn cn N D I) : (R 0 0 + 63) / 64 = hk_pba fl gn (hk_pX fl gn cn N D I 10) 10 N := by
  obtain ⟨Y, K, q1, q2, q3, q4⟩ := hk_Cm hN hD hg hR 10 (by omega) 0 hk_Gd00 (fun h _ => by rw [hk_dg00]; exact Nat.zero_le _)
  obtain ⟨g1, g2⟩ := hk_pX_s (fl := fl) (gn := gn) (cn := cn) (D := D) (I := I) hN 10 (by omega)
  have e := hk_pX_C (fl := fl) (gn := gn) (cn := cn) (D := D) (I := I) hN 10 (by omega)
  have e : hk_pwo fl gn (hk_pX fl gn cn N D I 10) N = hk_C fl gn cn N D I 10 0 := e
  have ew := hk_pwo_e (fl := fl) (gn := gn) (N := N) (X := hk_pX fl gn cn N D I 10) hg (fun h hh => by
    have := g1.2.1 h (by omega)
    unfold hk_cap at this
    split at this <;> omega) g2 N (Nat.le_refl _)
  have sl := hk_sdg_le hN g1 N (Nat.le_refl _)
  have b0 : ∀ h, hk_pba fl gn 0 0 h = 0 := fun h => by
    induction h with
    | zero => rfl
    | succ h ih => rw [hk_pba, ih]; omega
  have s0 : ∀ h, hk_sdg 0 h = 0 := fun h => by
    induction h with
    | zero => rfl
    | succ h ih => rw [hk_sdg, ih, hk_dg00]
  have q2 : R 0 0 + 64 * hk_pba fl gn 0 0 N + K = 64 * Y + hk_sdg 0 N := q2
  rw [b0, s0] at q2
  rw [s0] at q3 q4
  omega
end HKPP
/-- the reference's row as numbers -/
def hk_Rt (f : Nat → Int32) (y X : Nat) : Nat := (f (y * 14641 + X)).toNatClampNeg
theorem hk_addp (x p q : Int32) : x - p + q + p = x + q := by
  apply Int32.toBitVec_inj.mp
  simp only [Int32.toBitVec_sub, Int32.toBitVec_add]
  apply BitVec.eq_of_toNat_eq
  simp only [BitVec.toNat_sub, BitVec.toNat_add]
  have h1 := x.toBitVec.isLt
  have h2 := p.toBitVec.isLt
  have h3 := q.toBitVec.isLt
  omega
theorem hk_eqp {a p q v : Nat} (ha : a < 2 ^ 20) (hp : p < 2 ^ 20) (hq : q < 2 ^ 20) (hv : v < 2 ^ 20) : nI a - nI p + nI q = nI v ↔ a + q = v + p := by
  constructor
  · intro e
    have e2 := hk_addp (nI a) (nI p) (nI q)
    rw [e, nI_add, nI_add] at e2
    exact ((nI_eq (by omega) (by omega)).mp e2).symm
  · intro e
    have e2 : nI a - nI p + nI q + nI p = nI v + nI p := by rw [hk_addp, nI_add, e, ← nI_add]
    have e3 : nI a - nI p + nI q + nI p - nI p = nI v + nI p - nI p := by rw [e2]
    rw [Int32.add_sub_cancel, Int32.add_sub_cancel] at e3
    exact e3
/-- the row's numbers -/
theorem hk_Bval {f : Nat → Int32} {fl gn cn : Nat → Nat} {N D I y X : Nat} (h : hk_Bq f fl gn cn N D I y X) : ∃ v, v ≤ 2560 ∧ f (y * 14641 + X) = nI v ∧ hk_Rt f y X = v := by
  obtain ⟨v, h1, h2, hx⟩ := h
  clear hx
  have h3 : v ≤ 2560 := by omega
  exact ⟨v, h3, h2, by unfold hk_Rt; rw [h2, nI_clamp (by omega)]⟩
/-- the test of a set, in numbers -/
theorem hk_tst {f : Nat → Int32} {fl gn cn : Nat → Nat} {N D I u X j : Nat} (hN : N ≤ 4) (hD : D ≤ 3) (h1 : hk_Bq f fl gn cn N D I u X) (h2 : hk_Bq f fl gn cn N D I (u + 1) (hk_dt X j N)) (hp : hk_pc j ≤ D) : f ((u + 1) * 14641 + hk_dt X j N) - nI (hk_pc j) + 64 * nI (hk_fc fl gn X u N) = f (u * 14641 + X) ↔ hk_Rt f (u + 1) (hk_dt X j N) + 64 * hk_fc fl gn X u N = hk_Rt f u X + hk_pc j := by
  obtain ⟨v, a1, a2, a3⟩ := hk_Bval h1
  obtain ⟨w, b1, b2, b3⟩ := hk_Bval h2
  clear h1 h2
  have hf := hk_fc_le (fl := fl) (gn := gn) (X := X) (y := u) N
  rw [a2, a3, b2, b3, show (64 : Int32) * nI (hk_fc fl gn X u N) = nI (64 * hk_fc fl gn X u N) from pk_mul 64 _]
  exact hk_eqp (by omega) (by omega) (by omega) (by omega)
theorem hk_pRR_of {f : Nat → Int32} {fl gn cn : Nat → Nat} {N D I : Nat} (hN : N ≤ 4) (hB : ∀ y, y ≤ 10 → ∀ X, hk_Gd cn N I y X → hk_Bq f fl gn cn N D I y X) : hk_pRR (hk_Rt f) fl gn cn N D I := by
  have val : ∀ y X, y ≤ 10 → hk_Gd cn N I y X → ∃ v, v ≤ 2560 ∧ f (y * 14641 + X) = nI v ∧ hk_Rt f y X = v := fun y X hy hG => by
    obtain ⟨v, h1, h2, _⟩ := hB y hy X hG
    exact ⟨v, by omega, h2, by unfold hk_Rt; rw [h2, nI_clamp (by omega)]⟩
  refine ⟨fun X hG => ?_, fun y hy X hG => ⟨?_, fun set h1 h2 => ?_⟩⟩
  · obtain ⟨v, h1, h2, _, h4, _⟩ := hB 10 (by omega) X hG
    have := h4 rfl
    unfold hk_Rt
    rw [h2, nI_clamp (by omega)]
    exact this
  · obtain ⟨v, h1, h2, h3, _, _⟩ := hB y (by omega) X hG
    obtain ⟨set, q1, q2, q3⟩ := h3 hy
    obtain ⟨v2, r1, r2, r3⟩ := val (y + 1) (hk_dt X set N) (by omega) (hk_Gd_next hN (by omega) hG q2)
    have hf := hk_fc_le (fl := fl) (gn := gn) (X := X) (y := y) N
    have h16 : set < 16 := Nat.lt_of_lt_of_le q1 (Nat.pow_le_pow_right (n := 2) (by omega) hN)
    have hp := hk_pc_le set set (Nat.le_refl _)
    refine ⟨set, q1, q2, ?_⟩
    rw [r2, h2, show (64 : Int32) * nI (hk_fc fl gn X y N) = nI (64 * hk_fc fl gn X y N) from pk_mul 64 _, hk_eqp (by omega) (by omega) (by omega) (by omega)] at q3
    unfold hk_Rt
    rw [h2, r2, nI_clamp (by omega), nI_clamp (by omega)]
    omega
  · obtain ⟨v, h3, h4, _, _, h5⟩ := hB y (by omega) X hG
    obtain ⟨v2, q1, q2⟩ := h5 hy set h1 h2
    obtain ⟨v3, r1, r2, r3⟩ := val (y + 1) (hk_dt X set N) (by omega) (hk_Gd_next hN (by omega) hG h2)
    have e : v2 < 2 ^ 31 := by
      have h16 : set < 16 := Nat.lt_of_lt_of_le h1 (Nat.pow_le_pow_right (n := 2) (by omega) hN)
      have hp := hk_pc_le set set (Nat.le_refl _)
      omega
    unfold hk_Rt
    rw [h4, q1, nI_clamp e, nI_clamp (by omega)]
    omega
theorem hk_or2 {a h : Nat} (hh : h < 4) (ha : a < 2 ^ h) : nI a ||| ((1 : Int32) <<< (nI h &&& 31)) = nI (a + 2 ^ h) := by
  have o1 : ∀ a, a < 1 → nI a ||| ((1 : Int32) <<< (nI 0 &&& 31)) = nI (a + 1) := by decide
  have o2 : ∀ a, a < 2 → nI a ||| ((1 : Int32) <<< (nI 1 &&& 31)) = nI (a + 2) := by decide
  have o3 : ∀ a, a < 4 → nI a ||| ((1 : Int32) <<< (nI 2 &&& 31)) = nI (a + 4) := by decide
  have o4 : ∀ a, a < 8 → nI a ||| ((1 : Int32) <<< (nI 3 &&& 31)) = nI (a + 8) := by decide
  match h, hh, ha with
  | 0, _, ha => exact o1 a ha
  | 1, _, ha => exact o2 a ha
  | 2, _, ha => exact o3 a ha
  | 3, _, ha => exact o4 a ha
theorem hk_or0 (a : Int32) : a ||| 0 = a := by
  apply Int32.toBitVec_inj.mp
  simp
section HKPQ
variable {d n a bb r : Nat} {v w x z : Int32} {s : Nat → Nat → Int32} {lm : Nat → Nat → Int64} {i0 i1 b : Nat} {al : List Nat} {k : Option Value → hk_H → Prop} {hp : hk_H} {fl gn cn : Nat → Nat} {N D I : Nat}
theorem m_letGoX {X : Nat} (H : hk_Hu (s 41) fl gn cn N D I) (hd : ∀ q, q < 4 → s 50 q = nI (hk_dg X q)) (h1 : k (some (.int (nI (hk_lg fl gn X N)))) (s, lm, hk_RH i0 i1 b, al)) : hk_Cl (d + 2) 204 [.ref 40] (s, lm, hk_RH i0 i1 b, al) k := by
  have hN := H.1
  have e3 := H.2.2.2.1
  have loop : ∀ (g h : Nat), h + g = N → hk_Rn (d + 1) none hk_c204 (hk_sfx 4 hk_c204) [some (.ref 40), some (.int (nI (hk_lg fl gn X h))), some (.int (nI h))] [] (s, lm, hk_RH i0 i1 b, al) k := by
    intro g
    induction g with
    | zero =>
      intro h hh
      have eh : h = N := by omega
      subst eh
      refine hk_hd (n := 1000) (t := 4) rfl ?_
      refine hk_ldi (i := nI 3) (j := 3) (by simp only [hk_lit, pk_mul, nI_add]) (by omega) (by decide) e3 ?_
      refine And.intro (fun _ => ?_) (fun hc => absurd (Int32.le_refl _) hc)
      exact h1
    | succ g ih =>
      intro h hh
      have a1 : ¬ nI N ≤ nI h := hk_nlt (by omega) (by omega)
      have hl := hk_lg_lt (fl := fl) (gn := gn) (X := X) h
      refine hk_hd (n := 1000) (t := 4) rfl ?_
      refine hk_ldi (i := nI 3) (j := 3) (by simp only [hk_lit, pk_mul, nI_add]) (by omega) (by decide) e3 ?_
      refine And.intro (fun hc => absurd hc a1) (fun _ => ?_)
      refine m_floatsE (y := 9) H hd (by omega) (by omega) (fun hf => ?_) (fun hf => ?_)
      · refine And.intro (fun hc => absurd hc (by decide)) (fun _ => ?_)
        refine hk_Rn_cast ?_ (ih (h + 1) (by omega))
        have hf : 9 < hk_tl fl gn X h := hf
        rw [hk_lg, if_pos hf, ← nI_1 h, Nat.add_zero]
        show [some (Value.ref 40), some (.int (nI (hk_lg fl gn X h) ||| 0)), some (.int (nI h + 1))] = _
        rw [hk_or0]
      · refine And.intro (fun _ => ?_) (fun hc => absurd (by decide) hc)
        refine hk_Rn_cast ?_ (ih (h + 1) (by omega))
        have hf : ¬ 9 < hk_tl fl gn X h := hf
        rw [hk_lg, if_neg hf, ← nI_1 h, ← hk_or2 (by omega) hl]
        rfl
  refine hk_mth hk_m204 rfl rfl (n := 1000) ?_
  exact loop N 0 (by omega)
set_option maxHeartbeats 1000000 in
theorem m_goesByX {zz : Nat} (H : hk_Hu (s 41) fl gn cn N D I) (hg : ∀ h, h < N → 1 ≤ gn h) (hB : ∀ y, y ≤ 10 → ∀ X, hk_Gd cn N I y X → hk_Bq (s 49) fl gn cn N D I y X) (hz : z = nI zz) (hzz : zz ≤ 11) (h1 : ∀ s2, hk_gF s s2 → k (some (.int (nI (hk_pvN fl gn cn N D I zz)))) (s2, lm, hk_RH i0 i1 b, al)) : hk_Cl (d + 5) 203 [.ref 40, .int z] (s, lm, hk_RH i0 i1 b, al) k := by
  have hN := H.1
  have hD := H.2.1
  have h2N : 2 ^ N ≤ 16 := Nat.pow_le_pow_right (n := 2) (by omega) hN
  have hR := hk_pRR_of hN hB
  have loop : ∀ (g u : Nat) (s3 : Nat → Nat → Int32) (l5 l6 l7 : Option Value), u + g = 10 → (u ≤ zz) → (∀ p q, p ≠ 50 → s3 p q = s p q) → hk_Rn (d + 4) none hk_c203 (hk_sfx 7 hk_c203) [some (.ref 40), some (.int z), some (.int (nI (hk_pX fl gn cn N D I u))), some (.int (nI (hk_sdg (hk_pX fl gn cn N D I u) N))), some (.int (nI u)), l5, l6, l7] [] (s3, lm, hk_RH i0 i1 b, al) k := by
    intro g
    induction g with
    | zero =>
      intro u s3 l5 l6 l7 hu huz f3
      have eu : u = 10 := by omega
      subst eu
      have hG := (hk_pX_s (fl := fl) (gn := gn) (cn := cn) (D := D) (I := I) hN 10 (by omega)).1
      have hX := hG.1
      refine hk_hd (n := 1000) (t := 7) rfl ?_
      refine And.intro (fun _ => ?_) (fun hc => absurd (show (10 : Int32) ≤ nI 10 by decide) hc)
      refine m_findD (u := hk_pX fl gn cn N D I 10) (by omega) (fun s4 f4 hd => ?_)
      have f5 : hk_gF s s4 := fun p q p1 p2 => (f4 p q p2).trans (f3 p q p2)
      have H4 : hk_Hu (s4 41) fl gn cn N D I := hk_Hu_fr H (fun q => f5 41 q (by omega) (by omega))
      have key := h1 s4 f5
      unfold hk_pvN at key
      rw [if_neg (by omega)] at key
      refine And.intro (fun c1 => ?_) (fun c1 => ?_)
      · have c1 : ¬ z = nI 10 := c1
        rw [hz] at c1
        rw [if_neg (fun e => c1 (by rw [e]))] at key
        exact key
      have c1 : ¬ ¬ z = nI 10 := c1
      rw [hz, Classical.not_not, nI_eq (by omega) (by omega)] at c1
      rw [if_pos c1] at key
      exact m_letGoX H4 hd key
    | succ g ih =>
      intro u s3 l5 l6 l7 hu huz f3
      obtain ⟨hG, hIn⟩ := hk_pX_s (fl := fl) (gn := gn) (cn := cn) (D := D) (I := I) hN u (by omega)
      obtain ⟨ls1, ls2, ls3⟩ := hk_lst_s (fl := fl) (gn := gn) (D := D) hN (by omega) hG
      have ed := hk_pX_d (fl := fl) (gn := gn) (cn := cn) (N := N) (D := D) (I := I) (y := u) hN (by omega)
      have enx : hk_pX fl gn cn N D I (u + 1) = hk_dt (hk_pX fl gn cn N D I u) (hk_lst fl gn cn N D I u (hk_pX fl gn cn N D I u)) N := rfl
      have epv : zz = u → hk_pvN fl gn cn N D I zz = hk_lst fl gn cn N D I u (hk_pX fl gn cn N D I u) := fun e => by
        unfold hk_pvN
        rw [if_pos (by omega), e]
      generalize hk_lst fl gn cn N D I u (hk_pX fl gn cn N D I u) = wt at ls1 ls2 ls3 ed enx epv
      rw [enx] at ed
      have nxt0 := fun s3 l5 l6 l7 => ih (u + 1) s3 l5 l6 l7 (by omega)
      rw [enx, ed] at nxt0
      generalize hk_pX fl gn cn N D I u = X at hG hIn ls1 ls3 ed nxt0
      have hX := hG.1
      have e9 : 9 - (9 - u) = u := by omega
      have e10 : 9 - u + 1 = 10 - u := by omega
      have bb2 : ∀ j, j < 2 ^ N → ((hk_dr fl gn cn N D I X u j ∧ hk_Rt (s 49) (u + 1) (hk_dt X j N) + 64 * hk_fc fl gn X u N = hk_Rt (s 49) u X + hk_pc j) ↔ hk_bst fl gn cn N D I u X j) := fun j hj => by
        have := hk_bests (fl := fl) (gn := gn) (set := j) hN hD hg hR (g := 9 - u) (by omega) (by rw [e9]; exact hG) hIn hj
        rw [e9, e10] at this
        exact this
      have b1 : ¬ nI 10 ≤ nI u := hk_nlt (by omega) (by omega)
      refine hk_hd (n := 1000) (t := 7) rfl ?_
      refine And.intro (fun hc => absurd hc b1) (fun _ => ?_)
      refine m_findD (u := X) (by omega) (fun s4 f4 hd => ?_)
      have f5 : ∀ p q, p ≠ 50 → s4 p q = s p q := fun p q p2 => (f4 p q p2).trans (f3 p q p2)
      have f6 : hk_gF s s4 := fun p q p1 p2 => f5 p q p2
      have H4 : hk_Hu (s4 41) fl gn cn N D I := hk_Hu_fr H (fun q => f5 41 q (by omega))
      have e3 := H4.2.2.2.1
      have hBu := hB u (by omega) X hG
      have f49 : ∀ q, s4 49 q = s 49 q := fun q => f5 49 q (by omega)
      -- the test
      have tst : ∀ j, hk_dr fl gn cn N D I X u j → j < 2 ^ N → (s 49 ((u + 1) * 14641 + hk_dt X j N) - nI (hk_pc j) + 64 * nI (hk_fc fl gn X u N) = s 49 (u * 14641 + X) ↔ hk_bst fl gn cn N D I u X j) := fun j hr hj => (hk_tst hN hD hBu (hB (u + 1) (by omega) _ (hk_Gd_next hN (by omega) hG hr)) hr.1).trans ⟨fun e => (bb2 j hj).mp ⟨hr, e⟩, fun e => ((bb2 j hj).mpr e).2⟩
      clear bb2 hBu
      -- the sets from the least
      have l77 : ∀ (q j : Nat) (t : Int32), j + q = wt → (hk_dr fl gn cn N D I X u j → t = nI (hk_dt X j N)) → (¬ hk_dr fl gn cn N D I X u j → t = -1) → hk_Rn (d + 4) none hk_c203 (hk_sfx 77 hk_c203) [some (.ref 40), some (.int z), some (.int (nI X)), some (.int (nI (hk_sdg X N))), some (.int (nI u)), some (.int (nI (hk_fc fl gn X u N))), some (.int (nI j)), some (.int t)] [] (s4, lm, hk_RH i0 i1 b, al) k := by
        have ldA : ∀ j, hk_dr fl gn cn N D I X u j → (nI u + 1) * 14641 + nI (hk_dt X j N) = nI ((u + 1) * 14641 + hk_dt X j N) ∧ hk_dt X j N < 14641 := fun j hr => ⟨by rw [nI_1, hk_yx], (hk_Gd_next hN (by omega) hG hr).1⟩
        have nxt : ∀ (m j : Nat) (t : Int32), j + 1 ≤ wt → (∀ t2, (hk_dr fl gn cn N D I X u (j + 1) → t2 = nI (hk_dt X (j + 1) N)) → (¬ hk_dr fl gn cn N D I X u (j + 1) → t2 = -1) → hk_Rn (d + 4) none hk_c203 (hk_sfx 77 hk_c203) [some (.ref 40), some (.int z), some (.int (nI X)), some (.int (nI (hk_sdg X N))), some (.int (nI u)), some (.int (nI (hk_fc fl gn X u N))), some (.int (nI (j + 1))), some (.int t2)] [] (s4, lm, hk_RH i0 i1 b, al) k) → hk_wp (d + 4) none hk_c203 k (m + 60) (hk_sfx 127 hk_c203) [some (.ref 40), some (.int z), some (.int (nI X)), some (.int (nI (hk_sdg X N))), some (.int (nI u)), some (.int (nI (hk_fc fl gn X u N))), some (.int (nI j)), some (.int t)] [] (s4, lm, hk_RH i0 i1 b, al) := by
          intro m j t hj hk
          refine hk_Cl_arg (a2 := [.ref 40, .int (nI X), .int (nI u), .int (nI (j + 1))]) (by rw [← nI_1 j]; rfl) ?_
          refine m_docksThen (d := d + 1) (set := j + 1) H4 hd hX (by omega) (by omega) (fun hr => ?_) (fun hr => ?_)
          · exact hk_Rn_cast (by rw [← nI_1 j]; rfl) (hk _ (fun _ => rfl) (fun q => absurd hr q))
          · exact hk_Rn_cast (by rw [← nI_1 j]; rfl) (hk _ (fun q => absurd q hr) (fun _ => rfl))
        intro q
        induction q with
        | zero =>
          intro j t hj ht1 _
          have ej : j = wt := by omega
          subst ej
          have et := ht1 ls1.1.2.1
          subst et
          obtain ⟨ea, eb⟩ := ldA j ls1.1.2.1
          have b2 : ¬ nI (hk_dt X j N) = -1 := fun e => nI_pos (n := hk_dt X j N) (by omega) (by rw [e]; decide)
          refine hk_hd (n := 1000) (t := 77) rfl ?_
          refine And.intro (fun hc => absurd hc b2) (fun _ => ?_)
          refine hk_ldi (i := (nI u + 1) * 14641 + nI (hk_dt X j N)) (j := (u + 1) * 14641 + hk_dt X j N) ea (by omega) (by decide) (f49 _) ?_
          refine m_popE (by omega) ?_
          refine hk_ldi (i := nI u * 14641 + nI X) (j := u * 14641 + X) hk_yx (by omega) (by decide) (f49 _) ?_
          refine And.intro (fun _ => ?_) (fun hc => absurd ((tst j ls1.1.2.1 ls1.1.1).mpr ls1) hc)
          refine And.intro (fun c1 => ?_) (fun c1 => ?_)
          · have c1 : ¬ nI u = z := c1
            have ne : ¬ u = zz := fun e => c1 (by rw [hz, e])
            refine m_popE (by omega) ?_
            refine hk_Rn_cast ?_ (nxt0 s4 (some (.int (nI (hk_fc fl gn X u N)))) (some (.int (nI j))) (some (.int (nI (hk_dt X j N)))) (by omega) f5)
            rw [← nI_1 u, ← nI_add]
            rfl
          · have c1 : ¬ ¬ nI u = z := c1
            rw [hz, Classical.not_not, nI_eq (by omega) (by omega)] at c1
            have key := h1 s4 f6
            rw [epv c1.symm] at key
            exact key
        | succ q ih2 =>
          intro j t hj ht1 ht2
          have hj2 : j < 2 ^ N := by
            have := ls1.1.1
            omega
          by_cases hr : hk_dr fl gn cn N D I X u j
          · have et := ht1 hr
            subst et
            obtain ⟨ea, eb⟩ := ldA j hr
            have b2 : ¬ nI (hk_dt X j N) = -1 := fun e => nI_pos (n := hk_dt X j N) (by omega) (by rw [e]; decide)
            refine hk_hd (n := 1000) (t := 77) rfl ?_
            refine And.intro (fun hc => absurd hc b2) (fun _ => ?_)
            refine hk_ldi (i := (nI u + 1) * 14641 + nI (hk_dt X j N)) (j := (u + 1) * 14641 + hk_dt X j N) ea (by omega) (by decide) (f49 _) ?_
            refine m_popE (by omega) ?_
            refine hk_ldi (i := nI u * 14641 + nI X) (j := u * 14641 + X) hk_yx (by omega) (by decide) (f49 _) ?_
            refine And.intro (fun hc => absurd hc (fun e => ls3 j (by omega) ((tst j hr hj2).mp e))) (fun _ => ?_)
            exact nxt _ j _ (by omega) (fun t2 q1 q2 => ih2 (j + 1) t2 (by omega) q1 q2)
          · have et := ht2 hr
            subst et
            refine hk_hd (n := 1000) (t := 77) rfl ?_
            refine And.intro (fun _ => ?_) (fun hc => absurd (by decide) hc)
            exact nxt _ j _ (by omega) (fun t2 q1 q2 => ih2 (j + 1) t2 (by omega) q1 q2)
      have l25 : ∀ (q h : Nat), h + q = N → ∀ (l6 l7 : Option Value), hk_Rn (d + 4) none hk_c203 (hk_sfx 25 hk_c203) [some (.ref 40), some (.int z), some (.int (nI X)), some (.int (nI (hk_sdg X N))), some (.int (nI u)), some (.int (nI (hk_fc fl gn X u h))), some (.int (nI h)), l7] [] (s4, lm, hk_RH i0 i1 b, al) k := by
        intro q
        induction q with
        | zero =>
          intro h hh l6 l7
          have eh : h = N := by omega
          subst eh
          refine hk_hd (n := 1000) (t := 25) rfl ?_
          refine hk_ldi (i := nI 3) (j := 3) (by simp only [hk_lit, pk_mul, nI_add]) (by omega) (by decide) e3 ?_
          refine And.intro (fun _ => ?_) (fun hc => absurd (Int32.le_refl _) hc)
          refine m_docksThen (d := d + 1) (set := 0) H4 hd hX (by omega) (by omega) (fun hr => ?_) (fun hr => ?_)
          · exact l77 wt 0 _ (by omega) (fun _ => rfl) (fun q => absurd hr q)
          · exact absurd (hk_dr0 hG) hr
        | succ q ih2 =>
          intro h hh l6 l7
          have a1 : ¬ nI N ≤ nI h := hk_nlt (by omega) (by omega)
          refine hk_hd (n := 1000) (t := 25) rfl ?_
          refine hk_ldi (i := nI 3) (j := 3) (by simp only [hk_lit, pk_mul, nI_add]) (by omega) (by decide) e3 ?_
          refine And.intro (fun hc => absurd hc a1) (fun _ => ?_)
          refine m_floatsE H4 hd (by omega) (by omega) (fun hf => ?_) (fun hf => ?_)
          · refine And.intro (fun hc => absurd hc (by decide)) (fun _ => ?_)
            refine hk_Rn_cast ?_ (ih2 (h + 1) (by omega) none l7)
            rw [hk_fc, if_pos hf, ← nI_1, ← nI_1]
            rfl
          · refine And.intro (fun _ => ?_) (fun hc => absurd (by decide) hc)
            refine hk_Rn_cast ?_ (ih2 (h + 1) (by omega) none l7)
            rw [hk_fc, if_neg hf, ← nI_add, ← nI_1]
            rfl
      exact l25 N 0 (by omega) none l7
  have s0 : hk_sdg 0 N = 0 := by
    have : ∀ h, hk_sdg 0 h = 0 := fun h => by
      induction h with
      | zero => rfl
      | succ h ih => rw [hk_sdg, ih, hk_dg00]
    exact this N
  refine hk_mth hk_m203 rfl rfl (n := 1000) ?_
  refine hk_Rn_cast ?_ (loop 10 0 s none none none (by omega) (Nat.zero_le _) (fun _ _ _ => rfl))
  show _ = [some (Value.ref 40), some (.int z), some (.int (nI 0)), some (.int (nI (hk_sdg 0 N))), some (.int (nI 0)), none, none, none]
  rw [s0]
  rfl
/-- the plan's answers, of the row -/
noncomputable def hk_pvv (fl gn cn : Nat → Nat) (N D I : Nat) (z : Int32) : Int32 := if z = -1 then nI (hk_pba fl gn (hk_pX fl gn cn N D I 10) 10 N) else nI (hk_pvN fl gn cn N D I z.toNatClampNeg)
theorem m_planX (H : hk_Hu (s 41) fl gn cn N D I) (hg : ∀ h, h < N → 1 ≤ gn h) (hb : ¬ hk_rg z (-1) 11 → k (some (.int (-2))) (s, lm, hk_RH i0 i1 b, al)) (h1 : ∀ s2, hk_rg z (-1) 11 → hk_gF s s2 → k (some (.int (hk_pvv fl gn cn N D I z))) (s2, lm, hk_RH i0 i1 b, al)) : hk_Cl (d + 6) 195 [.ref 40, .int z] (s, lm, hk_RH i0 i1 b, al) k := by
  have hN := H.1
  have hD := H.2.1
  refine hk_mth hk_m195 rfl rfl (n := 1000) ?_
  refine m_in (fun q1 q2 => ?_) (fun a => ?_)
  rotate_left
  · refine And.intro (fun hc => absurd hc (by decide)) (fun _ => ?_)
    exact hb (fun q => a.elim q.1 q.2)
  refine And.intro (fun _ => ?_) (fun hc => absurd (by decide) hc)
  have key := fun s2 => h1 s2 ⟨q1, q2⟩
  unfold hk_pvv at key
  refine m_findBest H (fun s2 f2 hB => ?_)
  refine And.intro (fun c1 => ?_) (fun c1 => ?_)
  · have c1 : ¬ z = -1 := c1
    rw [if_neg c1] at key
    have p0 : ¬ z < 0 := fun q => by
      have q1 := Int32.le_iff_toInt_le.mp (Int32.not_lt.mp q1)
      have q := Int32.lt_iff_toInt_lt.mp q
      rw [show (0 : Int32).toInt = 0 from rfl] at q
      rw [show (-1 : Int32).toInt = -1 from rfl] at q1
      exact c1 (Int32.toInt_inj.mp (by rw [show (-1 : Int32).toInt = -1 from rfl]; omega))
    obtain ⟨zz, hzz, ez⟩ := hk_rng (n := 11) (by decide) p0 q2
    have ec : z.toNatClampNeg = zz := by rw [ez, nI_clamp (by omega)]
    rw [ec] at key
    exact m_goesByX (hk_Hu_fr H (fun q => f2 41 q (by omega) (by omega))) hg hB ez hzz (fun s3 f3 => key s3 (fun p q p1 p2 => (f3 p q p1 p2).trans (f2 p q p1 p2)))
  · have c1 : ¬ ¬ z = -1 := c1
    rw [if_pos (Classical.not_not.mp c1)] at key
    have tp := hk_top (R := hk_Rt (s2 49)) hN hD hg (hk_pRR_of hN hB)
    obtain ⟨v, hv, ev, _⟩ := hB 0 (by omega) 0 hk_Gd00
    have ev : s2 49 0 = nI v := ev
    have er : hk_Rt (s2 49) 0 0 = v := by
      show (s2 49 0).toNatClampNeg = v
      rw [ev, nI_clamp (by omega)]
    rw [er] at tp
    have key := key s2 f2
    rw [← tp] at key
    have ed : (nI v + 63) / 64 = nI ((v + 63) / 64) := by
      rw [show nI v + 63 = nI (v + 63) from nI_add v 63]
      exact pk_div (d := 64) (by omega) (by omega) (by omega)
    rw [← ed, ← ev] at key
    refine hk_ldi (i := nI 0) (j := 0) (by simp only [hk_lit, pk_mul, nI_add]) (by omega) (by decide) rfl ?_
    refine And.intro (by decide) ?_
    exact key
end HKPQ
def hk_Pn (s : Nat → Nat → Int32) (fl gn cn : Nat → Nat) (N D I : Nat) : Prop := (∀ y, y < 10 → s 34 y = nI (hk_lst fl gn cn N D I y (hk_pX fl gn cn N D I y))) ∧ s 29 8 = nI (hk_pba fl gn (hk_pX fl gn cn N D I 10) 10 N) ∧ s 29 9 = nI (hk_lg fl gn (hk_pX fl gn cn N D I 10) N) ∧ s 29 10 = nI (hk_sdg (hk_pX fl gn cn N D I 10) N)
/-- the hulls of a row -/
def hk_flc (f : Nat → Int32) (i : Nat) : Nat := if i < 4 then (f (1666 + 3 * i)).toNatClampNeg else 0
def hk_gnc (f : Nat → Int32) (i : Nat) : Nat := if i < 4 then (f (1666 + 3 * i + 1)).toNatClampNeg else 0
def hk_cnc (f : Nat → Int32) (i : Nat) : Nat := if i < 4 then (f (1666 + 3 * i + 2)).toNatClampNeg else 0
theorem hk_Hu_c {f : Nat → Int32} {a b r : Nat} (h : hk_RI f a b r) : hk_Hu f (hk_flc f) (hk_gnc f) (hk_cnc f) (f 3).toNatClampNeg (f 10).toNatClampNeg (f 11).toNatClampNeg ∧ ∀ i, i < (f 3).toNatClampNeg → 1 ≤ hk_gnc f i := by
  obtain ⟨N, hN, eN, hh⟩ := h.2.2.2.2.2.2.2.2.1
  obtain ⟨D, hD, eD, _⟩ := h.2.2.2.2.2.2.2.2.2.2.2.2.1
  obtain ⟨I, hI, eI⟩ := h.2.2.2.2.2.2.2.2.2.2.2.2.2
  rw [eN, eD, eI, nI_clamp (by omega), nI_clamp (by omega), nI_clamp (by omega)]
  refine ⟨⟨hN, hD, hI, eN, eD, eI, fun i hi => ?_⟩, fun i hi => ?_⟩
  · obtain ⟨x, y, z, h1, h2, h3, h4, e1, e2, e3⟩ := hh i hi
    unfold hk_flc hk_gnc hk_cnc
    rw [if_pos (by omega), if_pos (by omega), if_pos (by omega), e1, e2, e3, nI_clamp (by omega), nI_clamp (by omega), nI_clamp (by omega)]
    exact ⟨rfl, rfl, rfl, h1, h3, h4⟩
  · obtain ⟨x, y, z, h1, h2, h3, h4, e1, e2, e3⟩ := hh i hi
    unfold hk_gnc
    rw [if_pos (by omega), e2, nI_clamp (by omega)]
    exact h2
/-- the planner's plan, if it has one, is the row's -/
def hk_PC (s : Nat → Nat → Int32) : Prop := s 29 11 = 0 ∨ hk_Pn s (hk_flc (s 41)) (hk_gnc (s 41)) (hk_cnc (s 41)) (s 41 3).toNatClampNeg (s 41 10).toNatClampNeg (s 41 11).toNatClampNeg
theorem hk_PC_fr {s s2 : Nat → Nat → Int32} (h : hk_PC s) (e29 : ∀ q, 8 ≤ q → q ≤ 11 → s2 29 q = s 29 q) (e34 : ∀ q, q < 10 → s2 34 q = s 34 q) (e41 : ∀ q, q = 3 ∨ q = 10 ∨ q = 11 ∨ 1666 ≤ q ∧ q < 1678 → s2 41 q = s 41 q) : hk_PC s2 := by
  have f1 : hk_flc (s2 41) = hk_flc (s 41) := funext fun i => by
    unfold hk_flc
    by_cases c : i < 4
    · rw [if_pos c, if_pos c, e41 _ (by omega)]
    · rw [if_neg c, if_neg c]
  have f2 : hk_gnc (s2 41) = hk_gnc (s 41) := funext fun i => by
    unfold hk_gnc
    by_cases c : i < 4
    · rw [if_pos c, if_pos c, e41 _ (by omega)]
    · rw [if_neg c, if_neg c]
  have f3 : hk_cnc (s2 41) = hk_cnc (s 41) := funext fun i => by
    unfold hk_cnc
    by_cases c : i < 4
    · rw [if_pos c, if_pos c, e41 _ (by omega)]
    · rw [if_neg c, if_neg c]
  rcases h with h | ⟨h1, h2, h3, h4⟩
  · exact Or.inl (by rw [e29 11 (by omega) (by omega)]; exact h)
  · right
    rw [f1, f2, f3, e41 3 (by omega), e41 10 (by omega), e41 11 (by omega)]
    exact ⟨fun y hy => (e34 y hy).trans (h1 y hy), (e29 8 (by omega) (by omega)).trans h2, (e29 9 (by omega) (by omega)).trans h3, (e29 10 (by omega) (by omega)).trans h4⟩
theorem hk_PC_0 {s : Nat → Nat → Int32} (h : s 29 11 = 0) : hk_PC s := Or.inl h
