/-! ===== the reference's plan: a set docked ===== -/
theorem hk_sub3 (P Q a : Nat) : nI P - nI Q - nI a = nI P - nI (Q + a) := by
  rw [← nI_add]
  apply Int32.toBitVec_inj.mp
  simp only [Int32.toBitVec_sub, Int32.toBitVec_add]
  apply BitVec.eq_of_toNat_eq
  simp only [BitVec.toNat_sub, BitVec.toNat_add]
  have h1 := (nI P).toBitVec.isLt
  have h2 := (nI Q).toBitVec.isLt
  have h3 := (nI a).toBitVec.isLt
  omega
theorem hk_bit {set h : Nat} (hh : h < 4) (hs : set < 2 ^ 31) : (nI set >>> (nI h &&& 31)) &&& 1 = nI (set / 2 ^ h % 2) := by
  have e : nI set >>> (nI h &&& 31) = nI (set / 2 ^ h) := by
    match h, hh with
    | 0, _ => exact pk_shrN hs _ 0 (by decide)
    | 1, _ => exact pk_shrN hs _ 1 (by decide)
    | 2, _ => exact pk_shrN hs _ 2 (by decide)
    | 3, _ => exact pk_shrN hs _ 3 (by decide)
  have hd : set / 2 ^ h ≤ set := Nat.div_le_self _ _
  rw [e]
  exact pk_andN (by omega) 1 (by decide)
theorem hk_dq_le {cn : Nat → Nat} {X set N : Nat} (hc : ∀ h, h < N → cn h ≤ 1000) : ∀ h, h ≤ N → hk_dq cn X set h ≤ 12000 * h
  | 0, _ => Nat.le_refl _
  | h + 1, hh => by
    have ih := hk_dq_le (X := X) (set := set) hc h (by omega)
    have hdg : hk_dg X h < 11 := Nat.mod_lt _ (by omega)
    have h1 := hc h (by omega)
    have h2 : hk_dg X h * cn h ≤ 11 * 1000 := Nat.mul_le_mul (by omega) h1
    rw [hk_dq]
    split <;> omega
theorem hk_mny {P Q : Nat} (hP : P < 2 ^ 30) (hQ : Q < 2 ^ 30) : ((0 : Int32) ≤ nI P - nI Q ↔ Q ≤ P) := by
  by_cases h : Q ≤ P
  · rw [pk_sub h]
    exact ⟨fun _ => h, fun _ => nI_pos' (by omega)⟩
  · have := pk_sneg (a := P) (b := Q) hQ (by omega)
    exact ⟨fun q => absurd this (Int32.not_lt.mpr q), fun q => absurd q h⟩
theorem hk_pc_le : ∀ (g j : Nat), j ≤ g → hk_pc j ≤ j
  | 0, j, h => by
    have e : j = 0 := by omega
    subst e
    rw [hk_pc, dif_pos rfl]
    omega
  | g + 1, j, h => by
    by_cases e : j = 0
    · subst e
      rw [hk_pc, dif_pos rfl]
      omega
    · have ih := hk_pc_le g (j / 2) (by omega)
      rw [hk_pc, dif_neg e]
      omega
section HKD2
variable {d n a bb r : Nat} {v w x y z : Int32} {s : Nat → Nat → Int32} {lm : Nat → Nat → Int64} {i0 i1 b : Nat} {al : List Nat} {k : Option Value → hk_H → Prop} {hp : hk_H}
set_option maxHeartbeats 1000000 in
theorem m_docksThen {fl gn cn : Nat → Nat} {N D I X y set : Nat} (H : hk_Hu (s 41) fl gn cn N D I) (hd : ∀ q, q < 4 → s 50 q = nI (hk_dg X q)) (hX : X < 14641) (hy : y < 20) (hs : set < 2 ^ 30) (hY : hk_dr fl gn cn N D I X y set → k (some (.int (nI (hk_dt X set N)))) (s, lm, hk_RH i0 i1 b, al)) (hN : ¬ hk_dr fl gn cn N D I X y set → k (some (.int (-1))) (s, lm, hk_RH i0 i1 b, al)) : hk_Cl (d + 3) 199 [.ref 40, .int (nI X), .int (nI y), .int (nI set)] (s, lm, hk_RH i0 i1 b, al) k := by
  have H2 := H
  obtain ⟨n4, d3, i1k, e3, e10, e11, hu⟩ := H2
  have hP : I * (y + 1) ≤ 1000 * 20 := Nat.mul_le_mul i1k (by omega)
  have hcn : ∀ h, h < N → cn h ≤ 1000 := fun h hh => (hu h hh).2.2.2.2.2
  have loop : ∀ (g h : Nat), h + g = N → (∀ h', h' < h → set / 2 ^ h' % 2 = 1 → y < fl h' + gn h' * hk_dg X h') → hk_pc set ≤ D → hk_Rn (d + 2) none hk_c199 (hk_sfx 35 hk_c199) [some (.ref 40), some (.int (nI X)), some (.int (nI y)), some (.int (nI set)), some (.int (nI (I * (y + 1)) - nI (hk_dq cn X set h))), some (.int (nI (hk_dt X set h))), some (.int (nI h))] [] (s, lm, hk_RH i0 i1 b, al) k := by
    intro g
    induction g with
    | zero =>
      intro h hh hv hpc
      have eh : h = N := by omega
      subst eh
      have hQ := hk_dq_le (X := X) (set := set) hcn h (Nat.le_refl _)
      have hm := hk_mny (P := I * (y + 1)) (Q := hk_dq cn X set h) (by omega) (by omega)
      refine hk_hd (n := 1000) (t := 35) rfl ?_
      refine hk_ldi (i := nI 3) (j := 3) (by simp only [hk_lit, pk_mul, nI_add]) (by omega) (by decide) e3 ?_
      refine And.intro (fun _ => ?_) (fun hc => absurd (Int32.le_refl _) hc)
      refine And.intro (fun c1 => ?_) (fun c1 => ?_)
      · exact hY ⟨hpc, hv, hm.mp c1⟩
      · exact hN (fun q => c1 (hm.mpr q.2.2))
    | succ g ih =>
      intro h hh hv hpc
      have a1 : ¬ nI N ≤ nI h := hk_nlt (by omega) (by omega)
      have hQ := hk_dq_le (X := X) (set := set) hcn h (by omega)
      have ebit := hk_bit (set := set) (h := h) (by omega) (by omega)
      have ed : nI (I * (y + 1)) - nI (hk_dq cn X set h) - nI (hk_dg X h) * nI (cn h) = nI (I * (y + 1)) - nI (hk_dq cn X set h + hk_dg X h * cn h) := by rw [pk_mul, hk_sub3]
      refine hk_hd (n := 1000) (t := 35) rfl ?_
      refine hk_ldi (i := nI 3) (j := 3) (by simp only [hk_lit, pk_mul, nI_add]) (by omega) (by decide) e3 ?_
      refine And.intro (fun hc => absurd hc a1) (fun _ => ?_)
      refine hk_ldi (i := nI h) (j := h) (by simp only [hk_lit, pk_mul, nI_add]) (by omega) (by decide) (hd h (by omega)) ?_
      refine m_coin H (by omega) ?_
      refine And.intro (fun c1 => ?_) (fun c1 => ?_)
      · have c1 : ¬ (nI set >>> (nI h &&& 31)) &&& 1 = nI 1 := c1
        rw [ebit, nI_eq (by omega) (by omega)] at c1
        refine hk_Rn_cast (L2 := [some (.ref 40), some (.int (nI X)), some (.int (nI y)), some (.int (nI set)), some (.int (nI (I * (y + 1)) - nI (hk_dq cn X set (h + 1)))), some (.int (nI (hk_dt X set (h + 1)))), some (.int (nI (h + 1)))]) ?_ (ih (h + 1) (by omega) (fun h' hh' hb => ?_) hpc)
        · show [some (Value.ref 40), some (.int (nI X)), some (.int (nI y)), some (.int (nI set)), some (.int (nI (I * (y + 1)) - nI (hk_dq cn X set h) - nI (hk_dg X h) * nI (cn h))), some (.int (nI (hk_dt X set h))), some (.int (nI h + 1))] = _
          rw [ed, nI_1, hk_dq, hk_dt, if_neg c1, if_neg c1]
          rfl
        · by_cases e : h' = h
          · subst e; exact absurd hb c1
          · exact hv h' (by omega) hb
      · have c1 : ¬ ¬ (nI set >>> (nI h &&& 31)) &&& 1 = nI 1 := c1
        rw [ebit, nI_eq (by omega) (by omega), Classical.not_not] at c1
        refine m_floatsE H hd (by omega) (by omega) (fun hf => ?_) (fun hf => ?_)
        · refine And.intro (fun _ => ?_) (fun hc => absurd (by decide) hc)
          refine m_coin H (by omega) ?_
          refine m_power (by omega) ?_
          refine hk_Rn_cast (L2 := [some (.ref 40), some (.int (nI X)), some (.int (nI y)), some (.int (nI set)), some (.int (nI (I * (y + 1)) - nI (hk_dq cn X set (h + 1)))), some (.int (nI (hk_dt X set (h + 1)))), some (.int (nI (h + 1)))]) ?_ (ih (h + 1) (by omega) (fun h' hh' hb => ?_) hpc)
          · show [some (Value.ref 40), some (.int (nI X)), some (.int (nI y)), some (.int (nI set)), some (.int (nI (I * (y + 1)) - nI (hk_dq cn X set h) - nI (hk_dg X h) * nI (cn h) - nI (cn h))), some (.int (nI (hk_dt X set h) + nI (11 ^ h))), some (.int (nI h + 1))] = _
            rw [ed, nI_1, hk_sub3, nI_add, hk_dq, hk_dt, if_pos c1, if_pos c1]
          · by_cases e : h' = h
            · subst e; exact hf
            · exact hv h' (by omega) hb
        · refine And.intro (fun hc => absurd hc (by decide)) (fun _ => ?_)
          exact hN (fun q => hf (q.2.1 h (by omega) c1))
  have ep : nI I * (nI y + 1) = nI (I * (y + 1)) - nI (hk_dq cn X set 0) := by
    rw [nI_1, pk_mul, hk_dq, pk_sub (by omega)]
    rfl
  refine hk_mth hk_m199 rfl rfl (n := 1000) ?_
  refine m_popE (by omega) ?_
  refine hk_ldi (i := nI 10) (j := 10) (by simp only [hk_lit, pk_mul, nI_add]) (by omega) (by decide) e10 ?_
  have hpl := hk_pc_le set set (Nat.le_refl _)
  refine And.intro (fun c1 => ?_) (fun c1 => ?_)
  · have c1 : nI (hk_pc set) ≤ nI D := c1
    rw [nI_leI (by omega) (by omega)] at c1
    refine hk_ldi (i := nI 11) (j := 11) (by simp only [hk_lit, pk_mul, nI_add]) (by omega) (by decide) e11 ?_
    refine hk_Rn_cast (L2 := [some (.ref 40), some (.int (nI X)), some (.int (nI y)), some (.int (nI set)), some (.int (nI (I * (y + 1)) - nI (hk_dq cn X set 0))), some (.int (nI (hk_dt X set 0))), some (.int (nI 0))]) ?_ (loop N 0 (by omega) (fun _ q => absurd q (Nat.not_lt_zero _)) c1)
    show [some (Value.ref 40), some (.int (nI X)), some (.int (nI y)), some (.int (nI set)), some (.int (nI I * (nI y + 1))), some (.int (nI X)), some (.int 0)] = _
    rw [ep]
    rfl
  · have c1 : ¬ nI (hk_pc set) ≤ nI D := c1
    rw [nI_leI (by omega) (by omega)] at c1
    exact hN (fun q => c1 q.1)
end HKD2
