/-! ===== the reference's plan: one docking ===== -/
def hk_dg (x h : Nat) : Nat := x / 11 ^ h % 11
def hk_pc (j : Nat) : Nat := if h : j = 0 then 0 else j % 2 + hk_pc (j / 2)
termination_by j
decreasing_by omega
/-- what h ships cost; the state then -/
def hk_dq (cn : Nat → Nat) (x set : Nat) : Nat → Nat
  | 0 => 0
  | h + 1 => hk_dq cn x set h + hk_dg x h * cn h + (if set / 2 ^ h % 2 = 1 then cn h else 0)
def hk_dt (x set : Nat) : Nat → Nat
  | 0 => x
  | h + 1 => hk_dt x set h + (if set / 2 ^ h % 2 = 1 then 11 ^ h else 0)
/-- the hulls' numbers -/
def hk_Hu (f : Nat → Int32) (fl gn cn : Nat → Nat) (N D I : Nat) : Prop := N ≤ 4 ∧ D ≤ 3 ∧ I ≤ 1000 ∧ f 3 = nI N ∧ f 10 = nI D ∧ f 11 = nI I ∧ ∀ h, h < N → f (1666 + 3 * h) = nI (fl h) ∧ f (1666 + 3 * h + 1) = nI (gn h) ∧ f (1666 + 3 * h + 2) = nI (cn h) ∧ fl h ≤ 10 ∧ gn h ≤ 10 ∧ cn h ≤ 1000
theorem hk_Hu_of {f : Nat → Int32} {a b r : Nat} (h : hk_RI f a b r) : ∃ fl gn cn N D I, hk_Hu f fl gn cn N D I := by
  obtain ⟨N, hN, eN, hh⟩ := h.2.2.2.2.2.2.2.2.1
  obtain ⟨D, hD, eD, _⟩ := h.2.2.2.2.2.2.2.2.2.2.2.2.1
  obtain ⟨I, hI, eI⟩ := h.2.2.2.2.2.2.2.2.2.2.2.2.2
  refine ⟨fun i => (f (1666 + 3 * i)).toNatClampNeg, fun i => (f (1666 + 3 * i + 1)).toNatClampNeg, fun i => (f (1666 + 3 * i + 2)).toNatClampNeg, N, D, I, hN, hD, hI, eN, eD, eI, fun i hi => ?_⟩
  obtain ⟨x, y, z, h1, h2, h3, h4, e1, e2, e3⟩ := hh i hi
  dsimp only
  rw [e1, e2, e3, nI_clamp (by omega), nI_clamp (by omega), nI_clamp (by omega)]
  exact ⟨rfl, rfl, rfl, h1, h3, h4⟩
/-- may the set be docked: the state then -/
def hk_dr (fl gn cn : Nat → Nat) (N D I x y set : Nat) : Prop := hk_pc set ≤ D ∧ (∀ h, h < N → set / 2 ^ h % 2 = 1 → y < fl h + gn h * hk_dg x h) ∧ hk_dq cn x set N ≤ I * (y + 1)
section HKD1
variable {d n a bb r : Nat} {v w x y z : Int32} {s : Nat → Nat → Int32} {lm : Nat → Nat → Int64} {i0 i1 b : Nat} {al : List Nat} {k : Option Value → hk_H → Prop} {hp : hk_H}
theorem m_popE {j : Nat} (hj : j < 2 ^ 31) (h1 : k (some (.int (nI (hk_pc j)))) hp) : hk_Cl (d + 1) 200 [.int (nI j)] hp k := by
  have loop : ∀ (q i m : Nat), i < 2 ^ q → q ≤ 31 → m + hk_pc i = hk_pc j → hk_Rn d none hk_c200 (hk_sfx 4 hk_c200) [some (.int (nI j)), some (.int (nI m)), some (.int (nI i))] [] hp k := by
    intro q
    induction q with
    | zero =>
      intro i m hi hq hm
      have e : i = 0 := by omega
      subst e
      rw [show hk_pc 0 = 0 by unfold hk_pc; rfl] at hm
      have hm : m = hk_pc j := by omega
      subst hm
      refine hk_hd (n := 1000) (t := 4) rfl ?_
      refine And.intro (fun _ => ?_) (fun hc => absurd (by decide) hc)
      exact h1
    | succ q ih =>
      intro i m hi hq hm
      have hq1 : 2 ^ (q + 1) = 2 * 2 ^ q := by rw [Nat.pow_succ]; omega
      have hq2 : 2 ^ (q + 1) ≤ 2 ^ 31 := Nat.pow_le_pow_right (by omega) (by omega)
      by_cases hi0 : i = 0
      · subst hi0
        rw [show hk_pc 0 = 0 by unfold hk_pc; rfl] at hm
        have hm : m = hk_pc j := by omega
        subst hm
        refine hk_hd (n := 1000) (t := 4) rfl ?_
        refine And.intro (fun _ => ?_) (fun hc => absurd (by decide) hc)
        exact h1
      have a1 : ¬ nI i ≤ 0 := nI_nle (by omega) (by omega)
      have e1 : nI m + (nI i &&& 1) = nI (m + i % 2) := by
        rw [pk_andN (by omega) 1 (by decide), nI_add]
      have e2 : nI i >>> ((1 : Int32) &&& 31) = nI (i / 2) := by
        rw [pk_shrN (by omega) _ 1 (by decide)]
      have e3 : hk_pc i = i % 2 + hk_pc (i / 2) := by
        rw [hk_pc, dif_neg hi0]
      refine hk_hd (n := 1000) (t := 4) rfl ?_
      refine And.intro (fun hc => absurd hc a1) (fun _ => ?_)
      refine hk_Rn_cast (L2 := [some (.int (nI j)), some (.int (nI (m + i % 2))), some (.int (nI (i / 2)))]) ?_ (ih (i / 2) (m + i % 2) (by omega) (by omega) (by omega))
      show [some (Value.int (nI j)), some (Value.int (nI m + (nI i &&& 1))), some (Value.int (nI i >>> ((1 : Int32) &&& 31)))] = _
      rw [e1, e2]
  refine hk_mth hk_m200 rfl rfl (n := 1000) ?_
  exact loop 31 j 0 (by omega) (by omega) (by omega)
theorem m_findD {u : Nat} (hu : u < 2 ^ 31) (h1 : ∀ s2, (∀ p q, p ≠ 50 → s2 p q = s p q) → (∀ q, q < 4 → s2 50 q = nI (hk_dg u q)) → k none (s2, lm, hk_RH i0 i1 b, al)) : hk_Cl (d + 1) 197 [.ref 40, .int (nI u)] (s, lm, hk_RH i0 i1 b, al) k := by
  have loop : ∀ (g i : Nat) (s3 : Nat → Nat → Int32), i + g = 4 → (∀ p q, p ≠ 50 → s3 p q = s p q) → (∀ q, q < i → s3 50 q = nI (hk_dg u q)) → hk_Rn d none hk_c197 (hk_sfx 4 hk_c197) [some (.ref 40), some (.int (nI u)), some (.int (nI (u / 11 ^ i))), some (.int (nI i))] [] (s3, lm, hk_RH i0 i1 b, al) k := by
    intro g
    induction g with
    | zero =>
      intro i s3 hi h2 h3
      have e : i = 4 := by omega
      subst e
      refine hk_hd (n := 1000) (t := 4) rfl ?_
      refine And.intro (fun _ => ?_) (fun hc => absurd (show (4 : Int32) ≤ nI 4 by decide) hc)
      exact h1 s3 h2 h3
    | succ g ih =>
      intro i s3 hi h2 h3
      have b1 : ¬ nI 4 ≤ nI i := hk_nlt (by omega) (by omega)
      have ha : u / 11 ^ i < 2 ^ 31 := Nat.lt_of_le_of_lt (Nat.div_le_self _ _) hu
      have e1 : nI (u / 11 ^ i) - nI (u / 11 ^ i) / 11 * 11 = nI (hk_dg u i) := pk_rem (d := 11) ha (by omega) (by omega)
      have e2 : nI (u / 11 ^ i) / 11 = nI (u / 11 ^ (i + 1)) := by
        rw [Nat.pow_succ, ← Nat.div_div_eq_div_mul]
        exact pk_div (d := 11) ha (by omega) (by omega)
      refine hk_hd (n := 1000) (t := 4) rfl ?_
      refine And.intro (fun hc => absurd hc b1) (fun _ => ?_)
      refine And.intro (by decide) ?_
      refine hk_stn (i := nI i) (j := i) (x := nI (u / 11 ^ i) - nI (u / 11 ^ i) / 11 * 11) rfl (by omega) (by decide) (fun s4 hs4 => ?_)
      rw [e1] at hs4
      have o4 : ∀ p q, ¬ (p = 50 ∧ q = i) → s4 p q = s3 p q := fun p q h => by rw [hs4, hk_u2o h]
      refine And.intro (by decide) ?_
      refine hk_Rn_cast (L2 := [some (.ref 40), some (.int (nI u)), some (.int (nI (u / 11 ^ (i + 1)))), some (.int (nI (i + 1)))]) ?_ (ih (i + 1) s4 (by omega) (fun p q hp => by rw [o4 p q (fun h => hp h.1)]; exact h2 p q hp) (fun q hq => ?_))
      · show [some (Value.ref 40), some (.int (nI u)), some (.int (nI (u / 11 ^ i) / 11)), some (.int (nI i + 1))] = _
        rw [e2, nI_1]
      · by_cases eq : q = i
        · subst eq; rw [hs4, hk_u2s]
        · rw [o4 _ _ (fun h => eq h.2)]; exact h3 q (by omega)
  refine hk_mth hk_m197 rfl rfl (n := 1000) ?_
  exact hk_Rn_cast (by rw [Nat.pow_zero, Nat.div_one]; rfl) (loop 4 0 s (by omega) (fun _ _ _ => rfl) (fun q hq => absurd hq (Nat.not_lt_zero q)))
theorem m_floatsE {fl gn cn : Nat → Nat} {N D I X h y : Nat} (H : hk_Hu (s 41) fl gn cn N D I) (hd : ∀ q, q < 4 → s 50 q = nI (hk_dg X q)) (hh : h < N) (hy : y < 100) (h1 : y < fl h + gn h * hk_dg X h → k (some (.int 1)) (s, lm, hk_RH i0 i1 b, al)) (h0 : ¬ y < fl h + gn h * hk_dg X h → k (some (.int 0)) (s, lm, hk_RH i0 i1 b, al)) : hk_Cl (d + 1) 198 [.ref 40, .int (nI h), .int (nI y)] (s, lm, hk_RH i0 i1 b, al) k := by
  obtain ⟨hN, _, _, _, _, _, hu⟩ := H
  obtain ⟨e1, e2, e3, b1, b2, b3⟩ := hu h hh
  have hdg : hk_dg X h < 11 := Nat.mod_lt _ (by omega)
  have hm : gn h * hk_dg X h ≤ 10 * 10 := Nat.mul_le_mul b2 (by omega)
  refine hk_mth hk_m198 rfl rfl (n := 1000) ?_
  refine hk_ldi (i := 1666 + 3 * nI h) (j := 1666 + 3 * h) (by simp only [hk_lit, pk_mul, nI_add]) (by omega) (by decide) e1 ?_
  refine hk_ldi (i := 1666 + 3 * nI h + 1) (j := 1666 + 3 * h + 1) (by simp only [hk_lit, pk_mul, nI_add]) (by omega) (by decide) e2 ?_
  refine hk_ldi (i := nI h) (j := h) (by simp only [hk_lit, pk_mul, nI_add]) (by omega) (by decide) (hd h (by omega)) ?_
  have ev : nI (fl h) + nI (gn h) * nI (hk_dg X h) = nI (fl h + gn h * hk_dg X h) := by rw [pk_mul, nI_add]
  refine And.intro (fun c1 => ?_) (fun c1 => ?_)
  · have c1 : nI (fl h) + nI (gn h) * nI (hk_dg X h) ≤ nI y := c1
    rw [ev, nI_leI (by omega) (by omega)] at c1
    exact And.intro (Or.inl rfl) (h0 (by omega))
  · have c1 : ¬ nI (fl h) + nI (gn h) * nI (hk_dg X h) ≤ nI y := c1
    rw [ev, nI_leI (by omega) (by omega)] at c1
    exact And.intro (Or.inr rfl) (h1 (by omega))
theorem m_coin {fl gn cn : Nat → Nat} {N D I h : Nat} (H : hk_Hu (s 41) fl gn cn N D I) (hh : h < N) (h1 : k (some (.int (nI (cn h)))) (s, lm, hk_RH i0 i1 b, al)) : hk_Cl (d + 1) 201 [.ref 40, .int (nI h)] (s, lm, hk_RH i0 i1 b, al) k := by
  have hN := H.1
  obtain ⟨e1, e2, e3, _⟩ := H.2.2.2.2.2.2 h hh
  refine hk_mth hk_m201 rfl rfl (n := 1000) ?_
  refine hk_ldi (i := 1666 + 3 * nI h + 2) (j := 1666 + 3 * h + 2) (by simp only [hk_lit, pk_mul, nI_add]) (by omega) (by decide) e3 ?_
  exact h1
theorem m_power {h : Nat} (hh : h < 4) (h1 : k (some (.int (nI (11 ^ h)))) (s, lm, hk_RH i0 i1 b, al)) : hk_Cl (d + 1) 202 [.ref 40, .int (nI h)] (s, lm, hk_RH i0 i1 b, al) k := by
  match h, hh, h1 with
  | 0, _, h1 =>
    refine hk_mth hk_m202 rfl rfl (n := 1000) ?_
    refine And.intro (fun hc => absurd hc (by decide)) (fun _ => ?_)
    exact h1
  | 1, _, h1 =>
    refine hk_mth hk_m202 rfl rfl (n := 1000) ?_
    refine And.intro (fun _ => ?_) (fun hc => absurd (by decide) hc)
    refine And.intro (fun hc => absurd hc (by decide)) (fun _ => ?_)
    exact h1
  | 2, _, h1 =>
    refine hk_mth hk_m202 rfl rfl (n := 1000) ?_
    refine And.intro (fun _ => ?_) (fun hc => absurd (by decide) hc)
    refine And.intro (fun _ => ?_) (fun hc => absurd (by decide) hc)
    refine And.intro (fun hc => absurd hc (by decide)) (fun _ => ?_)
    exact h1
  | 3, _, h1 =>
    refine hk_mth hk_m202 rfl rfl (n := 1000) ?_
    refine And.intro (fun _ => ?_) (fun hc => absurd (by decide) hc)
    refine And.intro (fun _ => ?_) (fun hc => absurd (by decide) hc)
    refine And.intro (fun _ => ?_) (fun hc => absurd (by decide) hc)
    exact h1
end HKD1
