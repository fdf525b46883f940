/-! ===== the plan with no ship told ===== -/
section HKL1
variable {d t c n : Nat} {r v w x y z : Int32} {s : Nat → Nat → Int32} {lm : Nat → Nat → Int64} {i0 i1 b : Nat} {al : List Nat} {k : Option Value → hk_H → Prop} {hp : hk_H}
theorem c_rangeCheck {N a e : Nat} (h1 : a ≤ e) (h2 : e ≤ N) (hN : N < 2 ^ 31) (h3 : k none (s, lm, hk_RH i0 i1 b, al)) : hk_Cl (d + 1) 86 [.int (nI N), .int (nI a), .int (nI e)] (s, lm, hk_RH i0 i1 b, al) k := by
  have b1 : nI a ≤ nI e := nI_le h1 (by omega)
  have b2 : (0 : Int32) ≤ nI a := nI_pos' (by omega)
  have b3 : nI e ≤ nI N := nI_le h2 (by omega)
  refine hk_mth hk_m86 rfl rfl (n := 1000) ?_
  refine And.intro (fun _ => ?_) (fun hc => absurd b1 hc)
  refine And.intro (fun _ => ?_) (fun hc => absurd b2 hc)
  refine And.intro (fun _ => ?_) (fun hc => absurd b3 hc)
  exact h3
theorem c_fill95 {m : Nat} (hm : m ≤ 100000) (h1 : ∀ s2, (∀ p q, ¬ (p = 95 ∧ q < m) → s2 p q = s p q) → (∀ q, q < m → s2 95 q = v) → k none (s2, lm, hk_RH i0 i1 b, al)) : hk_Cl (d + 2) 85 [.ref 95, .int 0, .int (nI m), .int v] (s, lm, hk_RH i0 i1 b, al) k := by
  have loop : ∀ (g i : Nat) (s3 : Nat → Nat → Int32), i + g = m → (∀ p q, ¬ (p = 95 ∧ q < m) → s3 p q = s p q) → (∀ q, q < i → s3 95 q = v) → hk_Rn (d + 1) none hk_c85 (hk_sfx 10 hk_c85) [some (.ref 95), some (.int 0), some (.int (nI m)), some (.int v), some (.int (nI i))] [] (s3, lm, hk_RH i0 i1 b, al) k := by
    intro g
    induction g with
    | zero =>
      intro i s3 hi h2 h3
      have e : i = m := by omega
      subst e
      refine hk_hd (n := 1000) (t := 10) rfl ?_
      refine And.intro (fun _ => ?_) (fun hc => absurd (Int32.le_refl _) hc)
      exact h1 s3 h2 h3
    | succ g ih =>
      intro i s3 hi h2 h3
      have b1 : ¬ nI m ≤ nI i := hk_nlt (by omega) (by omega)
      refine hk_hd (n := 1000) (t := 10) rfl ?_
      refine And.intro (fun hc => absurd hc b1) (fun _ => ?_)
      refine hk_stn (i := nI i) (j := i) (by simp only [hk_lit, pk_mul, nI_add]) (by omega) (by decide) (fun s4 (hs4 : s4 = hk_u2 s3 95 (i) v) => ?_)
      refine hk_Rn_cast (by rw [← nI_1]; rfl) (ih (i + 1) s4 (by omega) (fun p q hp => ?_) (fun q hq => ?_))
      · rw [hs4, hk_u2o (by omega)]
        exact h2 p q hp
      · rw [hs4]
        by_cases e : q = i
        · subst e; rw [hk_u2s]
        · rw [hk_u2o (by omega)]; exact h3 q (by omega)
  refine hk_mth hk_m85 rfl rfl (n := 1000) ?_
  refine c_rangeCheck (N := 100000) (a := 0) (by omega) hm (by decide) ?_
  exact loop m 0 s (by omega) (fun _ _ _ => rfl) (fun q hq => absurd hq (Nat.not_lt_zero q))
/-- the planner's rows with no ship told -/
def hk_plF (s : Nat → Nat → Int32) : Prop := s 29 7 = 1 ∧ s 12 3 = 0 ∧ (∀ i, i < 4 → s 30 i = 0 ∧ s 31 i = 1) ∧ s 32 0 = 0 ∧ s 33 0 = 0 ∧ s 1 15 = 1 ∧ s 1 16 = 100
theorem hk_plF_u {s2 : Nat → Nat → Int32} (h : hk_plF s) (h2 : ∀ p q, p ≠ 95 → p ≠ 34 → s2 p q = s p q) : hk_plF s2 := by
  obtain ⟨a1, a2, a3, a4, a5, a6, a7⟩ := h
  exact ⟨by rw [h2 _ _ (by omega) (by omega)]; exact a1, by rw [h2 _ _ (by omega) (by omega)]; exact a2, fun i hi => ⟨by rw [h2 _ _ (by omega) (by omega)]; exact (a3 i hi).1, by rw [h2 _ _ (by omega) (by omega)]; exact (a3 i hi).2⟩, by rw [h2 _ _ (by omega) (by omega)]; exact a4, by rw [h2 _ _ (by omega) (by omega)]; exact a5, by rw [h2 _ _ (by omega) (by omega)]; exact a6, by rw [h2 _ _ (by omega) (by omega)]; exact a7⟩
theorem c_times0 (h : hk_plF s) {i : Nat} (hi : i < 4) (h1 : k (some (.int 0)) (s, lm, hk_RH i0 i1 b, al)) : hk_Cl (d + 1) 91 [.ref 29, .int (nI i), .int 0] (s, lm, hk_RH i0 i1 b, al) k := by
  obtain ⟨e0, e1⟩ := h.2.2.1 i hi
  refine hk_mth hk_m91 rfl rfl (n := 1000) ?_
  refine hk_ldi (i := nI i) (j := i) (by simp only [hk_lit, pk_mul, nI_add]) (by omega) (by decide) e1 ?_
  refine And.intro (fun hc => absurd hc (by decide)) (fun _ => ?_)
  refine hk_ldi (i := nI i) (j := i) (by simp only [hk_lit, pk_mul, nI_add]) (by omega) (by decide) e0 ?_
  refine And.intro (fun _ => ?_) (fun hc => absurd (by decide) hc)
  refine hk_ldi (i := nI i) (j := i) (by simp only [hk_lit, pk_mul, nI_add]) (by omega) (by decide) e1 ?_
  refine And.intro (by decide) ?_
  refine hk_ldi (i := nI i) (j := i) (by simp only [hk_lit, pk_mul, nI_add]) (by omega) (by decide) e0 ?_
  refine And.intro (by decide) ?_
  exact h1
theorem c_geth {i : Nat} {c : Int32} (h : s 12 3 = 0) (hi : i < 4) (h1 : k (some (.int 0)) (s, lm, hk_RH i0 i1 b, al)) : hk_Cl (d + 1) 16 [.ref 12, .int (nI i), .int c] (s, lm, hk_RH i0 i1 b, al) k :=
  c_get_out (by simp [hk_tb]) (Or.inr (by rw [h]; exact nI_pos' (by omega))) h1
theorem c_floats0 (h : hk_plF s) {i : Nat} (hi : i < 4) (h1 : k (some (.int 0)) (s, lm, hk_RH i0 i1 b, al)) : hk_Cl (d + 2) 90 [.ref 29, .int (nI i), .int 0] (s, lm, hk_RH i0 i1 b, al) k := by
  refine hk_mth hk_m90 rfl rfl (n := 1000) ?_
  refine c_geth h.2.1 hi ?_
  refine c_times0 h hi ?_
  refine c_geth h.2.1 hi ?_
  exact h1
theorem c_dockable0 (h : hk_plF s) (h1 : k (some (.int 0)) (s, lm, hk_RH i0 i1 b, al)) : hk_Cl (d + 2) 93 [.ref 29, .int v, .int 0] (s, lm, hk_RH i0 i1 b, al) k := by
  have loop : ∀ (g i : Nat), i + g = 4 → hk_Rn (d + 1) none hk_c93 (hk_sfx 5 hk_c93) [some (.ref 29), some (.int v), some (.int 0), some (.int 0), some (.int (nI i))] [] (s, lm, hk_RH i0 i1 b, al) k := by
    intro g
    induction g with
    | zero =>
      intro i hi
      have e : i = 4 := by omega
      subst e
      refine hk_hd (n := 1000) (t := 5) rfl ?_
      refine And.intro (fun _ => ?_) (fun hc => absurd (show (4 : Int32) ≤ nI 4 by decide) hc)
      exact h1
    | succ g ih =>
      intro i hi
      have b1 : ¬ nI 4 ≤ nI i := hk_nlt (by omega) (by omega)
      refine hk_hd (n := 1000) (t := 5) rfl ?_
      refine And.intro (fun hc => absurd hc b1) (fun _ => ?_)
      refine c_times0 h (by omega) ?_
      refine hk_ldi (i := nI i) (j := i) (by simp only [hk_lit, pk_mul, nI_add]) (by omega) (by decide) (h.2.2.1 i (by omega)).1 ?_
      refine And.intro (fun _ => ?_) (fun hc => absurd (by decide) hc)
      exact hk_Rn_cast (by rw [← nI_1]; rfl) (ih (i + 1) (by omega))
  refine hk_mth hk_m93 rfl rfl (n := 1000) ?_
  exact loop 4 0 (by omega)
theorem c_coinLeft0 (h : hk_plF s) {u : Nat} (hu : u < 20) (h1 : k (some (.int (nI (100 * (u + 1))))) (s, lm, hk_RH i0 i1 b, al)) : hk_Cl (d + 2) 94 [.ref 29, .int (nI u), .int 0] (s, lm, hk_RH i0 i1 b, al) k := by
  have loop : ∀ (g i : Nat), i + g = 4 → hk_Rn (d + 1) none hk_c94 (hk_sfx 15 hk_c94) [some (.ref 29), some (.int (nI u)), some (.int 0), some (.int (nI (100 * (u + 1)))), some (.int (nI i))] [] (s, lm, hk_RH i0 i1 b, al) k := by
    intro g
    induction g with
    | zero =>
      intro i hi
      have e : i = 4 := by omega
      subst e
      refine hk_hd (n := 1000) (t := 15) rfl ?_
      refine And.intro (fun _ => ?_) (fun hc => absurd (show (4 : Int32) ≤ nI 4 by decide) hc)
      exact h1
    | succ g ih =>
      intro i hi
      have b1 : ¬ nI 4 ≤ nI i := hk_nlt (by omega) (by omega)
      have e1 : nI (100 * (u + 1)) - 0 * 0 = nI (100 * (u + 1)) := pk_sub (a := 100 * (u + 1)) (b := 0) (by omega)
      refine hk_hd (n := 1000) (t := 15) rfl ?_
      refine And.intro (fun hc => absurd hc b1) (fun _ => ?_)
      refine c_times0 h (by omega) ?_
      refine c_geth h.2.1 (by omega) ?_
      refine hk_Rn_cast (L2 := [some (.ref 29), some (.int (nI u)), some (.int 0), some (.int (nI (100 * (u + 1)))), some (.int (nI (i + 1)))]) ?_ (ih (i + 1) (by omega))
      show [some (Value.ref 29), some (.int (nI u)), some (.int 0), some (.int (nI (100 * (u + 1)) - 0 * 0)), some (.int (nI i + 1))] = _
      rw [e1, nI_1]
  refine hk_mth hk_m94 rfl rfl (n := 1000) ?_
  refine hk_Rn_cast (L2 := [some (.ref 29), some (.int (nI u)), some (.int 0), some (.int (nI (100 * (u + 1)))), some (.int (nI 0))]) ?_ (loop 4 0 (by omega))
  show [some (Value.ref 29), some (.int (nI u)), some (.int 0), some (.int (s 1 16 * (nI u + 1))), some (.int 0)] = _
  rw [h.2.2.2.2.2.2, nI_1]
  rw [show (100 : Int32) * nI (u + 1) = nI (100 * (u + 1)) from pk_mul 100 (u + 1)]
  rfl
theorem c_bit0 (h1 : k (some (.int 0)) hp) : hk_Cl (d + 1) 96 [.int 0] hp k := by
  refine hk_mth hk_m96 rfl rfl (n := 1000) ?_
  exact h1
theorem c_may0 (h : hk_plF s) {m : Nat} (hm : m < 2 ^ 30) {j : Nat} (hj : j < 16) (h1 : j = 0 → k (some (.int 1)) (s, lm, hk_RH i0 i1 b, al)) (h0 : j ≠ 0 → k (some (.int 0)) (s, lm, hk_RH i0 i1 b, al)) : hk_Cl (d + 2) 95 [.ref 29, .int (nI j), .int 0, .int (nI m)] (s, lm, hk_RH i0 i1 b, al) k := by
  by_cases e : j = 0
  · subst e
    have b2 : ¬ nI m < 0 := nI_pos (by omega)
    refine hk_mth hk_m95 rfl rfl (n := 1000) ?_
    refine And.intro (fun hc => absurd hc (show ¬ ¬ nI 0 &&& (0 ^^^ -1) = 0 by decide)) (fun _ => ?_)
    refine c_bit0 ?_
    refine And.intro (fun hc => absurd hc (show ¬ s 1 15 < 0 by rw [h.2.2.2.2.2.1]; decide)) (fun _ => ?_)
    refine hk_ldi (i := nI 0) (j := 0) (by simp only [hk_lit, pk_mul, nI_add]) (by omega) (by decide) h.2.2.2.2.1 ?_
    refine And.intro (fun hc => absurd hc b2) (fun _ => ?_)
    exact And.intro (Or.inr rfl) (h1 rfl)
  · have b1 : ¬ nI j &&& (0 ^^^ -1) = 0 := by
      rw [hk_allb]
      exact nI_ne0 (by omega) (by omega)
    refine hk_mth hk_m95 rfl rfl (n := 1000) ?_
    refine And.intro (fun _ => ?_) (fun hc => absurd b1 hc)
    exact And.intro (Or.inl rfl) (h0 e)
theorem c_worthP0 (h : hk_plF s) (h1 : k (some (.int 0)) (s, lm, hk_RH i0 i1 b, al)) : hk_Cl (d + 3) 89 [.ref 29, .int 0] (s, lm, hk_RH i0 i1 b, al) k := by
  have loop : ∀ (g i : Nat), i + g = 4 → hk_Rn (d + 2) none hk_c89 (hk_sfx 4 hk_c89) [some (.ref 29), some (.int 0), some (.int 0), some (.int (nI i))] [] (s, lm, hk_RH i0 i1 b, al) k := by
    intro g
    induction g with
    | zero =>
      intro i hi
      have e : i = 4 := by omega
      subst e
      refine hk_hd (n := 1000) (t := 4) rfl ?_
      refine And.intro (fun _ => ?_) (fun hc => absurd (show (4 : Int32) ≤ nI 4 by decide) hc)
      exact h1
    | succ g ih =>
      intro i hi
      have b1 : ¬ nI 4 ≤ nI i := hk_nlt (by omega) (by omega)
      refine hk_hd (n := 1000) (t := 4) rfl ?_
      refine And.intro (fun hc => absurd hc b1) (fun _ => ?_)
      refine c_floats0 h (by omega) ?_
      refine c_times0 h (by omega) ?_
      refine hk_Rn_cast (L2 := [some (.ref 29), some (.int 0), some (.int 0), some (.int (nI (i + 1)))]) ?_ (ih (i + 1) (by omega))
      show [some (Value.ref 29), some (.int 0), some (.int (0 + (1000 * (if (0 : Int32) < 10 then 0 else 10) - 0))), some (.int (nI i + 1))] = _
      rw [nI_1, show (0 + (1000 * (if (0 : Int32) < 10 then 0 else 10) - 0) : Int32) = 0 by decide]
  refine hk_mth hk_m89 rfl rfl (n := 1000) ?_
  exact loop 4 0 (by omega)
def hk_pjF (s : Nat → Nat → Int32) : Prop := hk_plF s ∧ ∀ q, q < 10 → s 95 q = -1 ∨ s 95 q = 0
theorem c_worked0 {u : Nat} (hu : u < 10) (h : hk_pjF s) (hB : ∀ (s : Nat → Nat → Int32) (k : Option Value → hk_H → Prop), hk_pjF s → (∀ s2, hk_pjF s2 → (∀ p q, p ≠ 95 → s2 p q = s p q) → k (some (.int 0)) (s2, lm, hk_RH i0 i1 95, al)) → hk_Cl (d + 2) 88 [.ref 29, .int (nI (u + 1)), .int 0] (s, lm, hk_RH i0 i1 95, al) k) (h1 : ∀ s2, hk_pjF s2 → (∀ p q, p ≠ 95 → s2 p q = s p q) → k (some (.int 0)) (s2, lm, hk_RH i0 i1 95, al)) : hk_Cl (d + 3) 92 [.ref 29, .int (nI u), .int 0] (s, lm, hk_RH i0 i1 95, al) k := by
  have loop : ∀ (g j : Nat) (s3 : Nat → Nat → Int32), j + g = 16 → hk_pjF s3 → (∀ p q, p ≠ 95 → s3 p q = s p q) → hk_Rn (d + 2) none hk_c92 (hk_sfx 21 hk_c92) [some (.ref 29), some (.int (nI u)), some (.int 0), some (.int 0), some (.int (nI (100 * (u + 1)))), some (.int 0), some (.int (nI j))] [] (s3, lm, hk_RH i0 i1 95, al) k := by
    intro g
    induction g with
    | zero =>
      intro j s3 hj h3 h4
      have e : j = 16 := by omega
      subst e
      refine hk_hd (n := 1000) (t := 21) rfl ?_
      refine And.intro (fun _ => ?_) (fun hc => absurd (show (16 : Int32) ≤ nI 16 by decide) hc)
      exact h1 s3 h3 h4
    | succ g ih =>
      intro j s3 hj h3 h4
      have b1 : ¬ nI 16 ≤ nI j := hk_nlt (by omega) (by omega)
      refine hk_hd (n := 1000) (t := 21) rfl ?_
      refine And.intro (fun hc => absurd hc b1) (fun _ => ?_)
      refine c_may0 h3.1 (by omega) (by omega) (fun ej => ?_) (fun ej => ?_)
      · subst ej
        refine And.intro (fun hc => absurd hc (by decide)) (fun _ => ?_)
        refine hk_ldi (i := nI 0) (j := 0) (by simp only [hk_lit, pk_mul, nI_add]) (by omega) (by decide) h3.1.2.2.2.1 ?_
        refine hk_Cl_arg (a2 := [.ref 29, .int (nI (u + 1)), .int 0]) ?_ (hB s3 _ h3 (fun s4 h5 h6 => ?_))
        · show [Value.ref 29, .int (nI u + 1), .int (0 + 0)] = _
          rw [nI_1]
          rfl
        exact ih (0 + 1) s4 (by omega) h5 (fun p q hp => (h6 p q hp).trans (h4 p q hp))
      · refine And.intro (fun _ => ?_) (fun hc => absurd (by decide) hc)
        exact hk_Rn_cast (by rw [← nI_1]; rfl) (ih (j + 1) s3 (by omega) h3 h4)
  refine hk_mth hk_m92 rfl rfl (n := 1000) ?_
  refine c_dockable0 h.1 ?_
  refine c_coinLeft0 h.1 (by omega) ?_
  exact loop 16 0 s (by omega) h (fun _ _ _ => rfl)
theorem c_best0 : ∀ (g u : Nat), u + g = 10 → ∀ (s : Nat → Nat → Int32) (k : Option Value → hk_H → Prop), hk_pjF s → (∀ s2, hk_pjF s2 → (∀ p q, p ≠ 95 → s2 p q = s p q) → k (some (.int 0)) (s2, lm, hk_RH i0 i1 95, al)) → hk_Cl (d + 2 * g + 4) 88 [.ref 29, .int (nI u), .int 0] (s, lm, hk_RH i0 i1 95, al) k := by
  intro g
  induction g with
  | zero =>
    intro u hu s k h h1
    have e : u = 10 := by omega
    subst e
    refine hk_mth hk_m88 rfl rfl (n := 1000) ?_
    refine And.intro (fun hc => absurd hc (show ¬ nI 10 < 10 by decide)) (fun _ => ?_)
    exact c_worthP0 h.1 (h1 s h (fun _ _ _ => rfl))
  | succ g ih =>
    intro u hu s k h h1
    have b0 : nI u < 10 := nI_lt (b := 10) (by omega) (by omega)
    have e : nI u * s 29 7 + 0 = nI u := by
      rw [h.1.1]
      rw [show nI u * 1 = nI (u * 1) from pk_mul u 1, show nI (u * 1) + 0 = nI (u * 1 + 0) from nI_add _ 0]
      rw [Nat.mul_one, Nat.add_zero]
    have b1 : ¬ nI u * s 29 7 + 0 < 0 := by rw [e]; exact nI_pos (by omega)
    have b2 : nI u * s 29 7 + 0 < Int32.ofNat 100000 := by rw [e]; exact nI_lt (b := 100000) (by omega) (by omega)
    have fin : ∀ s4, hk_pjF s4 → s4 95 u = 0 → (∀ p q, p ≠ 95 → s4 p q = s p q) → k (some (.int (s4 95 u))) (s4, lm, hk_RH i0 i1 95, al) := fun s4 h4 h5 h6 => by
      rw [h5]
      exact h1 s4 h4 h6
    refine hk_mth hk_m88 rfl rfl (n := 1000) ?_
    refine And.intro (fun _ => ?_) (fun hc => absurd b0 hc)
    refine And.intro (fun hc => absurd hc b1) (fun _ => ?_)
    refine And.intro (fun _ => ?_) (fun hc => absurd b2 hc)
    refine hk_ldi (i := nI u * s 29 7 + 0) (j := u) e (by omega) (by decide) rfl ?_
    refine And.intro (fun c1 => ?_) (fun c1 => ?_)
    · have c1 : ¬ s 95 u = -1 := c1
      have e0 : s 95 u = 0 := (h.2 u (by omega)).elim (fun q => absurd q c1) id
      refine hk_ldi (i := nI u * s 29 7 + 0) (j := u) e (by omega) (by decide) rfl ?_
      exact fin s h e0 (fun _ _ _ => rfl)
    · refine c_worked0 (d := d + 2 * g + 2) (by omega) h (fun s k hs hk => ih (u + 1) (by omega) s k hs hk) (fun s2 h2 h3 => ?_)
      refine hk_sti (i := nI u * s 29 7 + 0) (j := u) e (by omega) (by decide) ?_
      refine hk_ldi (i := nI u * s 29 7 + 0) (j := u) e (by omega) (by decide) rfl ?_
      refine fin (hk_u2 s2 95 u 0) ⟨hk_plF_u h2.1 (fun p q a1 _ => by rw [hk_u2o (by omega)]), fun q hq => ?_⟩ hk_u2s (fun p q hp => ?_)
      · by_cases e2 : q = u
        · subst e2; rw [hk_u2s]; exact Or.inr rfl
        · rw [hk_u2o (by omega)]; exact h2.2 q hq
      · rw [hk_u2o (by omega)]; exact h3 p q hp
theorem c_least0 {u : Nat} (hu : u < 10) (h : hk_pjF s) (h1 : ∀ s2, hk_pjF s2 → (∀ p q, p ≠ 95 → s2 p q = s p q) → k (some (.int 0)) (s2, lm, hk_RH i0 i1 95, al)) : hk_Cl (d + 26) 87 [.ref 29, .int (nI u), .int 0] (s, lm, hk_RH i0 i1 95, al) k := by
  refine hk_mth hk_m87 rfl rfl (n := 1000) ?_
  refine hk_Cl_deep (d := d + 2 * (10 - u) + 4) (by omega) ?_
  refine c_best0 (10 - u) u (by omega) s _ h (fun s2 h2 h3 => ?_)
  refine c_dockable0 h2.1 ?_
  refine c_coinLeft0 h2.1 (by omega) ?_
  refine hk_hd (n := 1000) (t := 26) rfl ?_
  refine And.intro (fun hc => absurd hc (by decide)) (fun _ => ?_)
  refine c_may0 h2.1 (by omega) (j := 0) (by omega) (fun _ => ?_) (fun e => absurd rfl e)
  refine And.intro (fun hc => absurd hc (by decide)) (fun _ => ?_)
  refine hk_ldi (i := nI 0) (j := 0) (by simp only [hk_lit, pk_mul, nI_add]) (by omega) (by decide) h2.1.2.2.2.1 ?_
  refine hk_Cl_arg (a2 := [.ref 29, .int (nI (u + 1)), .int 0]) ?_ ?_
  · show [Value.ref 29, .int (nI u + 1), .int (0 + 0)] = _
    rw [nI_1]
    rfl
  refine hk_Cl_deep (d := d + 2 * (9 - u) + 4) (by omega) ?_
  refine c_best0 (9 - u) (u + 1) (by omega) s2 _ h2 (fun s3 h4 h5 => ?_)
  refine And.intro (fun hc => absurd hc (by decide)) (fun _ => ?_)
  exact h1 s3 h4 (fun p q hp => (h5 p q hp).trans (h3 p q hp))
theorem c_layOut0 (h12 : s 12 3 = 0) (hd : s 1 15 = 1) (hc : s 1 16 = 100) (h1 : ∀ s2, hk_plF s2 → (∀ p q, p < 29 ∨ 33 < p → s2 p q = s p q) → (∀ q, q ≠ 7 → s2 29 q = s 29 q) → k none (s2, lm, hk_RH i0 i1 b, al)) : hk_Cl (d + 2) 83 [.ref 29] (s, lm, hk_RH i0 i1 b, al) k := by
  have l98 : ∀ (g i j : Nat) (s3 : Nat → Nat → Int32) (kk : (Nat → Nat → Int32) → Prop), i + g = 4 → j < 16 → s3 12 3 = 0 → (∀ s4, (∀ p q, p ≠ 32 → p ≠ 33 → s4 p q = s3 p q) → (s3 32 0 = 0 → s3 33 0 = 0 → s4 32 0 = 0 ∧ s4 33 0 = 0) → hk_Rn (d + 1) none hk_c83 (hk_sfx 76 hk_c83) [some (.ref 29), some (.int (nI (j + 1))), some (.int 4)] [] (s4, lm, hk_RH i0 i1 b, al) k) → hk_Rn (d + 1) none hk_c83 (hk_sfx 98 hk_c83) [some (.ref 29), some (.int (nI j)), some (.int (nI i))] [] (s3, lm, hk_RH i0 i1 b, al) k := by
    intro g
    induction g with
    | zero =>
      intro i j s3 kk hi hj h3 hk
      have e : i = 4 := by omega
      subst e
      refine hk_hd (n := 1000) (t := 98) rfl ?_
      refine And.intro (fun _ => ?_) (fun hc => absurd (show (4 : Int32) ≤ nI 4 by decide) hc)
      exact hk_Rn_cast (by rw [← nI_1 j]; rfl) (hk s3 (fun _ _ _ _ => rfl) (fun a b => ⟨a, b⟩))
    | succ g ih =>
      intro i j s3 kk hi hj h3 hk
      have b1 : ¬ nI 4 ≤ nI i := hk_nlt (by omega) (by omega)
      refine hk_hd (n := 1000) (t := 98) rfl ?_
      refine And.intro (fun hc => absurd hc b1) (fun _ => ?_)
      refine And.intro (fun c1 => ?_) (fun c1 => ?_)
      · exact hk_Rn_cast (by rw [← nI_1]; rfl) (ih (i + 1) j s3 kk (by omega) hj h3 hk)
      · have c1 : ¬ ¬ nI j >>> (nI i &&& 31) &&& 1 = 1 := c1
        have j0 : j ≠ 0 := fun e => by
          subst e
          refine c1 ?_
          match i, (show i < 4 by omega) with
          | 0, _ => decide
          | 1, _ => decide
          | 2, _ => decide
          | 3, _ => decide
        refine hk_ldi (i := nI j) (j := j) (by simp only [hk_lit, pk_mul, nI_add]) (by omega) (by decide) rfl ?_
        refine hk_ldi (i := nI i) (j := i) (by simp only [hk_lit, pk_mul, nI_add]) (by omega) (by decide) rfl ?_
        refine hk_stn (i := nI j) (j := j) (by simp only [hk_lit, pk_mul, nI_add]) (by omega) (by decide) (fun s4 (hs4 : s4 = hk_u2 s3 32 (j) (s3 32 j + s3 31 i)) => ?_)
        refine hk_ldi (i := nI j) (j := j) (by simp only [hk_lit, pk_mul, nI_add]) (by omega) (by decide) rfl ?_
        have e12 : s4 12 3 = 0 := by rw [hs4, hk_u2o (by omega)]; exact h3
        refine c_geth e12 (by omega) ?_
        refine hk_stn (i := nI j) (j := j) (by simp only [hk_lit, pk_mul, nI_add]) (by omega) (by decide) (fun s5 (hs5 : s5 = hk_u2 s4 33 (j) (s4 33 j + 0)) => ?_)
        refine hk_Rn_cast (by rw [← nI_1]; rfl) (ih (i + 1) j s5 kk (by omega) hj (by rw [hs5, hk_u2o (by omega), hs4, hk_u2o (by omega)]; exact h3) (fun s6 h6 h7 => hk s6 (fun p q a1 a2 => ?_) (fun a1 a2 => h7 ?_ ?_)))
        · rw [h6 p q a1 a2, hs5, hk_u2o (by omega), hs4, hk_u2o (by omega)]
        · rw [hs5, hk_u2o (by omega), hs4, hk_u2o (by omega)]; exact a1
        · rw [hs5, hk_u2o (by omega), hs4, hk_u2o (by omega)]; exact a2
  have l76 : ∀ (g j : Nat) (s3 : Nat → Nat → Int32) (l2 : Option Value), j + g = 16 → s3 12 3 = 0 → (0 < j → s3 32 0 = 0 ∧ s3 33 0 = 0) → (∀ s4, (∀ p q, p ≠ 32 → p ≠ 33 → s4 p q = s3 p q) → s4 32 0 = 0 → s4 33 0 = 0 → k none (s4, lm, hk_RH i0 i1 b, al)) → hk_Rn (d + 1) none hk_c83 (hk_sfx 76 hk_c83) [some (.ref 29), some (.int (nI j)), l2] [] (s3, lm, hk_RH i0 i1 b, al) k := by
    intro g
    induction g with
    | zero =>
      intro j s3 l2 hj h3 h4 hk
      have e : j = 16 := by omega
      subst e
      refine hk_hd (n := 1000) (t := 76) rfl ?_
      refine And.intro (fun _ => ?_) (fun hc => absurd (show (16 : Int32) ≤ nI 16 by decide) hc)
      exact hk s3 (fun _ _ _ _ => rfl) (h4 (by omega)).1 (h4 (by omega)).2
    | succ g ih =>
      intro j s3 l2 hj h3 h4 hk
      have b1 : ¬ nI 16 ≤ nI j := hk_nlt (by omega) (by omega)
      refine hk_hd (n := 1000) (t := 76) rfl ?_
      refine And.intro (fun hc => absurd hc b1) (fun _ => ?_)
      refine hk_stn (i := nI j) (j := j) (by simp only [hk_lit, pk_mul, nI_add]) (by omega) (by decide) (fun s4 (hs4 : s4 = hk_u2 s3 32 (j) 0) => ?_)
      refine hk_stn (i := nI j) (j := j) (by simp only [hk_lit, pk_mul, nI_add]) (by omega) (by decide) (fun s5 (hs5 : s5 = hk_u2 s4 33 (j) 0) => ?_)
      have f0 : s5 32 0 = 0 := by
        rw [hs5, hk_u2o (by omega), hs4]
        by_cases e : j = 0
        · subst e; rw [hk_u2s]
        · rw [hk_u2o (by omega)]; exact (h4 (by omega)).1
      have f1 : s5 33 0 = 0 := by
        rw [hs5]
        by_cases e : j = 0
        · subst e; rw [hk_u2s]
        · rw [hk_u2o (by omega), hs4, hk_u2o (by omega)]; exact (h4 (by omega)).2
      refine l98 4 0 j s5 (fun _ => True) (by omega) (by omega) (by rw [hs5, hk_u2o (by omega), hs4, hk_u2o (by omega)]; exact h3) (fun s6 h6 h7 => ?_)
      have h8 := h7 f0 f1
      refine ih (j + 1) s6 _ (by omega) (by rw [h6 _ _ (by omega) (by omega), hs5, hk_u2o (by omega), hs4, hk_u2o (by omega)]; exact h3) (fun _ => h8) (fun s7 h9 h10 h11 => hk s7 (fun p q a1 a2 => ?_) h10 h11)
      rw [h9 p q a1 a2, h6 p q a1 a2, hs5, hk_u2o (by omega), hs4, hk_u2o (by omega)]
  have l7 : ∀ (g i : Nat) (s3 : Nat → Nat → Int32), i + g = 4 → s3 29 7 = 1 → (∀ z, z < i → s3 30 z = 0 ∧ s3 31 z = 1) → (∀ p q, p < 29 ∨ 33 < p → s3 p q = s p q) → (∀ q, q ≠ 7 → s3 29 q = s 29 q) → hk_Rn (d + 1) none hk_c83 (hk_sfx 7 hk_c83) [some (.ref 29), some (.int (nI i)), none] [] (s3, lm, hk_RH i0 i1 b, al) k := by
    intro g
    induction g with
    | zero =>
      intro i s3 hi h7 h2 h3 h4
      have e : i = 4 := by omega
      subst e
      refine hk_hd (n := 1000) (t := 7) rfl ?_
      refine And.intro (fun _ => ?_) (fun hc => absurd (show (4 : Int32) ≤ nI 4 by decide) hc)
      refine l76 16 0 s3 _ (by omega) (by rw [h3 _ _ (by omega)]; exact h12) (fun q => absurd q (Nat.lt_irrefl 0)) (fun s4 h5 h6 h8 => h1 s4 ⟨?_, ?_, fun i hi => ⟨?_, ?_⟩, h6, h8, ?_, ?_⟩ (fun p q hp => ?_) (fun q hq => ?_))
      · rw [h5 _ _ (by omega) (by omega)]; exact h7
      · rw [h5 _ _ (by omega) (by omega), h3 _ _ (by omega)]; exact h12
      · rw [h5 _ _ (by omega) (by omega)]; exact (h2 i hi).1
      · rw [h5 _ _ (by omega) (by omega)]; exact (h2 i hi).2
      · rw [h5 _ _ (by omega) (by omega), h3 _ _ (by omega)]; exact hd
      · rw [h5 _ _ (by omega) (by omega), h3 _ _ (by omega)]; exact hc
      · rw [h5 _ _ (by omega) (by omega), h3 _ _ hp]
      · rw [h5 _ _ (by omega) (by omega), h4 _ hq]
    | succ g ih =>
      intro i s3 hi h7 h2 h3 h4
      have b1 : ¬ nI 4 ≤ nI i := hk_nlt (by omega) (by omega)
      have b2 : s3 12 3 ≤ nI i := by rw [h3 _ _ (by omega), h12]; exact nI_pos' (by omega)
      refine hk_hd (n := 1000) (t := 7) rfl ?_
      refine And.intro (fun hc => absurd hc b1) (fun _ => ?_)
      refine And.intro (fun _ => ?_) (fun hc => absurd b2 hc)
      refine hk_stn (i := nI i) (j := i) (by simp only [hk_lit, pk_mul, nI_add]) (by omega) (by decide) (fun s4 (hs4 : s4 = hk_u2 s3 30 (i) 0) => ?_)
      refine hk_stn (i := nI i) (j := i) (by simp only [hk_lit, pk_mul, nI_add]) (by omega) (by decide) (fun s5 (hs5 : s5 = hk_u2 s4 31 (i) (s4 29 7)) => ?_)
      have e7 : s5 29 7 = 1 := by rw [hs5, hk_u2o (by omega), hs4, hk_u2o (by omega)]; exact h7
      have e30 : s5 30 i = 0 := by rw [hs5, hk_u2o (by omega), hs4, hk_u2s]
      refine hk_ldi (i := nI i) (j := i) (by simp only [hk_lit, pk_mul, nI_add]) (by omega) (by decide) e30 ?_
      have e8 : s5 29 7 * (0 + 1) = 1 := by rw [e7]; decide
      refine hk_Rn_cast (by rw [← nI_1]; rfl) (ih (i + 1) (hk_u2 s5 29 7 (s5 29 7 * (0 + 1))) (by omega) ?_ (fun z hz => ?_) (fun p q hp => ?_) (fun q hq => ?_))
      · rw [hk_u2s]; exact e8
      · rw [hk_u2o (by omega), hk_u2o (by omega)]
        by_cases e : z = i
        · subst e
          refine ⟨e30, ?_⟩
          rw [hs5, hk_u2s, hs4, hk_u2o (by omega)]
          exact h7
        · rw [hs5, hk_u2o (by omega), hk_u2o (by omega), hs4, hk_u2o (by omega), hk_u2o (by omega)]
          exact h2 z (by omega)
      · rw [hk_u2o (by omega), hs5, hk_u2o (by omega), hs4, hk_u2o (by omega)]
        exact h3 p q hp
      · rw [hk_u2o (by omega), hs5, hk_u2o (by omega), hs4, hk_u2o (by omega)]
        exact h4 q hq
  refine hk_mth hk_m83 rfl rfl (n := 1000) ?_
  refine l7 4 0 (hk_u2 s 29 7 1) (by omega) hk_u2s (fun z hz => absurd hz (Nat.not_lt_zero z)) (fun p q hp => ?_) (fun q hq => ?_)
  · rw [hk_u2o (by omega)]
  · rw [hk_u2o (by omega)]
end HKL1
