/-! ===== the class ends on any contents: the plan ===== -/
def hk_F29 (s s2 : Nat → Nat → Int32) : Prop := ∀ p q, ¬ (29 ≤ p ∧ p ≤ 35) → p ≠ 95 → s2 p q = s p q
theorem hk_F29_TW {s s2 : Nat → Nat → Int32} (a : hk_F29 s s2) (h : hk_TW s) : hk_TW s2 := hk_TW_fr h (fun t q ht => a t q (by have := hk_tb35 ht; omega) (by have := hk_tb35 ht; omega))
theorem hk_F29_t {s s2 s3 : Nat → Nat → Int32} (a : hk_F29 s s2) (c : hk_F29 s2 s3) : hk_F29 s s3 := fun p q h1 h2 => (c p q h1 h2).trans (a p q h1 h2)
theorem hk_F29_r (s : Nat → Nat → Int32) : hk_F29 s s := fun _ _ _ _ => rfl
theorem hk_F29_u {s s2 : Nat → Nat → Int32} {p q : Nat} {v : Int32} (a : hk_F29 s s2) (hp : 29 ≤ p ∧ p ≤ 35 ∨ p = 95) : hk_F29 s (hk_u2 s2 p q v) := fun p' q' h1 h2 => by
  rw [hk_u2o (by omega)]
  exact a p' q' h1 h2
theorem hk_nI_s {a : Nat} (h : a < 2 ^ 31) : ¬ nI a + 1 = 0 := by
  rw [nI_1]
  intro e
  have h2 : (nI (a + 1)).toBitVec.toNat = (0 : Int32).toBitVec.toNat := by rw [e]
  rw [pk_tn (by omega)] at h2
  have h0 : (0 : Int32).toBitVec.toNat = 0 := by decide
  omega
section HKA5
variable {d n : Nat} {v w x z : Int32} {s : Nat → Nat → Int32} {lm : Nat → Nat → Int64} {i0 i1 b : Nat} {al : List Nat} {k : Option Value → hk_H → Prop}
theorem c_times {i : Nat} (hi : i < 4) (h1 : ∀ x, k (some (.int x)) (s, lm, hk_RH i0 i1 b, al)) : hk_Cl (d + 1) 91 [.ref 29, .int (nI i), .int v] (s, lm, hk_RH i0 i1 b, al) k := by
  refine hk_mth hk_m91 rfl rfl (n := 1000) ?_
  refine hk_ldi (i := nI i) (j := i) (by simp only [hk_lit, pk_mul, nI_add]) (by omega) (by decide) rfl ?_
  refine And.intro (fun c1 => ?_) (fun c1 => ?_)
  · exact h1 _
  refine hk_ldi (i := nI i) (j := i) (by simp only [hk_lit, pk_mul, nI_add]) (by omega) (by decide) rfl ?_
  refine And.intro (fun c2 => ?_) (fun c2 => ?_)
  · have c1 : ¬ s 31 i ≤ 0 := c1
    have c2 : (0 : Int32) ≤ s 30 i := c2
    obtain ⟨a, ha, e⟩ := nI_of (Int32.not_lt.mpr c2)
    refine hk_ldi (i := nI i) (j := i) rfl (by omega) (by decide) rfl ?_
    refine And.intro (fun h => c1 (by rw [show s 31 i = 0 from h]; decide)) ?_
    refine hk_ldi (i := nI i) (j := i) rfl (by omega) (by decide) e ?_
    refine And.intro (hk_nI_s ha) ?_
    exact h1 _
  · exact h1 _
theorem c_floatsT (hw : hk_TW s) {i : Nat} (hi : i < 4) (h1 : ∀ x, k (some (.int x)) (s, lm, hk_RH i0 i1 b, al)) : hk_Cl (d + 2) 90 [.ref 29, .int (nI i), .int v] (s, lm, hk_RH i0 i1 b, al) k := by
  refine hk_mth hk_m90 rfl rfl (n := 1000) ?_
  refine c_g12 hw (fun x => ?_)
  refine c_times hi (fun x => ?_)
  refine c_g12 hw (fun x => ?_)
  exact h1 _
theorem c_dockable (hw : hk_TW s) (h1 : ∀ x, k (some (.int x)) (s, lm, hk_RH i0 i1 b, al)) : hk_Cl (d + 3) 93 [.ref 29, .int v, .int w] (s, lm, hk_RH i0 i1 b, al) k := by
  have loop : ∀ (g i : Nat) (a : Int32), i + g = 4 → hk_Rn (d + 2) none hk_c93 (hk_sfx 5 hk_c93) [some (.ref 29), some (.int v), some (.int w), some (.int a), some (.int (nI i))] [] (s, lm, hk_RH i0 i1 b, al) k := by
    intro g
    induction g with
    | zero =>
      intro i a hi
      have e : i = 4 := by omega
      subst e
      refine hk_hd (n := 1000) (t := 5) rfl ?_
      refine And.intro (fun _ => ?_) (fun hc => absurd (show (4 : Int32) ≤ nI 4 by decide) hc)
      exact h1 _
    | succ g ih =>
      intro i a hi
      have b1 : ¬ nI 4 ≤ nI i := hk_nlt (by omega) (by omega)
      have nx : ∀ a, hk_Rn (d + 2) none hk_c93 (hk_sfx 5 hk_c93) [some (.ref 29), some (.int v), some (.int w), some (.int a), some (.int (nI i + 1))] [] (s, lm, hk_RH i0 i1 b, al) k := fun a => hk_Rn_cast (by rw [nI_1]) (ih (i + 1) a (by omega))
      refine hk_hd (n := 1000) (t := 5) rfl ?_
      refine And.intro (fun hc => absurd hc b1) (fun _ => ?_)
      refine c_times (by omega) (fun x => ?_)
      refine hk_ldi (i := nI i) (j := i) (by simp only [hk_lit, pk_mul, nI_add]) (by omega) (by decide) rfl ?_
      refine And.intro (fun c1 => ?_) (fun c1 => ?_)
      · exact nx _
      refine c_floatsT hw (by omega) (fun x => ?_)
      refine And.intro (fun c1 => ?_) (fun c1 => ?_)
      · exact nx _
      · exact nx _
  refine hk_mth hk_m93 rfl rfl (n := 1000) ?_
  exact loop 4 0 0 (by omega)
theorem c_coinLeft (hw : hk_TW s) (h1 : ∀ x, k (some (.int x)) (s, lm, hk_RH i0 i1 b, al)) : hk_Cl (d + 2) 94 [.ref 29, .int v, .int w] (s, lm, hk_RH i0 i1 b, al) k := by
  have loop : ∀ (g i : Nat) (a : Int32), i + g = 4 → hk_Rn (d + 1) none hk_c94 (hk_sfx 15 hk_c94) [some (.ref 29), some (.int v), some (.int w), some (.int a), some (.int (nI i))] [] (s, lm, hk_RH i0 i1 b, al) k := by
    intro g
    induction g with
    | zero =>
      intro i a hi
      have e : i = 4 := by omega
      subst e
      refine hk_hd (n := 1000) (t := 15) rfl ?_
      refine And.intro (fun _ => ?_) (fun hc => absurd (show (4 : Int32) ≤ nI 4 by decide) hc)
      exact h1 _
    | succ g ih =>
      intro i a hi
      have b1 : ¬ nI 4 ≤ nI i := hk_nlt (by omega) (by omega)
      refine hk_hd (n := 1000) (t := 15) rfl ?_
      refine And.intro (fun hc => absurd hc b1) (fun _ => ?_)
      refine c_times (by omega) (fun x => ?_)
      refine c_g12 hw (fun x => ?_)
      exact hk_Rn_cast (by rw [← nI_1]; rfl) (ih (i + 1) _ (by omega))
  refine hk_mth hk_m94 rfl rfl (n := 1000) ?_
  exact loop 4 0 _ (by omega)
theorem c_bitAny {hp : hk_H} (h1 : ∀ x, k (some (.int x)) hp) : hk_Cl (d + 1) 96 [.int v] hp k := by
  refine hk_mth hk_m96 rfl rfl (n := 1000) ?_
  exact h1 _
theorem c_mayDock {j : Nat} (hj : j < 16) (h1 : ∀ x, k (some (.int x)) (s, lm, hk_RH i0 i1 b, al)) : hk_Cl (d + 2) 95 [.ref 29, .int (nI j), .int v, .int w] (s, lm, hk_RH i0 i1 b, al) k := by
  refine hk_mth hk_m95 rfl rfl (n := 1000) ?_
  refine And.intro (fun c1 => ?_) (fun c1 => ?_)
  · exact And.intro (Or.inl rfl) (h1 _)
  refine c_bitAny (fun x => ?_)
  refine And.intro (fun c2 => ?_) (fun c2 => ?_)
  · exact And.intro (Or.inl rfl) (h1 _)
  refine hk_ldi (i := nI j) (j := j) (by simp only [hk_lit, pk_mul, nI_add]) (by omega) (by decide) rfl ?_
  refine And.intro (fun c3 => ?_) (fun c3 => ?_)
  · exact And.intro (Or.inl rfl) (h1 _)
  · exact And.intro (Or.inr rfl) (h1 _)
theorem c_worthP (hw : hk_TW s) (h1 : ∀ x, k (some (.int x)) (s, lm, hk_RH i0 i1 b, al)) : hk_Cl (d + 3) 89 [.ref 29, .int v] (s, lm, hk_RH i0 i1 b, al) k := by
  have loop : ∀ (g i : Nat) (a : Int32), i + g = 4 → hk_Rn (d + 2) none hk_c89 (hk_sfx 4 hk_c89) [some (.ref 29), some (.int v), some (.int a), some (.int (nI i))] [] (s, lm, hk_RH i0 i1 b, al) k := by
    intro g
    induction g with
    | zero =>
      intro i a hi
      have e : i = 4 := by omega
      subst e
      refine hk_hd (n := 1000) (t := 4) rfl ?_
      refine And.intro (fun _ => ?_) (fun hc => absurd (show (4 : Int32) ≤ nI 4 by decide) hc)
      exact h1 _
    | succ g ih =>
      intro i a hi
      have b1 : ¬ nI 4 ≤ nI i := hk_nlt (by omega) (by omega)
      refine hk_hd (n := 1000) (t := 4) rfl ?_
      refine And.intro (fun hc => absurd hc b1) (fun _ => ?_)
      refine c_floatsT hw (by omega) (fun x => ?_)
      refine c_times (by omega) (fun x => ?_)
      exact hk_Rn_cast (by rw [← nI_1]; rfl) (ih (i + 1) _ (by omega))
  refine hk_mth hk_m89 rfl rfl (n := 1000) ?_
  exact loop 4 0 0 (by omega)
theorem c_worked {u : Nat} (hu : u < 10) (hw : hk_TW s) (hB : ∀ (s : Nat → Nat → Int32) (v : Int32) (k : Option Value → hk_H → Prop), hk_TW s → (∀ s2 x, hk_F29 s s2 → k (some (.int x)) (s2, lm, hk_RH i0 i1 95, al)) → hk_Cl (d + 2) 88 [.ref 29, .int (nI (u + 1)), .int v] (s, lm, hk_RH i0 i1 95, al) k) (h1 : ∀ s2 x, hk_F29 s s2 → k (some (.int x)) (s2, lm, hk_RH i0 i1 95, al)) : hk_Cl (d + 4) 92 [.ref 29, .int (nI u), .int v] (s, lm, hk_RH i0 i1 95, al) k := by
  have loop : ∀ (g j : Nat) (s3 : Nat → Nat → Int32) (a e m : Int32), j + g = 16 → hk_F29 s s3 → hk_Rn (d + 3) none hk_c92 (hk_sfx 21 hk_c92) [some (.ref 29), some (.int (nI u)), some (.int v), some (.int a), some (.int e), some (.int m), some (.int (nI j))] [] (s3, lm, hk_RH i0 i1 95, al) k := by
    intro g
    induction g with
    | zero =>
      intro j s3 a e m hj h3
      have ej : j = 16 := by omega
      subst ej
      refine hk_hd (n := 1000) (t := 21) rfl ?_
      refine And.intro (fun _ => ?_) (fun hc => absurd (show (16 : Int32) ≤ nI 16 by decide) hc)
      exact h1 s3 _ h3
    | succ g ih =>
      intro j s3 a e m hj h3
      have b1 : ¬ nI 16 ≤ nI j := hk_nlt (by omega) (by omega)
      refine hk_hd (n := 1000) (t := 21) rfl ?_
      refine And.intro (fun hc => absurd hc b1) (fun _ => ?_)
      refine c_mayDock (by omega) (fun x => ?_)
      refine And.intro (fun c1 => ?_) (fun c1 => ?_)
      · exact hk_Rn_cast (by rw [← nI_1]; rfl) (ih (j + 1) s3 _ _ _ (by omega) h3)
      refine hk_ldi (i := nI j) (j := j) (by simp only [hk_lit, pk_mul, nI_add]) (by omega) (by decide) rfl ?_
      refine hk_Cl_arg (a2 := [.ref 29, .int (nI (u + 1)), .int (v + s3 32 j)]) (by rw [← nI_1]; rfl) ?_
      refine hk_Cl_deep (d := d + 2) (by omega) ?_
      refine hB s3 _ _ (hk_F29_TW h3 hw) (fun s4 y h4 => ?_)
      exact hk_Rn_cast (by rw [← nI_1]; rfl) (ih (j + 1) s4 _ _ _ (by omega) (hk_F29_t h3 h4))
  refine hk_mth hk_m92 rfl rfl (n := 1000) ?_
  refine c_dockable hw (fun x => ?_)
  refine c_coinLeft hw (fun y => ?_)
  exact loop 16 0 s _ _ _ (by omega) (hk_F29_r s)
theorem c_best : ∀ (g u : Nat), u + g = 10 → ∀ (s : Nat → Nat → Int32) (v : Int32) (k : Option Value → hk_H → Prop), hk_TW s → (∀ s2 x, hk_F29 s s2 → k (some (.int x)) (s2, lm, hk_RH i0 i1 95, al)) → hk_Cl (d + 3 * g + 5) 88 [.ref 29, .int (nI u), .int v] (s, lm, hk_RH i0 i1 95, al) k := by
  intro g
  induction g with
  | zero =>
    intro u hu s v k h h1
    have e : u = 10 := by omega
    subst e
    refine hk_mth hk_m88 rfl rfl (n := 1000) ?_
    refine And.intro (fun hc => absurd hc (show ¬ nI 10 < 10 by decide)) (fun _ => ?_)
    exact c_worthP h (fun x => h1 s x (hk_F29_r s))
  | succ g ih =>
    intro u hu s v k h h1
    have b0 : nI u < 10 := nI_lt (b := 10) (by omega) (by omega)
    have b9 : u < 10 := by omega
    refine hk_mth hk_m88 rfl rfl (n := 1000) ?_
    refine And.intro (fun _ => ?_) (fun hc => absurd b0 hc)
    refine And.intro (fun c1 => ?_) (fun c1 => ?_)
    · exact h1 s _ (hk_F29_r s)
    have c1 : ¬ nI u * s 29 7 + v < 0 := c1
    refine And.intro (fun c2 => ?_) (fun c2 => ?_)
    rotate_left
    · exact h1 s _ (hk_F29_r s)
    have c2 : nI u * s 29 7 + v < nI 100000 := c2
    obtain ⟨j, hj, e⟩ := nI_of c1
    rw [e, nI_ltI hj (by omega)] at c2
    refine hk_ldi (i := nI u * s 29 7 + v) (j := j) e c2 (by decide) rfl ?_
    refine And.intro (fun c3 => ?_) (fun c3 => ?_)
    · refine hk_ldi (i := nI u * s 29 7 + v) (j := j) e c2 (by decide) rfl ?_
      exact h1 s _ (hk_F29_r s)
    · refine c_worked (d := d + 3 * g + 3) b9 h (fun s v k hs hk => ih (u + 1) (by omega) s v k hs hk) (fun s2 x h2 => ?_)
      refine hk_sti (i := nI u * s 29 7 + v) (j := j) e c2 (by decide) ?_
      refine hk_ldi (i := nI u * s 29 7 + v) (j := j) e c2 (by decide) rfl ?_
      exact h1 (hk_u2 s2 95 j x) _ (hk_F29_u h2 (Or.inr rfl))
theorem c_least {u : Nat} (hu : u < 10) (hw : hk_TW s) (h1 : ∀ s2 j, j < 16 → hk_F29 s s2 → k (some (.int (nI j))) (s2, lm, hk_RH i0 i1 95, al)) : hk_Cl (d + 36) 87 [.ref 29, .int (nI u), .int v] (s, lm, hk_RH i0 i1 95, al) k := by
  have loop : ∀ (g j : Nat) (s3 : Nat → Nat → Int32) (m a e : Int32), j + g = 16 → hk_F29 s s3 → hk_Rn (d + 35) none hk_c87 (hk_sfx 26 hk_c87) [some (.ref 29), some (.int (nI u)), some (.int v), some (.int m), some (.int a), some (.int e), some (.int (nI j))] [] (s3, lm, hk_RH i0 i1 95, al) k := by
    intro g
    induction g with
    | zero =>
      intro j s3 m a e hj h3
      have ej : j = 16 := by omega
      subst ej
      refine hk_hd (n := 1000) (t := 26) rfl ?_
      refine And.intro (fun _ => ?_) (fun hc => absurd (show (16 : Int32) ≤ nI 16 by decide) hc)
      exact h1 s3 0 (by omega) h3
    | succ g ih =>
      intro j s3 m a e hj h3
      have b1 : ¬ nI 16 ≤ nI j := hk_nlt (by omega) (by omega)
      refine hk_hd (n := 1000) (t := 26) rfl ?_
      refine And.intro (fun hc => absurd hc b1) (fun _ => ?_)
      refine c_mayDock (by omega) (fun x => ?_)
      refine And.intro (fun c1 => ?_) (fun c1 => ?_)
      · exact hk_Rn_cast (by rw [← nI_1]; rfl) (ih (j + 1) s3 _ _ _ (by omega) h3)
      refine hk_ldi (i := nI j) (j := j) (by simp only [hk_lit, pk_mul, nI_add]) (by omega) (by decide) rfl ?_
      refine hk_Cl_arg (a2 := [.ref 29, .int (nI (u + 1)), .int (v + s3 32 j)]) (by rw [← nI_1]; rfl) ?_
      refine hk_Cl_deep (d := d + 3 * (9 - u) + 5) (by omega) ?_
      refine c_best (9 - u) (u + 1) (by omega) s3 _ _ (hk_F29_TW h3 hw) (fun s4 y h4 => ?_)
      refine And.intro (fun c2 => ?_) (fun c2 => ?_)
      · exact hk_Rn_cast (by rw [← nI_1]; rfl) (ih (j + 1) s4 _ _ _ (by omega) (hk_F29_t h3 h4))
      · exact h1 s4 j (by omega) (hk_F29_t h3 h4)
  refine hk_mth hk_m87 rfl rfl (n := 1000) ?_
  refine hk_Cl_deep (d := d + 3 * (10 - u) + 5) (by omega) ?_
  refine c_best (10 - u) u (by omega) s _ _ hw (fun s2 x h2 => ?_)
  refine c_dockable (hk_F29_TW h2 hw) (fun y => ?_)
  refine c_coinLeft (hk_F29_TW h2 hw) (fun y => ?_)
  exact loop 16 0 s2 _ _ _ (by omega) h2
theorem c_useful (hw : hk_TW s) (h1 : ∀ x, k (some (.int x)) (s, lm, hk_RH i0 i1 b, al)) : hk_Cl (d + 2) 84 [.ref 29, .int v] (s, lm, hk_RH i0 i1 b, al) k := by
  refine hk_mth hk_m84 rfl rfl (n := 1000) ?_
  refine c_g12 hw (fun x => ?_)
  refine c_g12 hw (fun y => ?_)
  refine And.intro (fun c1 => ?_) (fun c1 => ?_)
  · exact h1 _
  refine And.intro (fun c2 => ?_) (fun c2 => ?_)
  · exact h1 _
  refine And.intro (fun c3 => ?_) (fun c3 => ?_)
  · have c3 : (0 : Int32) < y := c3
    refine And.intro (fun h => absurd c3 (by rw [show y = 0 from h]; decide)) ?_
    exact h1 _
  · exact h1 _
theorem c_layOut (hw : hk_TW s) (h1 : ∀ s2, hk_F29 s s2 → (∀ q, q ≠ 7 → s2 29 q = s 29 q) → k none (s2, lm, hk_RH i0 i1 b, al)) : hk_Cl (d + 3) 83 [.ref 29] (s, lm, hk_RH i0 i1 b, al) k := by
  have l76 : ∀ (g j : Nat) (s3 : Nat → Nat → Int32) (l2 : Option Value), j + g = 16 → hk_F29 s s3 → (∀ q, q ≠ 7 → s3 29 q = s 29 q) → hk_Rn (d + 2) none hk_c83 (hk_sfx 76 hk_c83) [some (.ref 29), some (.int (nI j)), l2] [] (s3, lm, hk_RH i0 i1 b, al) k := by
    intro g
    induction g with
    | zero =>
      intro j s3 l2 hj h3 h4
      have e : j = 16 := by omega
      subst e
      refine hk_hd (n := 1000) (t := 76) rfl ?_
      refine And.intro (fun _ => ?_) (fun hc => absurd (show (16 : Int32) ≤ nI 16 by decide) hc)
      exact h1 s3 h3 h4
    | succ g ih =>
      intro j s3 l2 hj h3 h4
      have b1 : ¬ nI 16 ≤ nI j := hk_nlt (by omega) (by omega)
      have l98 : ∀ (g i : Nat) (s3 : Nat → Nat → Int32), i + g = 4 → hk_F29 s s3 → (∀ q, q ≠ 7 → s3 29 q = s 29 q) → hk_Rn (d + 2) none hk_c83 (hk_sfx 98 hk_c83) [some (.ref 29), some (.int (nI j)), some (.int (nI i))] [] (s3, lm, hk_RH i0 i1 b, al) k := by
        intro g
        induction g with
        | zero =>
          intro i s3 hi h3 h4
          have e : i = 4 := by omega
          subst e
          refine hk_hd (n := 1000) (t := 98) rfl ?_
          refine And.intro (fun _ => ?_) (fun hc => absurd (show (4 : Int32) ≤ nI 4 by decide) hc)
          exact hk_Rn_cast (by rw [← nI_1 j]; rfl) (ih (j + 1) s3 (some (.int (nI 4))) (by omega) h3 h4)
        | succ g ih2 =>
          intro i s3 hi h3 h4
          have b2 : ¬ nI 4 ≤ nI i := hk_nlt (by omega) (by omega)
          refine hk_hd (n := 1000) (t := 98) rfl ?_
          refine And.intro (fun hc => absurd hc b2) (fun _ => ?_)
          refine And.intro (fun c1 => ?_) (fun c1 => ?_)
          · exact hk_Rn_cast (by rw [← nI_1]; rfl) (ih2 (i + 1) s3 (by omega) h3 h4)
          refine hk_ldi (i := nI j) (j := j) (by simp only [hk_lit, pk_mul, nI_add]) (by omega) (by decide) rfl ?_
          refine hk_ldi (i := nI i) (j := i) (by simp only [hk_lit, pk_mul, nI_add]) (by omega) (by decide) rfl ?_
          refine hk_stn (i := nI j) (j := j) (by simp only [hk_lit, pk_mul, nI_add]) (by omega) (by decide) (fun s4 (hs4 : s4 = hk_u2 s3 32 (j) (s3 32 j + s3 31 i)) => ?_)
          have h5 : hk_F29 s s4 := by rw [hs4]; exact hk_F29_u h3 (by omega)
          have h6 : ∀ q, q ≠ 7 → s4 29 q = s 29 q := fun q hq => by rw [hs4, hk_u2o (by omega)]; exact h4 q hq
          refine hk_ldi (i := nI j) (j := j) (by simp only [hk_lit, pk_mul, nI_add]) (by omega) (by decide) rfl ?_
          refine c_g12 (hk_F29_TW h5 hw) (fun x => ?_)
          refine hk_stn (i := nI j) (j := j) (by simp only [hk_lit, pk_mul, nI_add]) (by omega) (by decide) (fun s5 (hs5 : s5 = hk_u2 s4 33 (j) (s4 33 j + x)) => ?_)
          exact hk_Rn_cast (by rw [← nI_1]; rfl) (ih2 (i + 1) s5 (by omega) (by rw [hs5]; exact hk_F29_u h5 (by omega)) (fun q hq => by rw [hs5, hk_u2o (by omega)]; exact h6 q hq))
      refine hk_hd (n := 1000) (t := 76) rfl ?_
      refine And.intro (fun hc => absurd hc b1) (fun _ => ?_)
      refine hk_stn (i := nI j) (j := j) (by simp only [hk_lit, pk_mul, nI_add]) (by omega) (by decide) (fun s4 (hs4 : s4 = hk_u2 s3 32 (j) 0) => ?_)
      refine hk_stn (i := nI j) (j := j) (by simp only [hk_lit, pk_mul, nI_add]) (by omega) (by decide) (fun s5 (hs5 : s5 = hk_u2 s4 33 (j) 0) => ?_)
      exact l98 4 0 s5 (by omega) (by rw [hs5, hs4]; exact hk_F29_u (hk_F29_u h3 (by omega)) (by omega)) (fun q hq => by rw [hs5, hk_u2o (by omega), hs4, hk_u2o (by omega)]; exact h4 q hq)
  have l7 : ∀ (g i : Nat) (s3 : Nat → Nat → Int32), i + g = 4 → hk_F29 s s3 → (∀ q, q ≠ 7 → s3 29 q = s 29 q) → hk_Rn (d + 2) none hk_c83 (hk_sfx 7 hk_c83) [some (.ref 29), some (.int (nI i)), none] [] (s3, lm, hk_RH i0 i1 b, al) k := by
    intro g
    induction g with
    | zero =>
      intro i s3 hi h3 h4
      have e : i = 4 := by omega
      subst e
      refine hk_hd (n := 1000) (t := 7) rfl ?_
      refine And.intro (fun _ => ?_) (fun hc => absurd (show (4 : Int32) ≤ nI 4 by decide) hc)
      exact l76 16 0 s3 none (by omega) h3 h4
    | succ g ih =>
      intro i s3 hi h3 h4
      have b1 : ¬ nI 4 ≤ nI i := hk_nlt (by omega) (by omega)
      have nx : ∀ (m : Nat) (x : Int32), hk_wp (d + 2) none hk_c83 k (m + 60) (hk_sfx 40 hk_c83) [some (.ref 29), some (.int (nI i)), none] [.int x, .int (nI i), .ref 30] (s3, lm, hk_RH i0 i1 b, al) := by
        intro m x
        refine hk_stn (i := nI i) (j := i) (by simp only [hk_lit, pk_mul, nI_add]) (by omega) (by decide) (fun s4 (hs4 : s4 = hk_u2 s3 30 (i) x) => ?_)
        refine hk_stn (i := nI i) (j := i) (by simp only [hk_lit, pk_mul, nI_add]) (by omega) (by decide) (fun s5 (hs5 : s5 = hk_u2 s4 31 (i) (s4 29 7)) => ?_)
        refine hk_ldi (i := nI i) (j := i) (by simp only [hk_lit, pk_mul, nI_add]) (by omega) (by decide) rfl ?_
        exact hk_Rn_cast (by rw [← nI_1]; rfl) (ih (i + 1) (hk_u2 s5 29 7 (s5 29 7 * (s5 30 i + 1))) (by omega) (hk_F29_u (by rw [hs5, hs4]; exact hk_F29_u (hk_F29_u h3 (by omega)) (by omega)) (by omega)) (fun q hq => by rw [hk_u2o (by omega), hs5, hk_u2o (by omega), hs4, hk_u2o (by omega)]; exact h4 q hq))
      refine hk_hd (n := 1000) (t := 7) rfl ?_
      refine And.intro (fun hc => absurd hc b1) (fun _ => ?_)
      refine And.intro (fun c1 => ?_) (fun c1 => ?_)
      · exact nx _ 0
      refine c_useful (hk_F29_TW h3 hw) (fun x => ?_)
      exact nx _ x
  refine hk_mth hk_m83 rfl rfl (n := 1000) ?_
  exact l7 4 0 (hk_u2 s 29 7 1) (by omega) (hk_F29_u (hk_F29_r s) (by omega)) (fun q hq => by rw [hk_u2o (by omega)])
theorem c_sumUp (hw : hk_tw s 12 n) (hw2 : hk_TW s) (h1 : ∀ s2, hk_F29 s s2 → k none (s2, lm, hk_RH i0 i1 b, al)) : hk_Cl (d + 3) 97 [.ref 29, .int v] (s, lm, hk_RH i0 i1 b, al) k := by
  have hn : n ≤ 4 := hw.2.2.2
  have em : (if (4 : Int32) < hk_u2 (hk_u2 (hk_u2 s 29 8 0) 29 9 0) 29 10 0 12 3 then 4 else hk_u2 (hk_u2 (hk_u2 s 29 8 0) 29 9 0) 29 10 0 12 3) = nI n := by
    rw [hk_u2o (by omega), hk_u2o (by omega), hk_u2o (by omega), hw.2.2.1]
    exact hk_minI (m := 4) hn (by omega)
  have loop : ∀ (g i : Nat) (s3 : Nat → Nat → Int32), i + g = n → hk_F29 s s3 → hk_Rn (d + 2) none hk_c97 (hk_sfx 32 hk_c97) [some (.ref 29), some (.int v), some (.int (nI n)), some (.int (nI i))] [] (s3, lm, hk_RH i0 i1 b, al) k := by
    intro g
    induction g with
    | zero =>
      intro i s3 hi h3
      have e : i = n := by omega
      subst e
      refine hk_hd (n := 1000) (t := 32) rfl ?_
      refine And.intro (fun _ => ?_) (fun hc => absurd (Int32.le_refl _) hc)
      exact h1 s3 h3
    | succ g ih =>
      intro i s3 hi h3
      have b1 : ¬ nI n ≤ nI i := hk_nlt (by omega) (by omega)
      have hw3 := hk_F29_TW h3 hw2
      have fr : ∀ {s4 : Nat → Nat → Int32} {q : Nat} {v : Int32}, hk_F29 s s4 → hk_F29 s (hk_u2 s4 29 q v) := fun h => hk_F29_u h (by omega)
      refine hk_hd (n := 1000) (t := 32) rfl ?_
      refine And.intro (fun hc => absurd hc b1) (fun _ => ?_)
      refine c_floatsT hw3 (by omega) (fun x => ?_)
      have h4 := fun v => fr (q := 8) (v := v) h3
      refine c_times (by omega) (fun y => ?_)
      have h5 := fun v w => fr (q := 10) (v := w) (h4 v)
      refine c_floatsT (hk_F29_TW (h5 _ _) hw2) (by omega) (fun z => ?_)
      refine And.intro (fun c1 => ?_) (fun c1 => ?_)
      · exact hk_Rn_cast (by rw [← nI_1]; rfl) (ih (i + 1) _ (by omega) (h5 _ _))
      · exact hk_Rn_cast (by rw [← nI_1]; rfl) (ih (i + 1) _ (by omega) (fr (q := 9) (h5 _ _)))
  refine hk_mth hk_m97 rfl rfl (n := 1000) ?_
  refine hk_Rn_cast (L2 := [some (.ref 29), some (.int v), some (.int (nI n)), some (.int (nI 0))]) ?_ (loop n 0 (hk_u2 (hk_u2 (hk_u2 s 29 8 0) 29 9 0) 29 10 0) (by omega) (hk_F29_u (hk_F29_u (hk_F29_u (hk_F29_r s) (by omega)) (by omega)) (by omega)))
  show [some (Value.ref 29), some (.int v), some (.int (if (4 : Int32) < hk_u2 (hk_u2 (hk_u2 s 29 8 0) 29 9 0) 29 10 0 12 3 then 4 else hk_u2 (hk_u2 (hk_u2 s 29 8 0) 29 9 0) 29 10 0 12 3)), some (.int 0)] = _
  rw [em]
  rfl
/-- the row is there: its years -/
theorem c_years {n : Nat} (hw : hk_tw s 12 n) (hw2 : hk_TW s) (h1 : ∀ s2, hk_F29 s s2 → k none (s2, lm, hk_RH i0 i1 95, al)) : ∀ (g u : Nat) (s3 : Nat → Nat → Int32) (v : Int32), u + g = 10 → hk_F29 s s3 → hk_Rn (d + 37) none hk_c82 (hk_sfx 65 hk_c82) [some (.ref 29), some (.int v), some (.int (nI u))] [] (s3, lm, hk_RH i0 i1 95, al) k := by
  intro g
  induction g with
  | zero =>
    intro u s3 v hu h3
    have e : u = 10 := by omega
    subst e
    refine hk_hd (n := 1000) (t := 65) rfl ?_
    refine And.intro (fun _ => ?_) (fun hc => absurd (show (10 : Int32) ≤ nI 10 by decide) hc)
    refine c_sumUp (n := n) ⟨by rw [h3 _ _ (by omega) (by omega)]; exact hw.1, by rw [h3 _ _ (by omega) (by omega)]; exact hw.2.1, by rw [h3 _ _ (by omega) (by omega)]; exact hw.2.2.1, hw.2.2.2⟩ (hk_F29_TW h3 hw2) (fun s4 h4 => ?_)
    exact h1 s4 (hk_F29_t h3 h4)
  | succ g ih =>
    intro u s3 v hu h3
    have b1 : ¬ nI 10 ≤ nI u := hk_nlt (by omega) (by omega)
    refine hk_hd (n := 1000) (t := 65) rfl ?_
    refine And.intro (fun hc => absurd hc b1) (fun _ => ?_)
    refine c_least (d := d + 1) (by omega) (hk_F29_TW h3 hw2) (fun s4 j hj h4 => ?_)
    refine hk_stn (i := nI u) (j := u) (by simp only [hk_lit, pk_mul, nI_add]) (by omega) (by decide) (fun s5 (hs5 : s5 = hk_u2 s4 34 (u) (nI j)) => ?_)
    have e34 : s5 34 u = nI j := by rw [hs5, hk_u2s]
    refine hk_ldi (i := nI u) (j := u) (by simp only [hk_lit, pk_mul, nI_add]) (by omega) (by decide) e34 ?_
    refine hk_ldi (i := nI j) (j := j) (by simp only [hk_lit, pk_mul, nI_add]) (by omega) (by decide) rfl ?_
    exact hk_Rn_cast (by rw [← nI_1 u]; rfl) (ih (u + 1) s5 _ (by omega) (by rw [hs5]; exact hk_F29_u (hk_F29_t h3 h4) (by omega)))
end HKA5
