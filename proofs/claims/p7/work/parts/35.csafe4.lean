/-! ===== the class ends on any contents: the plan made; leaks, hands, counts ===== -/
theorem hk_rx44 (i : Nat) : (hk_rx i)[44]? = none := by
  unfold hk_rx
  split <;> rfl
theorem hk_rBg {i0 i1 : Nat} : hk_uR (hk_z (hk_RH i0 i1 35) 95 0) 29 6 95 = hk_RH i0 i1 95 := by
  funext p q
  match p with
  | 0 => rfl
  | 1 => rfl
  | 2 => rfl
  | 3 => rfl
  | 4 => rfl
  | 5 => rfl
  | 6 => rfl
  | 7 => rfl
  | 8 => rfl
  | 9 => rfl
  | 10 => rfl
  | 11 => rfl
  | 12 => rfl
  | 13 => rfl
  | 14 => rfl
  | 15 => rfl
  | 16 => rfl
  | 17 => rfl
  | 18 => rfl
  | 19 => rfl
  | 20 => rfl
  | 21 => rfl
  | 22 => rfl
  | 23 => rfl
  | 24 => rfl
  | 25 => rfl
  | 26 => rfl
  | 27 => rfl
  | 28 => rfl
  | 29 => match q with | 0 => rfl | 1 => rfl | 2 => rfl | 3 => rfl | 4 => rfl | 5 => rfl | 6 => rfl | q + 7 => rfl
  | 30 => rfl
  | 31 => rfl
  | 32 => rfl
  | 33 => rfl
  | 34 => rfl
  | 35 => rfl
  | 36 => rfl
  | 37 => rfl
  | 38 => rfl
  | 39 => rfl
  | 40 => rfl
  | 41 => rfl
  | 42 => rfl
  | 43 => rfl
  | 44 => rfl
  | 45 => rfl
  | 46 => rfl
  | 47 => rfl
  | 48 => rfl
  | 49 => rfl
  | 50 => rfl
  | p + 51 =>
    show (if p + 51 = 95 then (fun _ => 0) else hk_RH i0 i1 35 (p + 51)) q = hk_RH i0 i1 95 (p + 51) q
    by_cases h : p + 51 = 95
    · rw [if_pos h]
      have e : p = 44 := by omega
      subst e
      show 0 = (((hk_rx (i0 + i1))[44]?).getD [])[q]?.getD 0
      rw [hk_rx44]
      rfl
    · rw [if_neg h]
      rfl
theorem hk_fillN (x : Int32) : ∃ m, m ≤ 100000 ∧ (if (0 : Int32) < (if Int32.ofNat 100000 < x then Int32.ofNat 100000 else x) then (if Int32.ofNat 100000 < x then Int32.ofNat 100000 else x) else 0) = nI m := by
  by_cases h : Int32.ofNat 100000 < x
  · rw [if_pos h]
    exact ⟨100000, by omega, by decide⟩
  · rw [if_neg h]
    by_cases h2 : (0 : Int32) < x
    · rw [if_pos h2]
      obtain ⟨j, hj, e⟩ := nI_of (x := x) (fun q => absurd (Int32.lt_trans q h2) Int32.lt_irrefl)
      refine ⟨j, ?_, e⟩
      have h3 : ¬ nI 100000 < x := h
      rw [e, nI_ltI (by omega) hj] at h3
      omega
    · rw [if_neg h2]
      exact ⟨0, by omega, rfl⟩
section HKA6
variable {d n : Nat} {v w x z : Int32} {s : Nat → Nat → Int32} {lm : Nat → Nat → Int64} {rr : Nat → Nat → Nat} {i0 i1 b : Nat} {al : List Nat} {k : Option Value → hk_H → Prop}
theorem c_make95 (hw : hk_tw s 12 n) (hw2 : hk_TW s) (h1 : ∀ s2, hk_F29 s s2 → k none (s2, lm, hk_RH i0 i1 95, al)) : hk_Cl (d + 38) 82 [.ref 29] (s, lm, hk_RH i0 i1 95, al) k := by
  refine hk_mth hk_m82 rfl rfl (n := 1000) ?_
  refine And.intro (fun c1 => ?_) (fun c1 => ?_)
  rotate_left
  · exact h1 s (hk_F29_r s)
  refine And.intro (Or.inr rfl) ?_
  refine c_layOut (hk_TW_u hw2 (by simp [hk_tb])) (fun s2 h2 h4 => ?_)
  have h3 : hk_F29 s s2 := hk_F29_t (hk_F29_u (hk_F29_r s) (by omega)) h2
  obtain ⟨m, hm, em⟩ := hk_fillN (10 * s2 29 7)
  refine And.intro (fun _ => ?_) (fun hc => absurd (by decide) hc)
  refine hk_Cl_arg (a2 := [.ref 95, .int 0, .int (nI m), .int (-1)]) ?_ ?_
  · show [Value.ref 95, .int 0, .int (if (0 : Int32) < (if Int32.ofNat 100000 < 10 * s2 29 7 then Int32.ofNat 100000 else 10 * s2 29 7) then (if Int32.ofNat 100000 < 10 * s2 29 7 then Int32.ofNat 100000 else 10 * s2 29 7) else 0), .int (-1)] = _
    rw [em]
  refine c_fill95 (m := m) hm (fun s4 h5 _ => ?_)
  exact c_years hw hw2 h1 10 0 s4 0 (by omega) (fun p q a1 a2 => (h5 p q (by omega)).trans (h3 p q a1 a2))
theorem c_make35 (ha : al.contains 95 = false) (hw : hk_tw s 12 n) (hw2 : hk_TW s) (h0 : k none (s, lm, hk_RH i0 i1 35, al)) (h1 : ∀ s2, hk_F29 s s2 → k none (s2, hk_z lm 95 0, hk_RH i0 i1 95, al ++ [95])) : hk_Cl (d + 38) 82 [.ref 29] (s, lm, hk_RH i0 i1 35, al) k := by
  refine hk_mth hk_m82 rfl rfl (n := 1000) ?_
  refine And.intro (fun c1 => ?_) (fun c1 => ?_)
  rotate_left
  · exact h0
  refine And.intro (Or.inr rfl) ?_
  refine c_layOut (hk_TW_u hw2 (by simp [hk_tb])) (fun s2 h2 h4 => ?_)
  have h3 : hk_F29 s s2 := hk_F29_t (hk_F29_u (hk_F29_r s) (by omega)) h2
  refine And.intro (fun hc => absurd hc (by decide)) (fun _ => ?_)
  refine hk_mkB rfl ha ?_
  refine hk_Cl_rr hk_rBg ?_
  obtain ⟨m, hm, em⟩ := hk_fillN (10 * hk_z s2 95 0 29 7)
  refine hk_Cl_arg (a2 := [.ref 95, .int 0, .int (nI m), .int (-1)]) ?_ ?_
  · show [Value.ref 95, .int 0, .int (if (0 : Int32) < (if Int32.ofNat 100000 < 10 * hk_z s2 95 0 29 7 then Int32.ofNat 100000 else 10 * hk_z s2 95 0 29 7) then (if Int32.ofNat 100000 < 10 * hk_z s2 95 0 29 7 then Int32.ofNat 100000 else 10 * hk_z s2 95 0 29 7) else 0), .int (-1)] = _
    rw [em]
  refine c_fill95 (m := m) hm (fun s4 h5 _ => ?_)
  refine c_years hw hw2 h1 10 0 s4 0 (by omega) (fun p q a1 a2 => ?_)
  have h5' : s4 p q = hk_z s2 95 0 p q := h5 p q (by omega)
  rw [h5', ← h3 p q a1 a2]
  unfold hk_z
  rw [if_neg a2]
theorem c_at (h1 : ∀ x, k (some (.int x)) (s, lm, hk_RH i0 i1 b, al)) : hk_Cl (d + 1) 98 [.ref 29, .int z] (s, lm, hk_RH i0 i1 b, al) k := by
  refine hk_mth hk_m98 rfl rfl (n := 1000) ?_
  refine And.intro (fun c1 => ?_) (fun c1 => ?_)
  rotate_left
  · exact h1 _
  refine And.intro (fun c2 => ?_) (fun c2 => ?_)
  rotate_left
  · exact h1 _
  refine And.intro (fun c3 => ?_) (fun c3 => ?_)
  · exact h1 _
  refine And.intro (fun c4 => ?_) (fun c4 => ?_)
  · exact h1 _
  obtain ⟨j, hj, rfl⟩ := nI_of c3
  have c4 : ¬ nI 10 ≤ nI j := c4
  rw [nI_leI (by omega) hj] at c4
  refine hk_ldi (i := nI j) (j := j) (by simp only [hk_lit, pk_mul, nI_add]) (by omega) (by decide) rfl ?_
  exact h1 _
theorem c_plan95 (hw : hk_tw s 12 n) (hw2 : hk_TW s) (hb : ¬ hk_rg z (-1) 11 → k (some (.int (-2))) (s, lm, hk_RH i0 i1 95, al)) (hg : hk_rg z (-1) 11 → ∀ s2 x, hk_F29 s s2 → k (some (.int x)) (s2, lm, hk_RH i0 i1 95, al)) : hk_Cl (d + 39) 81 [.ref 0, .int z] (s, lm, hk_RH i0 i1 95, al) k := by
  refine hk_mth hk_m81 rfl rfl (n := 1000) ?_
  refine c_within0 (fun (a : z < (-1) ∨ 11 < z) => ?_) (fun (p0 : ¬ z < (-1)) (q0 : ¬ 11 < z) => ?_)
  · refine And.intro (fun hc => absurd hc (by decide)) (fun _ => ?_)
    exact hb (fun q => a.elim q.1 q.2)
  refine And.intro (fun _ => ?_) (fun hc => absurd (by decide) hc)
  refine c_make95 hw hw2 (fun s2 h2 => ?_)
  exact c_at (fun x => hg ⟨p0, q0⟩ s2 x h2)
theorem c_plan35 (ha : al.contains 95 = false) (hw : hk_tw s 12 n) (hw2 : hk_TW s) (hb : k (some (.int (-2))) (s, lm, hk_RH i0 i1 35, al)) (h0 : hk_rg z (-1) 11 → ∀ x, k (some (.int x)) (s, lm, hk_RH i0 i1 35, al)) (hg : hk_rg z (-1) 11 → ∀ s2 x, hk_F29 s s2 → k (some (.int x)) (s2, hk_z lm 95 0, hk_RH i0 i1 95, al ++ [95])) : hk_Cl (d + 39) 81 [.ref 0, .int z] (s, lm, hk_RH i0 i1 35, al) k := by
  refine hk_mth hk_m81 rfl rfl (n := 1000) ?_
  refine c_within0 (fun (a : z < (-1) ∨ 11 < z) => ?_) (fun (p0 : ¬ z < (-1)) (q0 : ¬ 11 < z) => ?_)
  · refine And.intro (fun hc => absurd hc (by decide)) (fun _ => ?_)
    exact hb
  refine And.intro (fun _ => ?_) (fun hc => absurd (by decide) hc)
  refine c_make35 ha hw hw2 ?_ (fun s2 h2 => ?_)
  · exact c_at (fun x => h0 ⟨p0, q0⟩ x)
  · exact c_at (fun x => hg ⟨p0, q0⟩ s2 x h2)
/-! leaks -/
theorem c_likely (hw : hk_TW s) (h1 : ∀ x, k (some (.int x)) (s, lm, hk_RH i0 i1 b, al)) : hk_Cl (d + 2) 105 [.ref 14] (s, lm, hk_RH i0 i1 b, al) k := by
  obtain ⟨n, hn, hn2, hr⟩ := hk_rows hw (t := 14) (by simp [hk_tb])
  have loop : ∀ (q j : Nat) (a e : Int32), j + q = n → hk_Rn (d + 1) none hk_c105 (hk_sfx 6 hk_c105) [some (.ref 14), some (.int a), some (.int e), some (.int (nI j))] [] (s, lm, hk_RH i0 i1 b, al) k := by
    intro q
    induction q with
    | zero =>
      intro j a e hj
      refine hk_hd (n := 1000) (t := 6) rfl ?_
      refine And.intro (fun _ => ?_) (fun hc => absurd ((hr j (by omega)).mpr (by omega)) hc)
      exact h1 _
    | succ q ih =>
      intro j a e hj
      refine hk_hd (n := 1000) (t := 6) rfl ?_
      refine And.intro (fun hc => absurd hc (fun q => absurd ((hr j (by omega)).mp q) (by omega))) (fun _ => ?_)
      refine c_g14 hw (fun x => ?_)
      refine And.intro (fun c1 => ?_) (fun c1 => ?_)
      · refine c_g14 hw (fun x => ?_)
        exact hk_Rn_cast (by rw [← nI_1]; rfl) (ih (j + 1) _ _ (by omega))
      · refine c_g14 hw (fun x => ?_)
        exact hk_Rn_cast (by rw [← nI_1]; rfl) (ih (j + 1) _ _ (by omega))
  refine hk_mth hk_m105 rfl rfl (n := 1000) ?_
  exact loop n 0 0 0 (by omega)
theorem c_fits (hw : hk_TW s) (h1 : ∀ x, k (some (.int x)) (s, lm, hk_RH i0 i1 b, al)) : hk_Cl (d + 2) 107 [.ref 14, .int v] (s, lm, hk_RH i0 i1 b, al) k := by
  obtain ⟨n, hn, hn2, hr⟩ := hk_rows hw (t := 14) (by simp [hk_tb])
  have loop : ∀ (q j : Nat) (l3 : Option Value), j + q = n → hk_Rn (d + 1) none hk_c107 (hk_sfx 2 hk_c107) [some (.ref 14), some (.int v), some (.int (nI j)), l3] [] (s, lm, hk_RH i0 i1 b, al) k := by
    intro q
    induction q with
    | zero =>
      intro j l3 hj
      refine hk_hd (n := 1000) (t := 2) rfl ?_
      refine And.intro (fun _ => ?_) (fun hc => absurd ((hr j (by omega)).mpr (by omega)) hc)
      exact And.intro (Or.inr rfl) (h1 _)
    | succ q ih =>
      intro j l3 hj
      refine hk_hd (n := 1000) (t := 2) rfl ?_
      refine And.intro (fun hc => absurd hc (fun q => absurd ((hr j (by omega)).mp q) (by omega))) (fun _ => ?_)
      refine c_g14 hw (fun x => ?_)
      refine And.intro (fun c1 => ?_) (fun c1 => ?_)
      · refine c_g14 hw (fun x => ?_)
        refine And.intro (fun c2 => ?_) (fun c2 => ?_)
        · refine And.intro (fun _ => ?_) (fun hc => absurd (by decide) hc)
          exact hk_Rn_cast (by rw [← nI_1]; rfl) (ih (j + 1) _ (by omega))
        · refine And.intro (fun hc => absurd hc (by decide)) (fun _ => ?_)
          exact And.intro (Or.inl rfl) (h1 _)
      · refine c_g14 hw (fun x => ?_)
        refine And.intro (fun c2 => ?_) (fun c2 => ?_)
        · refine And.intro (fun hc => absurd hc (by decide)) (fun _ => ?_)
          exact And.intro (Or.inl rfl) (h1 _)
        · refine And.intro (fun _ => ?_) (fun hc => absurd (by decide) hc)
          exact hk_Rn_cast (by rw [← nI_1]; rfl) (ih (j + 1) _ (by omega))
  refine hk_mth hk_m107 rfl rfl (n := 1000) ?_
  exact loop n 0 none (by omega)
theorem c_noLarger (h1 : ∀ x, k (some (.int x)) (s, lm, hk_RH i0 i1 b, al)) : hk_Cl (d + 2) 106 [.ref 36, .int v] (s, lm, hk_RH i0 i1 b, al) k := by
  refine hk_mth hk_m106 rfl rfl (n := 1000) ?_
  refine And.intro (fun c1 => ?_) (fun c1 => ?_)
  · exact And.intro (Or.inr rfl) (h1 _)
  refine c_bitAny (fun x => ?_)
  refine c_bitAny (fun y => ?_)
  refine And.intro (fun c2 => ?_) (fun c2 => ?_)
  · exact And.intro (Or.inl rfl) (h1 _)
  · exact And.intro (Or.inr rfl) (h1 _)
def hk_F36 (s s2 : Nat → Nat → Int32) : Prop := ∀ p q, p ≠ 36 → s2 p q = s p q
theorem hk_F36_TW {s s2 : Nat → Nat → Int32} (a : hk_F36 s s2) (h : hk_TW s) : hk_TW s2 := hk_TW_fr h (fun t q ht => a t q (by have := hk_tb35 ht; omega))
theorem hk_F36_u {s s2 : Nat → Nat → Int32} {q : Nat} {v : Int32} (a : hk_F36 s s2) : hk_F36 s (hk_u2 s2 36 q v) := fun p' q' h1 => by
  rw [hk_u2o (by omega)]
  exact a p' q' h1
theorem c_find (hw : hk_TW s) (h1 : ∀ s2, hk_F36 s s2 → k none (s2, lm, hk_RH i0 i1 b, al)) : hk_Cl (d + 3) 104 [.ref 36, .ref 14] (s, lm, hk_RH i0 i1 b, al) k := by
  have loop : ∀ (q j : Nat) (s3 : Nat → Nat → Int32) (a : Int32), j + q = 4096 → hk_F36 s s3 → hk_Rn (d + 2) none hk_c104 (hk_sfx 17 hk_c104) [some (.ref 36), some (.ref 14), some (.int a), some (.int (nI j))] [] (s3, lm, hk_RH i0 i1 b, al) k := by
    intro q
    induction q with
    | zero =>
      intro j s3 a hj h3
      have e : j = 4096 := by omega
      subst e
      refine hk_hd (n := 1000) (t := 17) rfl ?_
      refine And.intro (fun _ => ?_) (fun hc => absurd (show (4095 : Int32) < nI 4096 by decide) hc)
      exact h1 s3 h3
    | succ q ih =>
      intro j s3 a hj h3
      have a1 : ¬ nI 4095 < nI j := by rw [nI_ltI (by omega) (by omega)]; omega
      have hw3 := hk_F36_TW h3 hw
      have nx : ∀ s4, hk_F36 s s4 → hk_Rn (d + 2) none hk_c104 (hk_sfx 17 hk_c104) [some (.ref 36), some (.ref 14), some (.int a), some (.int (nI j + 1))] [] (s4, lm, hk_RH i0 i1 b, al) k := fun s4 h4 => hk_Rn_cast (by rw [nI_1]) (ih (j + 1) s4 a (by omega) h4)
      refine hk_hd (n := 1000) (t := 17) rfl ?_
      refine And.intro (fun hc => absurd hc a1) (fun _ => ?_)
      refine And.intro (fun c1 => ?_) (fun c1 => ?_)
      · exact nx s3 h3
      refine c_noLarger (fun x => ?_)
      refine And.intro (fun c2 => ?_) (fun c2 => ?_)
      · exact nx s3 h3
      refine c_fits hw3 (fun y => ?_)
      refine And.intro (fun c3 => ?_) (fun c3 => ?_)
      · exact nx s3 h3
      refine And.intro (fun c4 => ?_) (fun c4 => ?_)
      · exact nx _ (hk_F36_u (q := 1) (hk_F36_u (q := 0) h3))
      refine c_bitAny (fun x => ?_)
      refine c_bitAny (fun y => ?_)
      refine And.intro (fun c5 => ?_) (fun c5 => ?_)
      · exact nx _ (hk_F36_u (q := 1) (hk_F36_u (q := 0) h3))
      · exact nx _ (hk_F36_u (q := 1) h3)
  refine hk_mth hk_m104 rfl rfl (n := 1000) ?_
  refine c_likely (hk_TW_u (hk_TW_u hw (by simp [hk_tb])) (by simp [hk_tb])) (fun x => ?_)
  exact loop 4096 0 _ x (by omega) (hk_F36_u (q := 1) (hk_F36_u (q := 0) (fun _ _ _ => rfl)))
/-! hands -/
def hk_F37 (s s2 : Nat → Nat → Int32) : Prop := ∀ p q, ¬ (37 ≤ p ∧ p ≤ 39) → s2 p q = s p q
theorem hk_F37_TW {s s2 : Nat → Nat → Int32} (a : hk_F37 s s2) (h : hk_TW s) : hk_TW s2 := hk_TW_fr h (fun t q ht => a t q (by have := hk_tb35 ht; omega))
theorem hk_F37_u {s s2 : Nat → Nat → Int32} {p q : Nat} {v : Int32} (a : hk_F37 s s2) (hp : 37 ≤ p ∧ p ≤ 39) : hk_F37 s (hk_u2 s2 p q v) := fun p' q' h1 => by
  rw [hk_u2o (by omega)]
  exact a p' q' h1
theorem hk_F37_t {s s2 s3 : Nat → Nat → Int32} (a : hk_F37 s s2) (c : hk_F37 s2 s3) : hk_F37 s s3 := fun p q h1 => (c p q h1).trans (a p q h1)
theorem c_supply (hw : hk_TW s) (h1 : ∀ s2, hk_F37 s s2 → k none (s2, lm, hk_RH i0 i1 b, al)) : hk_Cl (d + 2) 114 [.ref 37, .ref 16] (s, lm, hk_RH i0 i1 b, al) k := by
  obtain ⟨n, hn, hn2, hr⟩ := hk_rows hw (t := 16) (by simp [hk_tb])
  have loop : ∀ (q j : Nat) (s2 : Nat → Nat → Int32) (l3 : Option Value), j + q = 32 → hk_F37 s s2 → hk_Rn (d + 1) none hk_c114 (hk_sfx 2 hk_c114) [some (.ref 37), some (.ref 16), some (.int (nI j)), l3] [] (s2, lm, hk_RH i0 i1 b, al) k := by
    intro q
    induction q with
    | zero =>
      intro j s2 l3 hj h2
      have e : j = 32 := by omega
      subst e
      refine hk_hd (n := 1000) (t := 2) rfl ?_
      refine And.intro (fun _ => ?_) (fun hc => absurd (show (31 : Int32) < nI 32 by decide) hc)
      exact h1 s2 h2
    | succ q ih =>
      intro j s2 l3 hj h2
      have a1 : ¬ nI 31 < nI j := by rw [nI_ltI (by omega) (by omega)]; omega
      have l17 : ∀ (g i : Nat) (s3 : Nat → Nat → Int32), i + g = n → hk_F37 s s3 → hk_Rn (d + 1) none hk_c114 (hk_sfx 17 hk_c114) [some (.ref 37), some (.ref 16), some (.int (nI j)), some (.int (nI i))] [] (s3, lm, hk_RH i0 i1 b, al) k := by
        intro g
        induction g with
        | zero =>
          intro i s3 hi h3
          have a2 : s3 16 3 ≤ nI i := by rw [h3 _ _ (by omega)]; exact (hr i (by omega)).mpr (by omega)
          refine hk_hd (n := 1000) (t := 17) rfl ?_
          refine And.intro (fun _ => ?_) (fun hc => absurd a2 hc)
          exact hk_Rn_cast (by rw [← nI_1 j]; rfl) (ih (j + 1) s3 _ (by omega) h3)
        | succ g ih2 =>
          intro i s3 hi h3
          have a2 : ¬ s3 16 3 ≤ nI i := by rw [h3 _ _ (by omega)]; exact fun q => absurd ((hr i (by omega)).mp q) (by omega)
          have hw3 := hk_F37_TW h3 hw
          refine hk_hd (n := 1000) (t := 17) rfl ?_
          refine And.intro (fun hc => absurd hc a2) (fun _ => ?_)
          refine c_g16 hw3 (fun x => ?_)
          refine And.intro (fun c1 => ?_) (fun c1 => ?_)
          · exact hk_Rn_cast (by rw [← nI_1 i]; rfl) (ih2 (i + 1) s3 (by omega) h3)
          refine hk_ldi (i := nI j) (j := j) (by simp only [hk_lit, pk_mul, nI_add]) (by omega) (by decide) rfl ?_
          refine c_g16 hw3 (fun y => ?_)
          refine hk_stn (i := nI j) (j := j) (by simp only [hk_lit, pk_mul, nI_add]) (by omega) (by decide) (fun s4 (hs4 : s4 = hk_u2 s3 38 (j) (s3 38 j + y)) => ?_)
          exact hk_Rn_cast (by rw [← nI_1 i]; rfl) (ih2 (i + 1) s4 (by omega) (by rw [hs4]; exact hk_F37_u h3 (by omega)))
      refine hk_hd (n := 1000) (t := 2) rfl ?_
      refine And.intro (fun hc => absurd hc a1) (fun _ => ?_)
      refine hk_stn (i := nI j) (j := j) (by simp only [hk_lit, pk_mul, nI_add]) (by omega) (by decide) (fun s3 (hs3 : s3 = hk_u2 s2 38 (j) 0) => ?_)
      exact l17 n 0 s3 (by omega) (by rw [hs3]; exact hk_F37_u h2 (by omega))
  refine hk_mth hk_m114 rfl rfl (n := 1000) ?_
  exact loop 32 0 s _ (by omega) (fun _ _ _ => rfl)
theorem c_worthC (hw : hk_TW s) (h1 : ∀ x, k (some (.int x)) (s, lm, hk_RH i0 i1 b, al)) : hk_Cl (d + 2) 115 [.ref 18, .int v] (s, lm, hk_RH i0 i1 b, al) k := by
  obtain ⟨n, hn, hn2, hr⟩ := hk_rows hw (t := 18) (by simp [hk_tb])
  have loop : ∀ (q j : Nat) (a : Int32), j + q = n → hk_Rn (d + 1) none hk_c115 (hk_sfx 4 hk_c115) [some (.ref 18), some (.int v), some (.int a), some (.int (nI j))] [] (s, lm, hk_RH i0 i1 b, al) k := by
    intro q
    induction q with
    | zero =>
      intro j a hj
      refine hk_hd (n := 1000) (t := 4) rfl ?_
      refine And.intro (fun _ => ?_) (fun hc => absurd ((hr j (by omega)).mpr (by omega)) hc)
      exact h1 _
    | succ q ih =>
      intro j a hj
      refine hk_hd (n := 1000) (t := 4) rfl ?_
      refine And.intro (fun hc => absurd hc (fun q => absurd ((hr j (by omega)).mp q) (by omega))) (fun _ => ?_)
      refine And.intro (fun c1 => ?_) (fun c1 => ?_)
      · exact hk_Rn_cast (by rw [← nI_1]; rfl) (ih (j + 1) _ (by omega))
      refine c_g18 hw (fun x => ?_)
      exact hk_Rn_cast (by rw [← nI_1]; rfl) (ih (j + 1) _ (by omega))
  refine hk_mth hk_m115 rfl rfl (n := 1000) ?_
  exact loop n 0 0 (by omega)
theorem c_fill39 (h1 : ∀ s2, hk_F37 s s2 → (∀ q, q < 5 → s2 39 q = v) → k none (s2, lm, hk_RH i0 i1 b, al)) : hk_Cl (d + 1) 118 [.ref 39, .int v] (s, lm, hk_RH i0 i1 b, al) k := by
  have loop : ∀ (g i : Nat) (s3 : Nat → Nat → Int32), i + g = 5 → hk_F37 s s3 → (∀ q, q < i → s3 39 q = v) → hk_Rn d none hk_c118 (hk_sfx 5 hk_c118) [some (.ref 39), some (.int v), some (.int (nI i)), some (.int (nI 5))] [] (s3, lm, hk_RH i0 i1 b, al) k := by
    intro g
    induction g with
    | zero =>
      intro i s3 hi h2 h3
      have e : i = 5 := by omega
      subst e
      refine hk_hd (n := 1000) (t := 5) rfl ?_
      refine And.intro (fun _ => ?_) (fun hc => absurd (Int32.le_refl _) hc)
      exact h1 s3 h2 h3
    | succ g ih =>
      intro i s3 hi h2 h3
      have b1 : ¬ nI 5 ≤ nI i := hk_nlt (by omega) (by omega)
      refine hk_hd (n := 1000) (t := 5) rfl ?_
      refine And.intro (fun hc => absurd hc b1) (fun _ => ?_)
      refine hk_stn (i := nI i) (j := i) (by simp only [hk_lit, pk_mul, nI_add]) (by omega) (by decide) (fun s4 (hs4 : s4 = hk_u2 s3 39 (i) v) => ?_)
      refine hk_Rn_cast (by rw [← nI_1 i]; rfl) (ih (i + 1) s4 (by omega) (by rw [hs4]; exact hk_F37_u h2 (by omega)) (fun q hq => ?_))
      rw [hs4]
      by_cases e : q = i
      · subst e; rw [hk_u2s]
      · rw [hk_u2o (by omega)]; exact h3 q (by omega)
  refine hk_mth hk_m118 rfl rfl (n := 1000) ?_
  exact loop 5 0 s (by omega) (fun _ _ _ => rfl) (fun q hq => absurd hq (Nat.not_lt_zero q))
theorem c_needAll (hw : hk_TW s) (h1 : ∀ s2, hk_F37 s s2 → k none (s2, lm, hk_RH i0 i1 b, al)) : hk_Cl (d + 2) 117 [.ref 37, .ref 18, .int v] (s, lm, hk_RH i0 i1 b, al) k := by
  obtain ⟨n, hn, hn2, hr⟩ := hk_rows hw (t := 18) (by simp [hk_tb])
  have loop : ∀ (g i : Nat) (s3 : Nat → Nat → Int32) (l4 : Option Value), i + g = n → hk_F37 s s3 → hk_Rn (d + 1) none hk_c117 (hk_sfx 10 hk_c117) [some (.ref 37), some (.ref 18), some (.int v), some (.int (nI i)), l4] [] (s3, lm, hk_RH i0 i1 b, al) k := by
    intro g
    induction g with
    | zero =>
      intro i s3 l4 hi h3
      have a2 : s3 18 3 ≤ nI i := by rw [h3 _ _ (by omega)]; exact (hr i (by omega)).mpr (by omega)
      refine hk_hd (n := 1000) (t := 10) rfl ?_
      refine And.intro (fun _ => ?_) (fun hc => absurd a2 hc)
      exact h1 s3 h3
    | succ g ih =>
      intro i s3 l4 hi h3
      have a2 : ¬ s3 18 3 ≤ nI i := by rw [h3 _ _ (by omega)]; exact fun q => absurd ((hr i (by omega)).mp q) (by omega)
      have hw3 := hk_F37_TW h3 hw
      refine hk_hd (n := 1000) (t := 10) rfl ?_
      refine And.intro (fun hc => absurd hc a2) (fun _ => ?_)
      refine c_g18 hw3 (fun x => ?_)
      refine And.intro (fun c1 => ?_) (fun c1 => ?_)
      · exact hk_Rn_cast (by rw [← nI_1 i]; rfl) (ih (i + 1) s3 _ (by omega) h3)
      refine c_within (fun p q => ?_) (fun a => ?_)
      · refine And.intro (fun hc => absurd hc (by decide)) (fun _ => ?_)
        obtain ⟨j, hj, rfl⟩ := hk_rng (n := 4) (by decide) p q
        refine hk_ldi (i := nI j) (j := j) (by simp only [hk_lit, pk_mul, nI_add]) (by omega) (by decide) rfl ?_
        refine c_g18 hw3 (fun y => ?_)
        refine hk_stn (i := nI j) (j := j) (by simp only [hk_lit, pk_mul, nI_add]) (by omega) (by decide) (fun s4 (hs4 : s4 = hk_u2 s3 39 (j) (s3 39 j + y)) => ?_)
        exact hk_Rn_cast (by rw [← nI_1 i]; rfl) (ih (i + 1) s4 _ (by omega) (by rw [hs4]; exact hk_F37_u h3 (by omega)))
      · refine And.intro (fun _ => ?_) (fun hc => absurd (by decide) hc)
        exact hk_Rn_cast (by rw [← nI_1 i]; rfl) (ih (i + 1) s3 _ (by omega) h3)
  refine hk_mth hk_m117 rfl rfl (n := 1000) ?_
  refine c_fill39 (fun s2 h2 _ => ?_)
  exact loop n 0 s2 none (by omega) h2
theorem c_canDo (hw : hk_TW s) (h1 : ∀ s2 x, hk_F37 s s2 → k (some (.int x)) (s2, lm, hk_RH i0 i1 b, al)) : hk_Cl (d + 3) 116 [.ref 37, .ref 18, .int v] (s, lm, hk_RH i0 i1 b, al) k := by
  refine hk_mth hk_m116 rfl rfl (n := 1000) ?_
  refine c_needAll hw (fun s2 h2 => ?_)
  have loop : ∀ (g j : Nat) (l4 l5 : Option Value), j + g = 32 → hk_Rn (d + 2) none hk_c116 (hk_sfx 8 hk_c116) [some (.ref 37), some (.ref 18), some (.int v), some (.int (nI j)), l4, l5] [] (s2, lm, hk_RH i0 i1 b, al) k := by
    intro g
    induction g with
    | zero =>
      intro j l4 l5 hj
      have e : j = 32 := by omega
      subst e
      refine hk_hd (n := 1000) (t := 8) rfl ?_
      refine And.intro (fun _ => ?_) (fun hc => absurd (show (31 : Int32) < nI 32 by decide) hc)
      exact And.intro (Or.inr rfl) (h1 s2 _ h2)
    | succ g ih =>
      intro j l4 l5 hj
      have a1 : ¬ nI 31 < nI j := by rw [nI_ltI (by omega) (by omega)]; omega
      have l20 : ∀ (g i : Nat) (a : Int32), i + g = 5 → hk_Rn (d + 2) none hk_c116 (hk_sfx 20 hk_c116) [some (.ref 37), some (.ref 18), some (.int v), some (.int (nI j)), some (.int a), some (.int (nI i))] [] (s2, lm, hk_RH i0 i1 b, al) k := by
        intro g
        induction g with
        | zero =>
          intro i a hi
          have e : i = 5 := by omega
          subst e
          refine hk_hd (n := 1000) (t := 20) rfl ?_
          refine And.intro (fun _ => ?_) (fun hc => absurd (show (5 : Int32) ≤ nI 5 by decide) hc)
          refine hk_ldi (i := nI j) (j := j) (by simp only [hk_lit, pk_mul, nI_add]) (by omega) (by decide) rfl ?_
          refine And.intro (fun c1 => ?_) (fun c1 => ?_)
          · exact hk_Rn_cast (by rw [← nI_1 j]; rfl) (ih (j + 1) _ _ (by omega))
          · exact And.intro (Or.inl rfl) (h1 s2 _ h2)
        | succ g ih2 =>
          intro i a hi
          have b1 : ¬ nI 5 ≤ nI i := hk_nlt (by omega) (by omega)
          refine hk_hd (n := 1000) (t := 20) rfl ?_
          refine And.intro (fun hc => absurd hc b1) (fun _ => ?_)
          refine And.intro (fun c1 => ?_) (fun c1 => ?_)
          · exact hk_Rn_cast (by rw [← nI_1 i]; rfl) (ih2 (i + 1) _ (by omega))
          refine hk_ldi (i := nI i) (j := i) (by simp only [hk_lit, pk_mul, nI_add]) (by omega) (by decide) rfl ?_
          exact hk_Rn_cast (by rw [← nI_1 i]; rfl) (ih2 (i + 1) _ (by omega))
      refine hk_hd (n := 1000) (t := 8) rfl ?_
      refine And.intro (fun hc => absurd hc a1) (fun _ => ?_)
      exact l20 5 0 0 (by omega)
  exact loop 32 0 none none (by omega)
theorem c_choose (hw : hk_tw s 18 n) (hw2 : hk_TW s) (h1 : ∀ s2, hk_F37 s s2 → k none (s2, lm, hk_RH i0 i1 b, al)) : hk_Cl (d + 4) 113 [.ref 37, .ref 1] (s, lm, hk_RH i0 i1 b, al) k := by
  have hn : n ≤ 8 := hw.2.2.2
  have eb : (1 : Int32) <<< (nI n &&& 31) = nI (2 ^ n) := by
    match n, hn with
    | 0, _ => decide
    | 1, _ => decide
    | 2, _ => decide
    | 3, _ => decide
    | 4, _ => decide
    | 5, _ => decide
    | 6, _ => decide
    | 7, _ => decide
    | 8, _ => decide
  have hp : 2 ^ n ≤ 256 := Nat.pow_le_pow_right (n := 2) (by omega) hn
  have loop : ∀ (g j : Nat) (s3 : Nat → Nat → Int32) (l3 : Option Value), j + g = 2 ^ n → hk_F37 s s3 → hk_Rn (d + 3) none hk_c113 (hk_sfx 20 hk_c113) [some (.ref 37), some (.ref 1), some (.int (nI j)), l3] [] (s3, lm, hk_RH i0 i1 b, al) k := by
    intro g
    induction g with
    | zero =>
      intro j s3 l3 hj h3
      have e : j = 2 ^ n := by omega
      have a1 : (1 : Int32) <<< (s3 18 3 &&& 31) ≤ nI j := by rw [h3 _ _ (by omega), hw.2.2.1, eb, e]; exact Int32.le_refl _
      refine hk_hd (n := 1000) (t := 20) rfl ?_
      refine And.intro (fun _ => ?_) (fun hc => absurd a1 hc)
      exact h1 s3 h3
    | succ g ih =>
      intro j s3 l3 hj h3
      have a1 : ¬ (1 : Int32) <<< (s3 18 3 &&& 31) ≤ nI j := by rw [h3 _ _ (by omega), hw.2.2.1, eb]; exact hk_nlt (by omega) (by omega)
      have hw3 := hk_F37_TW h3 hw2
      refine hk_hd (n := 1000) (t := 20) rfl ?_
      refine And.intro (fun hc => absurd hc a1) (fun _ => ?_)
      refine c_worthC hw3 (fun x => ?_)
      refine And.intro (fun c1 => ?_) (fun c1 => ?_)
      · exact hk_Rn_cast (by rw [← nI_1 j]; rfl) (ih (j + 1) s3 _ (by omega) h3)
      refine c_canDo hw3 (fun s4 y h4 => ?_)
      refine And.intro (fun c2 => ?_) (fun c2 => ?_)
      · exact hk_Rn_cast (by rw [← nI_1 j]; rfl) (ih (j + 1) s4 _ (by omega) (hk_F37_t h3 h4))
      · exact hk_Rn_cast (by rw [← nI_1 j]; rfl) (ih (j + 1) _ _ (by omega) (hk_F37_u (p := 37) (q := 3) (hk_F37_u (p := 37) (q := 2) (hk_F37_t h3 h4) (by omega)) (by omega)))
  refine hk_mth hk_m113 rfl rfl (n := 1000) ?_
  refine c_supply hw2 (fun s2 h2 => ?_)
  exact loop (2 ^ n) 0 _ none (by omega) (hk_F37_u (p := 37) (q := 3) (hk_F37_u (p := 37) (q := 2) h2 (by omega)) (by omega))
end HKA6
