/-! ===== the class ends on any contents: the plan made; leaks, hands, counts ===== -/
theorem hk_rx44 (i : Nat) : (hk_rx i)[44]? = none := by
  unfold hk_rx
  split <;> rfl
theorem hk_rBg {i0 i1 : Nat} : hk_uR (hk_z (hk_RH i0 i1 35) 95 0) 29 6 95 = hk_RH i0 i1 95 := by
  funext p q
  match p with
  | 0 => rfl
  | 1 => rfl
  | 2 => rfl
  | 3 => rfl
  | 4 => rfl
  | 5 => rfl
  | 6 => rfl
  | 7 => rfl
  | 8 => rfl
  | 9 => rfl
  | 10 => rfl
  | 11 => rfl
  | 12 => rfl
  | 13 => rfl
  | 14 => rfl
  | 15 => rfl
  | 16 => rfl
  | 17 => rfl
  | 18 => rfl
  | 19 => rfl
  | 20 => rfl
  | 21 => rfl
  | 22 => rfl
  | 23 => rfl
  | 24 => rfl
  | 25 => rfl
  | 26 => rfl
  | 27 => rfl
  | 28 => rfl
  | 29 => match q with | 0 => rfl | 1 => rfl | 2 => rfl | 3 => rfl | 4 => rfl | 5 => rfl | 6 => rfl | q + 7 => rfl
  | 30 => rfl
  | 31 => rfl
  | 32 => rfl
  | 33 => rfl
  | 34 => rfl
  | 35 => rfl
  | 36 => rfl
  | 37 => rfl
  | 38 => rfl
  | 39 => rfl
  | 40 => rfl
  | 41 => rfl
  | 42 => rfl
  | 43 => rfl
  | 44 => rfl
  | 45 => rfl
  | 46 => rfl
  | 47 => rfl
  | 48 => rfl
  | 49 => rfl
  | 50 => rfl
  | p + 51 =>
    show (if p + 51 = 95 then (fun _ => 0) else hk_RH i0 i1 35 (p + 51)) q = hk_RH i0 i1 95 (p + 51) q
    by_cases h : p + 51 = 95
    · rw [if_pos h]
      have e : p = 44 := by omega
      subst e
      show 0 = (((hk_rx (i0 + i1))[44]?).getD [])[q]?.getD 0
      rw [hk_rx44]
      rfl
    · rw [if_neg h]
      rfl
theorem hk_fillN (x : Int32) : ∃ m, m ≤ 100000 ∧ (if (0 : Int32) < (if Int32.ofNat 100000 < x then Int32.ofNat 100000 else x) then (if Int32.ofNat 100000 < x then Int32.ofNat 100000 else x) else 0) = nI m := by
  by_cases h : Int32.ofNat 100000 < x
  · rw [if_pos h]
    exact ⟨100000, by omega, by decide⟩
  · rw [if_neg h]
    by_cases h2 : (0 : Int32) < x
    · rw [if_pos h2]
      obtain ⟨j, hj, e⟩ := nI_of (x := x) (fun q => absurd (Int32.lt_trans q h2) Int32.lt_irrefl)
      refine ⟨j, ?_, e⟩
      have h3 : ¬ nI 100000 < x := h
      rw [e, nI_ltI (by omega) hj] at h3
      omega
    · rw [if_neg h2]
      exact ⟨0, by omega, rfl⟩
section HKA6
variable {d n : Nat} {v w x z : Int32} {s : Nat → Nat → Int32} {lm : Nat → Nat → Int64} {rr : Nat → Nat → Nat} {i0 i1 b : Nat} {al : List Nat} {k : Option Value → hk_H → Prop}
theorem c_make95 (hw : hk_tw s 12 n) (hw2 : hk_TW s) (h1 : ∀ s2, hk_F29 s s2 → k none (s2, lm, hk_RH i0 i1 95, al)) : hk_Cl (d + 38) 82 [.ref 29] (s, lm, hk_RH i0 i1 95, al) k := by
  refine hk_mth hk_m82 rfl rfl (n := 1000) ?_
  refine And.intro (fun c1 => ?_) (fun c1 => ?_)
  rotate_left
  · exact h1 s (hk_F29_r s)
  refine And.intro (Or.inr rfl) ?_
  refine c_layOut (hk_TW_u hw2 (by simp [hk_tb])) (fun s2 h2 h4 => ?_)
  have h3 : hk_F29 s s2 := hk_F29_t (hk_F29_u (hk_F29_r s) (by omega)) h2
  obtain ⟨m, hm, em⟩ := hk_fillN (10 * s2 29 7)
  refine And.intro (fun _ => ?_) (fun hc => absurd (by decide) hc)
  refine hk_Cl_arg (a2 := [.ref 95, .int 0, .int (nI m), .int (-1)]) ?_ ?_
  · show [Value.ref 95, .int 0, .int (if (0 : Int32) < (if Int32.ofNat 100000 < 10 * s2 29 7 then Int32.ofNat 100000 else 10 * s2 29 7) then (if Int32.ofNat 100000 < 10 * s2 29 7 then Int32.ofNat 100000 else 10 * s2 29 7) else 0), .int (-1)] = _
    rw [em]
  refine c_fill95 (m := m) hm (fun s4 h5 _ => ?_)
  exact c_years hw hw2 h1 10 0 s4 0 (by omega) (fun p q a1 a2 => (h5 p q (by omega)).trans (h3 p q a1 a2))
theorem c_make35 (ha : al.contains 95 = false) (hw : hk_tw s 12 n) (hw2 : hk_TW s) (h0 : k none (s, lm, hk_RH i0 i1 35, al)) (h1 : ∀ s2, hk_F29 s s2 → k none (s2, hk_z lm 95 0, hk_RH i0 i1 95, al ++ [95])) : hk_Cl (d + 38) 82 [.ref 29] (s, lm, hk_RH i0 i1 35, al) k := by
  refine hk_mth hk_m82 rfl rfl (n := 1000) ?_
  refine And.intro (fun c1 => ?_) (fun c1 => ?_)
  rotate_left
  · exact h0
  refine And.intro (Or.inr rfl) ?_
  refine c_layOut (hk_TW_u hw2 (by simp [hk_tb])) (fun s2 h2 h4 => ?_)
  have h3 : hk_F29 s s2 := hk_F29_t (hk_F29_u (hk_F29_r s) (by omega)) h2
  refine And.intro (fun hc => absurd hc (by decide)) (fun _ => ?_)
  refine hk_mkB rfl ha ?_
  refine hk_Cl_rr hk_rBg ?_
  obtain ⟨m, hm, em⟩ := hk_fillN (10 * hk_z s2 95 0 29 7)
  refine hk_Cl_arg (a2 := [.ref 95, .int 0, .int (nI m), .int (-1)]) ?_ ?_
  · show [Value.ref 95, .int 0, .int (if (0 : Int32) < (if Int32.ofNat 100000 < 10 * hk_z s2 95 0 29 7 then Int32.ofNat 100000 else 10 * hk_z s2 95 0 29 7) then (if Int32.ofNat 100000 < 10 * hk_z s2 95 0 29 7 then Int32.ofNat 100000 else 10 * hk_z s2 95 0 29 7) else 0), .int (-1)] = _
    rw [em]
  refine c_fill95 (m := m) hm (fun s4 h5 _ => ?_)
  refine c_years hw hw2 h1 10 0 s4 0 (by omega) (fun p q a1 a2 => ?_)
  have h5' : s4 p q = hk_z s2 95 0 p q := h5 p q (by omega)
  rw [h5', ← h3 p q a1 a2]
  unfold hk_z
  rw [if_neg a2]
theorem c_at (h1 : ∀ x, k (some (.int x)) (s, lm, hk_RH i0 i1 b, al)) : hk_Cl (d + 1) 98 [.ref 29, .int z] (s, lm, hk_RH i0 i1 b, al) k := by
  refine hk_mth hk_m98 rfl rfl (n := 1000) ?_
  refine And.intro (fun c1 => ?_) (fun c1 => ?_)
  rotate_left
  · exact h1 _
  refine And.intro (fun c2 => ?_) (fun c2 => ?_)
  rotate_left
  · exact h1 _
  refine And.intro (fun c3 => ?_) (fun c3 => ?_)
  · exact h1 _
  refine And.intro (fun c4 => ?_) (fun c4 => ?_)
  · exact h1 _
  obtain ⟨j, hj, rfl⟩ := nI_of c3
  have c4 : ¬ nI 10 ≤ nI j := c4
  rw [nI_leI (by omega) hj] at c4
  refine hk_ldi (i := nI j) (j := j) (by simp only [hk_lit, pk_mul, nI_add]) (by omega) (by decide) rfl ?_
  exact h1 _
theorem c_plan95 (hw : hk_tw s 12 n) (hw2 : hk_TW s) (hb : ¬ hk_rg z (-1) 11 → k (some (.int (-2))) (s, lm, hk_RH i0 i1 95, al)) (hg : hk_rg z (-1) 11 → ∀ s2 x, hk_F29 s s2 → k (some (.int x)) (s2, lm, hk_RH i0 i1 95, al)) : hk_Cl (d + 39) 81 [.ref 0, .int z] (s, lm, hk_RH i0 i1 95, al) k := by
  refine hk_mth hk_m81 rfl rfl (n := 1000) ?_
  refine c_within0 (fun (a : z < (-1) ∨ 11 < z) => ?_) (fun (p0 : ¬ z < (-1)) (q0 : ¬ 11 < z) => ?_)
  · refine And.intro (fun hc => absurd hc (by decide)) (fun _ => ?_)
    exact hb (fun q => a.elim q.1 q.2)
  refine And.intro (fun _ => ?_) (fun hc => absurd (by decide) hc)
  refine c_make95 hw hw2 (fun s2 h2 => ?_)
  exact c_at (fun x => hg ⟨p0, q0⟩ s2 x h2)
theorem c_plan35 (ha : al.contains 95 = false) (hw : hk_tw s 12 n) (hw2 : hk_TW s) (hb : k (some (.int (-2))) (s, lm, hk_RH i0 i1 35, al)) (h0 : hk_rg z (-1) 11 → ∀ x, k (some (.int x)) (s, lm, hk_RH i0 i1 35, al)) (hg : hk_rg z (-1) 11 → ∀ s2 x, hk_F29 s s2 → k (some (.int x)) (s2, hk_z lm 95 0, hk_RH i0 i1 95, al ++ [95])) : hk_Cl (d + 39) 81 [.ref 0, .int z] (s, lm, hk_RH i0 i1 35, al) k := by
  refine hk_mth hk_m81 rfl rfl (n := 1000) ?_
  refine c_within0 (fun (a : z < (-1) ∨ 11 < z) => ?_) (fun (p0 : ¬ z < (-1)) (q0 : ¬ 11 < z) => ?_)
  · refine And.intro (fun hc => absurd hc (by decide)) (fun _ => ?_)
    exact hb
  refine And.intro (fun _ => ?_) (fun hc => absurd (by decide) hc)
  refine c_make35 ha hw hw2 ?_ (fun s2 h2 => ?_)
  · exact c_at (fun x => h0 ⟨p0, q0⟩ x)
  · exact c_at (fun x => hg ⟨p0, q0⟩ s2 x h2)
/-! leaks -/
def hk_F36 (s s2 : Nat → Nat → Int32) : Prop := ∀ p q, p ≠ 36 → s2 p q = s p q
theorem hk_F36_TW {s s2 : Nat → Nat → Int32} (a : hk_F36 s s2) (h : hk_TW s) : hk_TW s2 := hk_TW_fr h (fun t q ht => a t q (by have := hk_tb35 ht; omega))
theorem hk_F36_u {s s2 : Nat → Nat → Int32} {q : Nat} {v : Int32} (a : hk_F36 s s2) : hk_F36 s (hk_u2 s2 36 q v) := fun p' q' h1 => by
  rw [hk_u2o (by omega)]
  exact a p' q' h1
/-! hands -/
def hk_F37 (s s2 : Nat → Nat → Int32) : Prop := ∀ p q, ¬ (37 ≤ p ∧ p ≤ 39) → s2 p q = s p q
theorem hk_F37_u {s s2 : Nat → Nat → Int32} {p q : Nat} {v : Int32} (a : hk_F37 s s2) (hp : 37 ≤ p ∧ p ≤ 39) : hk_F37 s (hk_u2 s2 p q v) := fun p' q' h1 => by
  rw [hk_u2o (by omega)]
  exact a p' q' h1
theorem hk_F37_tw {s s2 : Nat → Nat → Int32} {t : Nat} (a : hk_F37 s s2) (ht : hk_tb t) (h : hk_tw s t n) : hk_tw s2 t n := by
  have := hk_tb35 ht
  obtain ⟨a1, a2, a3, a4⟩ := h
  exact ⟨by rw [a _ _ (by omega)]; exact a1, by rw [a _ _ (by omega)]; exact a2, by rw [a _ _ (by omega)]; exact a3, a4⟩
end HKA6
