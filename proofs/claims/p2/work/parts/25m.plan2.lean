/-! ===== the plan with no ship told: made; the reference's ===== -/
section HKM1
variable {d t c n : Nat} {r v w x y z : Int32} {s : Nat → Nat → Int32} {lm : Nat → Nat → Int64} {rr : Nat → Nat → Nat} {i0 i1 b : Nat} {al : List Nat} {k : Option Value → hk_H → Prop} {hp : hk_H}
theorem hk_rB : hk_uR (hk_z (hk_RH 0 0 35) 95 0) 29 6 95 = hk_RH 0 0 95 := by
  funext p q
  match p with
  | 0 => rfl
  | 1 => rfl
  | 2 => rfl
  | 3 => rfl
  | 4 => rfl
  | 5 => rfl
  | 6 => rfl
  | 7 => rfl
  | 8 => rfl
  | 9 => rfl
  | 10 => rfl
  | 11 => rfl
  | 12 => rfl
  | 13 => rfl
  | 14 => rfl
  | 15 => rfl
  | 16 => rfl
  | 17 => rfl
  | 18 => rfl
  | 19 => rfl
  | 20 => rfl
  | 21 => rfl
  | 22 => rfl
  | 23 => rfl
  | 24 => rfl
  | 25 => rfl
  | 26 => rfl
  | 27 => rfl
  | 28 => rfl
  | 29 => match q with | 0 => rfl | 1 => rfl | 2 => rfl | 3 => rfl | 4 => rfl | 5 => rfl | 6 => rfl | q + 7 => rfl
  | 30 => rfl
  | 31 => rfl
  | 32 => rfl
  | 33 => rfl
  | 34 => rfl
  | 35 => rfl
  | 36 => rfl
  | 37 => rfl
  | 38 => rfl
  | 39 => rfl
  | 40 => rfl
  | 41 => rfl
  | 42 => rfl
  | 43 => rfl
  | 44 => rfl
  | 45 => rfl
  | 46 => rfl
  | 47 => rfl
  | 48 => rfl
  | 49 => rfl
  | 50 => rfl
  | p + 51 =>
    show (if p + 51 = 95 then (fun _ => 0) else hk_RH 0 0 35 (p + 51)) q = hk_RH 0 0 95 (p + 51) q
    by_cases h : p + 51 = 95
    · rw [if_pos h]
      rfl
    · rw [if_neg h]
      rfl
theorem hk_mkB {nx : hk_L → List Value → hk_H → Prop} {L : hk_L} {r : List Value} {v : Int32} (e : v = nI 100000) (ha : al.contains 95 = false) (P : nx L (.ref 95 :: r) (hk_z s 95 0, hk_z lm 95 0, hk_z rr 95 0, al ++ [95])) : (¬ v < 0 ∧ v.toNatClampNeg ≤ 200000) ∧ hk_mk hk_SH 95 100000 False nx L r (s, lm, rr, al) 2 v.toNatClampNeg := by
  subst e
  rw [nI_clamp (by omega)]
  refine ⟨⟨nI_pos (by omega), by omega⟩, ?_⟩
  unfold hk_mk hk_np
  simp only
  rw [ha]
  exact P
theorem c_sumUp0 (h : s 12 3 = 0) (h1 : k none (hk_u2 (hk_u2 (hk_u2 s 29 8 0) 29 9 0) 29 10 0, lm, hk_RH i0 i1 b, al)) : hk_Cl (d + 1) 97 [.ref 29, .int v] (s, lm, hk_RH i0 i1 b, al) k := by
  have a1 : (if (4 : Int32) < hk_u2 (hk_u2 (hk_u2 s 29 8 0) 29 9 0) 29 10 0 12 3 then 4 else hk_u2 (hk_u2 (hk_u2 s 29 8 0) 29 9 0) 29 10 0 12 3) ≤ 0 := by
    rw [hk_u2o (by omega), hk_u2o (by omega), hk_u2o (by omega), h]
    decide
  refine hk_mth hk_m97 rfl rfl (n := 1000) ?_
  refine hk_hd (n := 1000) (t := 32) rfl ?_
  refine And.intro (fun _ => ?_) (fun hc => absurd a1 hc)
  exact h1
/-- the plan is made: all 0 -/
def hk_mdF (s : Nat → Nat → Int32) : Prop := s 29 8 = 0 ∧ s 29 9 = 0 ∧ s 29 10 = 0 ∧ ∀ q, q < 10 → s 34 q = 0
theorem c_make0 (ha : al.contains 95 = false) (hm : s 29 11 = 0) (h12 : s 12 3 = 0) (hd : s 1 15 = 1) (hc : s 1 16 = 100) (h1 : ∀ s2, hk_mdF s2 → (∀ p q, p < 29 ∨ (34 < p ∧ p ≠ 95) → s2 p q = s p q) → k none (s2, hk_z lm 95 0, hk_RH 0 0 95, al ++ [95])) : hk_Cl (d + 27) 82 [.ref 29] (s, lm, hk_RH 0 0 35, al) k := by
  have loop : ∀ (g u : Nat) (s3 : Nat → Nat → Int32), u + g = 10 → hk_pjF s3 → (∀ q, q < u → s3 34 q = 0) → (∀ p q, p < 29 ∨ (34 < p ∧ p ≠ 95) → s3 p q = s p q) → hk_Rn (d + 26) none hk_c82 (hk_sfx 65 hk_c82) [some (.ref 29), some (.int 0), some (.int (nI u))] [] (s3, hk_z lm 95 0, hk_RH 0 0 95, al ++ [95]) k := by
    intro g
    induction g with
    | zero =>
      intro u s3 hu h2 h3 h4
      have e : u = 10 := by omega
      subst e
      refine hk_hd (n := 1000) (t := 65) rfl ?_
      refine And.intro (fun _ => ?_) (fun hc => absurd (show (10 : Int32) ≤ nI 10 by decide) hc)
      refine c_sumUp0 (by rw [h4 _ _ (by omega)]; exact h12) ?_
      refine h1 (hk_u2 (hk_u2 (hk_u2 s3 29 8 0) 29 9 0) 29 10 0) ⟨?_, ?_, ?_, fun q hq => ?_⟩ (fun p q hp => ?_)
      · rw [hk_u2o (by omega), hk_u2o (by omega), hk_u2s]
      · rw [hk_u2o (by omega), hk_u2s]
      · rw [hk_u2s]
      · rw [hk_u2o (by omega), hk_u2o (by omega), hk_u2o (by omega)]; exact h3 q hq
      · rw [hk_u2o (by omega), hk_u2o (by omega), hk_u2o (by omega)]; exact h4 p q hp
    | succ g ih =>
      intro u s3 hu h2 h3 h4
      have b1 : ¬ nI 10 ≤ nI u := hk_nlt (by omega) (by omega)
      refine hk_hd (n := 1000) (t := 65) rfl ?_
      refine And.intro (fun hc => absurd hc b1) (fun _ => ?_)
      refine c_least0 (d := d) (by omega) h2 (fun s4 h5 h6 => ?_)
      refine hk_stn (i := nI u) (j := u) (by simp only [hk_lit, pk_mul, nI_add]) (by omega) (by decide) (fun s5 (hs5 : s5 = hk_u2 s4 34 (u) 0) => ?_)
      have e34 : s5 34 u = 0 := by rw [hs5, hk_u2s]
      have e32 : s5 32 0 = 0 := by rw [hs5, hk_u2o (by omega)]; exact h5.1.2.2.2.1
      refine hk_ldi (i := nI u) (j := u) (by simp only [hk_lit, pk_mul, nI_add]) (by omega) (by decide) e34 ?_
      refine hk_ldi (i := nI 0) (j := 0) (by simp only [hk_lit, pk_mul, nI_add]) (by omega) (by decide) e32 ?_
      refine hk_Rn_cast (L2 := [some (.ref 29), some (.int 0), some (.int (nI (u + 1)))]) ?_ (ih (u + 1) s5 (by omega) ⟨hk_plF_u h5.1 (fun p q a1 a2 => by rw [hs5, hk_u2o (by omega)]), fun q hq => by rw [hs5, hk_u2o (by omega)]; exact h5.2 q hq⟩ (fun q hq => ?_) (fun p q hp => ?_))
      · show [some (Value.ref 29), some (.int (0 + 0)), some (.int (nI u + 1))] = _
        rw [nI_1]
        rfl
      · by_cases e : q = u
        · subst e; exact e34
        · rw [hs5, hk_u2o (by omega), h6 _ _ (by omega)]; exact h3 q (by omega)
      · rw [hs5, hk_u2o (by omega), h6 _ _ (by omega)]; exact h4 p q hp
  refine hk_mth hk_m82 rfl rfl (n := 1000) ?_
  refine And.intro (fun _ => ?_) (fun hc => absurd hm hc)
  refine And.intro (Or.inr rfl) ?_
  refine c_layOut0 (by rw [hk_u2o (by omega)]; exact h12) (by rw [hk_u2o (by omega)]; exact hd) (by rw [hk_u2o (by omega)]; exact hc) (fun s2 h2 h3 h4 => ?_)
  refine And.intro (fun hc => absurd hc (by decide)) (fun _ => ?_)
  refine hk_mkB rfl ha ?_
  refine hk_Cl_rr hk_rB ?_
  have ez : hk_z s2 95 0 29 7 = 1 := h2.1
  have e1 : (if (0 : Int32) < (if Int32.ofNat 100000 < 10 * hk_z s2 95 0 29 7 then Int32.ofNat 100000 else 10 * hk_z s2 95 0 29 7) then (if Int32.ofNat 100000 < 10 * hk_z s2 95 0 29 7 then Int32.ofNat 100000 else 10 * hk_z s2 95 0 29 7) else 0) = nI 10 := by
    rw [ez]
    decide
  have hz : ∀ p q, p ≠ 95 → hk_z s2 95 0 p q = s2 p q := fun p q hp => by
    unfold hk_z
    rw [if_neg hp]
  refine hk_Cl_arg (a2 := [.ref 95, .int 0, .int (nI 10), .int (-1)]) ?_ ?_
  · show [Value.ref 95, .int 0, .int (if (0 : Int32) < (if Int32.ofNat 100000 < 10 * hk_z s2 95 0 29 7 then Int32.ofNat 100000 else 10 * hk_z s2 95 0 29 7) then (if Int32.ofNat 100000 < 10 * hk_z s2 95 0 29 7 then Int32.ofNat 100000 else 10 * hk_z s2 95 0 29 7) else 0), .int (-1)] = _
    rw [e1]
  refine c_fill95 (m := 10) (by omega) (fun s4 h5 h6 => ?_)
  refine loop 10 0 s4 (by omega) ⟨hk_plF_u h2 (fun p q a1 a2 => by rw [h5 p q (by omega)]; exact hz p q a1), fun q hq => Or.inl (h6 q hq)⟩ (fun q hq => absurd hq (Nat.not_lt_zero q)) (fun p q hp => ?_)
  have h5' : s4 p q = hk_z s2 95 0 p q := h5 p q (by omega)
  have h3' : s2 p q = hk_u2 s 29 11 1 p q := h3 p q (by omega)
  rw [h5', hz p q (by omega), h3', hk_u2o (by omega)]
theorem c_at0 (h : hk_mdF s) (h1 : k (some (.int 0)) (s, lm, hk_RH i0 i1 b, al)) : hk_Cl (d + 1) 98 [.ref 29, .int z] (s, lm, hk_RH i0 i1 b, al) k := by
  have w1 : k (some (.int (s 29 9))) (s, lm, hk_RH i0 i1 b, al) := by rw [h.2.1]; exact h1
  have w2 : k (some (.int (s 29 10))) (s, lm, hk_RH i0 i1 b, al) := by rw [h.2.2.1]; exact h1
  have w3 : k (some (.int (s 29 8))) (s, lm, hk_RH i0 i1 b, al) := by rw [h.1]; exact h1
  refine hk_mth hk_m98 rfl rfl (n := 1000) ?_
  refine And.intro (fun c1 => ?_) (fun c1 => ?_)
  rotate_left
  · exact w1
  refine And.intro (fun c2 => ?_) (fun c2 => ?_)
  rotate_left
  · exact w2
  refine And.intro (fun c3 => ?_) (fun c3 => ?_)
  · exact w3
  refine And.intro (fun c4 => ?_) (fun c4 => ?_)
  · exact w3
  obtain ⟨j, hj, rfl⟩ := nI_of c3
  have c4 : ¬ nI 10 ≤ nI j := c4
  rw [nI_leI (by omega) hj] at c4
  refine hk_ldi (i := nI j) (j := j) (by simp only [hk_lit, pk_mul, nI_add]) (by omega) (by decide) (h.2.2.2 j (by omega)) ?_
  exact h1
theorem c_plan0 (ha : al.contains 95 = false) (hm : s 29 11 = 0) (h12 : s 12 3 = 0) (hd : s 1 15 = 1) (hc : s 1 16 = 100) (hb : ¬ hk_rg z (-1) 11 → k (some (.int (-2))) (s, lm, hk_RH 0 0 35, al)) (hg : hk_rg z (-1) 11 → ∀ s2, (∀ p q, p < 29 ∨ (34 < p ∧ p ≠ 95) → s2 p q = s p q) → k (some (.int 0)) (s2, hk_z lm 95 0, hk_RH 0 0 95, al ++ [95])) : hk_Cl (d + 28) 81 [.ref 0, .int z] (s, lm, hk_RH 0 0 35, al) k := by
  refine hk_mth hk_m81 rfl rfl (n := 1000) ?_
  refine c_within0 (fun (a : z < (-1) ∨ 11 < z) => ?_) (fun (p0 : ¬ z < (-1)) (q0 : ¬ 11 < z) => ?_)
  · refine And.intro (fun hc => absurd hc (by decide)) (fun _ => ?_)
    exact hb (fun q => a.elim q.1 q.2)
  refine And.intro (fun _ => ?_) (fun hc => absurd (by decide) hc)
  refine c_make0 (d := d) ha hm h12 hd hc (fun s2 h2 h3 => ?_)
  exact c_at0 h2 (hg ⟨p0, q0⟩ s2 h3)
/-- the reference -/
theorem m_findDocked0 {u : Nat} (h1 : ∀ s2, (∀ p q, p ≠ 50 → s2 p q = s p q) → (u = 0 → ∀ q, q < 4 → s2 50 q = 0) → k none (s2, lm, hk_RH i0 i1 b, al)) (hu : u < 2 ^ 31) : hk_Cl (d + 1) 197 [.ref 40, .int (nI u)] (s, lm, hk_RH i0 i1 b, al) k := by
  have loop : ∀ (g i a : Nat) (s3 : Nat → Nat → Int32), i + g = 4 → a < 2 ^ 31 → (u = 0 → a = 0) → (∀ p q, p ≠ 50 → s3 p q = s p q) → (u = 0 → ∀ q, q < i → s3 50 q = 0) → hk_Rn d none hk_c197 (hk_sfx 4 hk_c197) [some (.ref 40), some (.int (nI u)), some (.int (nI a)), some (.int (nI i))] [] (s3, lm, hk_RH i0 i1 b, al) k := by
    intro g
    induction g with
    | zero =>
      intro i a s3 hi ha ha0 h2 h3
      have e : i = 4 := by omega
      subst e
      refine hk_hd (n := 1000) (t := 4) rfl ?_
      refine And.intro (fun _ => ?_) (fun hc => absurd (show (4 : Int32) ≤ nI 4 by decide) hc)
      exact h1 s3 h2 h3
    | succ g ih =>
      intro i a s3 hi ha ha0 h2 h3
      have b1 : ¬ nI 4 ≤ nI i := hk_nlt (by omega) (by omega)
      have e1 : nI a - nI a / 11 * 11 = nI (a % 11) := pk_rem (d := 11) ha (by omega) (by omega)
      have e2 : nI a / 11 = nI (a / 11) := pk_div (d := 11) ha (by omega) (by omega)
      refine hk_hd (n := 1000) (t := 4) rfl ?_
      refine And.intro (fun hc => absurd hc b1) (fun _ => ?_)
      refine And.intro (by decide) ?_
      refine hk_stn (i := nI i) (j := i) (x := nI a - nI a / 11 * 11) rfl (by omega) (by decide) (fun s4 hs4 => ?_)
      rw [e1] at hs4
      have o4 : ∀ p q, ¬ (p = 50 ∧ q = i) → s4 p q = s3 p q := fun p q h => by rw [hs4, hk_u2o h]
      refine And.intro (by decide) ?_
      refine hk_Rn_cast (L2 := [some (.ref 40), some (.int (nI u)), some (.int (nI (a / 11))), some (.int (nI (i + 1)))]) ?_ (ih (i + 1) (a / 11) s4 (by omega) (by omega) (fun e => by rw [ha0 e]) (fun p q hp => by rw [o4 p q (fun h => hp h.1)]; exact h2 p q hp) (fun e q hq => ?_))
      · show [some (Value.ref 40), some (.int (nI u)), some (.int (nI a / 11)), some (.int (nI i + 1))] = _
        rw [e2, nI_1]
      · rw [hs4]
        by_cases eq : q = i
        · subst eq; rw [hk_u2s, ha0 e]; rfl
        · rw [hk_u2o (fun h => eq h.2)]; exact h3 e q (by omega)
  refine hk_mth hk_m197 rfl rfl (n := 1000) ?_
  exact loop 4 0 u s (by omega) hu id (fun _ _ _ => rfl) (fun _ q hq => absurd hq (Nat.not_lt_zero q))
theorem m_docksThen0 (h3 : s 41 3 = 0) (h10 : s 41 10 = 1) (h11 : s 41 11 = 100) {u : Nat} (hu : u < 20) {x : Int32} (h1 : k (some (.int x)) (s, lm, hk_RH i0 i1 b, al)) : hk_Cl (d + 2) 199 [.ref 40, .int x, .int (nI u), .int 0] (s, lm, hk_RH i0 i1 b, al) k := by
  have e1 : s 41 11 * (nI u + 1) = nI (100 * (u + 1)) := by
    rw [h11, nI_1]
    exact pk_mul 100 (u + 1)
  have b1 : (0 : Int32) ≤ 100 * (nI u + 1) := by
    rw [← h11, e1]
    exact nI_pos' (by omega)
  refine hk_mth hk_m199 rfl rfl (n := 1000) ?_
  refine m_size0 ?_
  refine hk_ldi (i := nI 10) (j := 10) (by simp only [hk_lit, pk_mul, nI_add]) (by omega) (by decide) h10 ?_
  refine And.intro (fun _ => ?_) (fun hc => absurd (by decide) hc)
  refine hk_ldi (i := nI 11) (j := 11) (by simp only [hk_lit, pk_mul, nI_add]) (by omega) (by decide) h11 ?_
  refine hk_hd (n := 1000) (t := 35) rfl ?_
  refine hk_ldi (i := nI 3) (j := 3) (by simp only [hk_lit, pk_mul, nI_add]) (by omega) (by decide) h3 ?_
  refine And.intro (fun _ => ?_) (fun hc => absurd (by decide) hc)
  refine And.intro (fun _ => ?_) (fun hc => absurd b1 hc)
  exact h1
theorem m_letGo0 (h3 : s 41 3 = 0) (h1 : k (some (.int 0)) (s, lm, hk_RH i0 i1 b, al)) : hk_Cl (d + 1) 204 [.ref 40] (s, lm, hk_RH i0 i1 b, al) k := by
  refine hk_mth hk_m204 rfl rfl (n := 1000) ?_
  refine hk_hd (n := 1000) (t := 4) rfl ?_
  refine hk_ldi (i := nI 3) (j := 3) (by simp only [hk_lit, pk_mul, nI_add]) (by omega) (by decide) h3 ?_
  refine And.intro (fun _ => ?_) (fun hc => absurd (by decide) hc)
  exact h1
end HKM1
