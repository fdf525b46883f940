/-! ===== the reference's months ===== -/
theorem hk_RI_7 {f : Nat → Int32} {a b r q : Nat} (h : hk_RI f a b r) (hq : q < 600) : hk_RI (fun j => if j = 7 then nI q else f j) a b r := by
  obtain ⟨p1, ⟨c0, c1, c2⟩, p3, p4, p5, p6, p7, p8, ⟨q1, q2, q3, q4⟩, ⟨q5, q6, q7⟩, ⟨q8, q9, q10⟩, ⟨q11, q12, q13, x6⟩, ⟨q14, q15, q16⟩, ⟨q17, q18, q19⟩⟩ := h
  have g1 : ∀ {j : Nat} {x : Int32}, f j = x → j ≠ 7 → (if j = 7 then nI q else f j) = x := fun e hj => (if_neg hj).trans e
  refine ⟨p1, ⟨g1 c0 (by omega), g1 c1 (by omega), g1 c2 (by omega)⟩, fun i hi => ?_, fun i hi => ?_, fun p hp => ?_, fun j hj => ?_, ⟨q, hq, if_pos rfl⟩, fun t ht => ?_, ⟨q1, q2, g1 q3 (by omega), fun i hi => ?_⟩, ⟨q5, q6, g1 q7 (by omega)⟩, ⟨q8, q9, g1 q10 (by omega)⟩, ⟨q11, q12, g1 q13 (by omega), hk_RZ_e x6 (fun j hj => if_neg (by omega))⟩, ⟨q14, q15, g1 q16 (by omega)⟩, ⟨q17, q18, g1 q19 (by omega)⟩⟩
  · dsimp only
    rw [if_neg (by omega)]
    exact p3 i hi
  · dsimp only
    rw [if_neg (by omega)]
    exact p4 i hi
  · dsimp only
    rw [if_neg (by omega), if_neg (by omega)]
    exact p5 p hp
  · dsimp only
    rw [if_neg (by omega), if_neg (by omega), if_neg (by omega)]
    exact p6 j hj
  · dsimp only
    rw [if_neg (by omega)]
    exact p8 t ht
  · dsimp only
    rw [if_neg (by omega), if_neg (by omega), if_neg (by omega)]
    exact q4 i hi
/-- a plate's thickness -/
theorem hk_RI_th {f : Nat → Int32} {a b r p : Nat} {v : Int32} (h : hk_RI f a b r) (hp : p < 96) : hk_RI (fun j => if j = 80 + 6 * p + 2 then v else f j) a b r := hk_RI_u h (by omega)
section HKB4
variable {d n a bb r : Nat} {v w x y z : Int32} {s : Nat → Nat → Int32} {lm : Nat → Nat → Int64} {i0 i1 b : Nat} {al : List Nat} {k : Option Value → hk_H → Prop}
set_option maxHeartbeats 400000 in
theorem m_goes_90 {q : Nat} (hq : q + 1 < 600) (h1 : ∀ s2 u, hk_gI s s2 a bb r (q + 1) → k (some (.int u)) (s2, lm, hk_RH i0 i1 b, al)) : ∀ (g j : Nat) (s3 : Nat → Nat → Int32) (e f : Int32) (l4 l5 : Option Value), j + g = a → hk_gI s s3 a bb r q → hk_Rn (d + 3) none hk_c151 (hk_sfx 90 hk_c151) [some (.ref 40), some (.int e), some (.int f), some (.int (nI j)), l4, l5] [] (s3, lm, hk_RH i0 i1 b, al) k := by
  intro g
  induction g with
  | zero =>
    intro j s3 e f l4 l5 hj hI
    have e1 : j = a := by omega
    subst e1
    have e7 : hk_u2 s3 41 7 (nI q + 1) = hk_u2 s3 41 7 (nI (q + 1)) := by rw [nI_1]
    have fin := h1 (hk_u2 s3 41 7 (nI (q + 1))) f ⟨hk_Gn_u hI.1 (by omega) (fun _ h7 => absurd rfl h7), by rw [hk_u2f]; exact hk_RI_7 hI.2.1 hq, hk_u2s⟩
    rw [← e7] at fin
    refine hk_hd (n := 1000) (t := 90) rfl ?_
    refine hk_ldi (i := nI 0) (j := 0) (by simp only [hk_lit, pk_mul, nI_add]) (by omega) (by decide) hI.2.1.2.1.1 ?_
    refine And.intro (fun _ => ?_) (fun hc => absurd (Int32.le_refl _) hc)
    refine hk_ldi (i := nI 7) (j := 7) (by simp only [hk_lit, pk_mul, nI_add]) (by omega) (by decide) hI.2.2 ?_
    refine hk_sti (i := nI 7) (j := 7) rfl (by omega) (by decide) ?_
    exact fin
  | succ g ih =>
    intro j s3 e f l4 l5 hj hI
    exact m_goes_ship hI (by omega) (by omega) (fun s4 e f v4 v5 h4 => ih (j + 1) s4 e f _ _ (by omega) h4) (ih (j + 1) s3 e f l4 l5 (by omega) hI)
set_option maxHeartbeats 400000 in
theorem m_goes_2 {q : Nat} (hq : q + 1 < 600) (h1 : ∀ s2 u, hk_gI s s2 a bb r (q + 1) → k (some (.int u)) (s2, lm, hk_RH i0 i1 b, al)) : ∀ (g j : Nat) (s3 : Nat → Nat → Int32) (lx : Option Value), j + g = bb → hk_gI s s3 a bb r q → hk_Rn (d + 3) none hk_c151 (hk_sfx 2 hk_c151) [some (.ref 40), some (.int (nI j)), lx, none, none, none] [] (s3, lm, hk_RH i0 i1 b, al) k := by
  intro g
  induction g with
  | zero =>
    intro j s3 lx hj hI
    have e1 : j = bb := by omega
    subst e1
    refine hk_hd (n := 1000) (t := 2) rfl ?_
    refine hk_ldi (i := nI 1) (j := 1) (by simp only [hk_lit, pk_mul, nI_add]) (by omega) (by decide) hI.2.1.2.1.2.1 ?_
    refine And.intro (fun _ => ?_) (fun hc => absurd (Int32.le_refl _) hc)
    refine hk_ldi (i := nI 9) (j := 9) (by simp only [hk_lit, pk_mul, nI_add]) (by omega) (by decide) rfl ?_
    exact m_goes_90 hq h1 a 0 s3 _ 0 none none (by omega) hI
  | succ g ih =>
    intro j s3 lx hj hI
    have hb := hI.2.1.1.2.1
    have ha := hI.2.1.1.1
    have a1 : ¬ nI bb ≤ nI j := hk_nlt (by omega) (by omega)
    obtain ⟨⟨i, hi, ei⟩, ⟨z, hz, ez⟩⟩ := hI.2.1.2.2.2.2.1 j (by omega)
    have ei' : s3 41 (80 + 6 * j + 0) = nI i := ei
    have nx : ∀ (s4 : Nat → Nat → Int32) (u v2 : Int32), s4 = hk_u2 s3 41 (80 + 6 * j + 2) u → hk_Rn (d + 3) none hk_c151 (hk_sfx 2 hk_c151) [some (.ref 40), some (.int (nI j + 1)), some (.int v2), none, none, none] [] (s4, lm, hk_RH i0 i1 b, al) k := fun s4 u v2 e4 => hk_Rn_cast (by rw [nI_1]) (ih (j + 1) s4 _ (by omega) (by rw [e4]; exact ⟨hk_Gn_u hI.1 (by omega) (fun _ _ => hk_nez (by omega)), by
      rw [hk_u2f]
      exact hk_RI_th hI.2.1 (by omega), by rw [hk_u2o (by omega)]; exact hI.2.2⟩))
    refine hk_hd (n := 1000) (t := 2) rfl ?_
    refine hk_ldi (i := nI 1) (j := 1) (by simp only [hk_lit, pk_mul, nI_add]) (by omega) (by decide) hI.2.1.2.1.2.1 ?_
    refine And.intro (fun hc => absurd hc a1) (fun _ => ?_)
    refine m_plateOf (c := 0) (by omega) ?_
    refine hk_Cl_arg (hk_v3 ei') ?_
    refine m_shipOf (c := 6) (by omega) ?_
    refine And.intro (fun c1 => ?_) (fun c1 => ?_)
    · exact hk_Rn_cast (by rw [← nI_1 j]; rfl) (ih (j + 1) s3 lx (by omega) hI)
    refine m_plateOf (c := 2) (by omega) ?_
    refine m_plateOf (c := 1) (by omega) ?_
    refine hk_ldi (i := 12 + s3 41 (80 + 6 * j + 1)) (j := 12 + z) (by rw [ez]; exact nI_add 12 z) (by omega) (by decide) rfl ?_
    refine And.intro (fun c2 => ?_) (fun c2 => ?_)
    · refine hk_stn (i := 80 + 6 * nI j + 2) (j := 80 + 6 * j + 2) (by simp only [hk_lit, pk_mul, nI_add]) (by omega) (by decide) (fun s4 (hs4 : s4 = hk_u2 s3 41 (80 + 6 * j + 2) (s3 41 (80 + 6 * j + 2) - s3 41 (12 + z))) => ?_)
      exact nx s4 _ (s3 41 (80 + 6 * j + 2) - s3 41 (12 + z)) hs4
    · refine hk_stn (i := 80 + 6 * nI j + 2) (j := 80 + 6 * j + 2) (by simp only [hk_lit, pk_mul, nI_add]) (by omega) (by decide) (fun s4 (hs4 : s4 = hk_u2 s3 41 (80 + 6 * j + 2) 0) => ?_)
      exact nx s4 _ (s3 41 (80 + 6 * j + 2) - s3 41 (12 + z)) hs4
theorem m_goes {q : Nat} (h : hk_RI (s 41) a bb r) (hq : s 41 7 = nI q) (hq2 : q + 1 < 600) (h1 : ∀ s2 u, hk_Gn s s2 → hk_RI (s2 41) a bb r → s2 41 7 = nI (q + 1) → k (some (.int u)) (s2, lm, hk_RH i0 i1 b, al)) : hk_Cl (d + 4) 151 [.ref 40] (s, lm, hk_RH i0 i1 b, al) k := by
  refine hk_mth hk_m151 rfl rfl (n := 1000) ?_
  exact m_goes_2 hq2 (fun s2 u h => h1 s2 u h.1 h.2.1 h.2.2) bb 0 s none (by omega) ⟨hk_Gn_r s, h, hq⟩
theorem m_months {q : Nat} (h : hk_RI (s 41) a bb r) (hq : s 41 7 = nI q) (hq2 : q < 600) (hb : ¬ (hk_rg v 1 60 ∧ ¬ 599 < s 41 7 + v) → k (some (.int (-2))) (s, lm, hk_RH i0 i1 b, al)) (hg : hk_rg v 1 60 ∧ ¬ 599 < s 41 7 + v → ∀ s2 u, hk_Gn s s2 → hk_RI (s2 41) a bb r → s2 41 7 = s 41 7 + v → k (some (.int u)) (s2, lm, hk_RH i0 i1 b, al)) : hk_Cl (d + 5) 149 [.ref 40, .int v] (s, lm, hk_RH i0 i1 b, al) k := by
  refine hk_mth hk_m149 rfl rfl (n := 1000) ?_
  refine m_isAhead (fun a => ?_) (fun a1 => ?_)
  · refine And.intro (fun hc => absurd hc (by decide)) (fun _ => ?_)
    exact hb a
  refine And.intro (fun _ => ?_) (fun hc => absurd (by decide) hc)
  have hg2 := hg a1
  clear hg
  obtain ⟨m, hm, rfl⟩ := hk_rg1 (m := 60) (by decide) a1.1
  have hqm : q + m ≤ 599 := by
    have h := a1.2
    rw [hq, nI_add] at h
    have h : ¬ nI 599 < nI (q + m) := h
    rw [nI_ltI (by omega) (by omega)] at h
    omega
  have loop : ∀ (g j : Nat) (s3 : Nat → Nat → Int32) (e : Int32), j + g = m → hk_Gn s s3 → hk_RI (s3 41) a bb r → s3 41 7 = nI (q + j) → hk_Rn (d + 4) none hk_c149 (hk_sfx 15 hk_c149) [some (.ref 40), some (.int (nI m)), some (.int e), some (.int (nI j))] [] (s3, lm, hk_RH i0 i1 b, al) k := by
    intro g
    induction g with
    | zero =>
      intro j s3 e hj hg h3 h7
      have e1 : j = m := by omega
      subst e1
      refine hk_hd (n := 1000) (t := 15) rfl ?_
      refine And.intro (fun _ => ?_) (fun hc => absurd (Int32.le_refl _) hc)
      exact hg2 s3 _ hg h3 (by rw [h7, hq, nI_add])
    | succ g ih =>
      intro j s3 e hj hg h3 h7
      have b1 : ¬ nI m ≤ nI j := hk_nlt (by omega) (by omega)
      refine hk_hd (n := 1000) (t := 15) rfl ?_
      refine And.intro (fun hc => absurd hc b1) (fun _ => ?_)
      refine m_goes h3 h7 (by omega) (fun s4 u g4 h4 h74 => ?_)
      exact hk_Rn_cast (by rw [← nI_1 j]; rfl) (ih (j + 1) s4 _ (by omega) (hk_Gn_t hg g4) h4 h74)
  exact loop m 0 s 0 (by omega) (hk_Gn_r s) h hq
end HKB4
