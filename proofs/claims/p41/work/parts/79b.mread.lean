/-! ===== the reference reads ships and plates; about, plateAt agree ===== -/
theorem hk_mx0_p {v : Int32} (h : 0 < v) : hk_mx0 v = v := by
  unfold hk_mx0
  rw [if_pos h]
theorem hk_mx0_n {v : Int32} (h : ¬ 0 < v) : hk_mx0 v = 0 := by
  unfold hk_mx0
  rw [if_neg h]
theorem hk_mx0_N (m : Nat) (h : m < 2 ^ 31) : hk_mx0 (nI m) = nI m := by
  by_cases h0 : 0 < m
  · exact hk_mx0_p (nI_lt (a := 0) h0 h)
  · have : m = 0 := by omega
    subst this
    rfl
theorem hk_lkS_e {f T T2 : Nat → Int32} {v : Int32} : ∀ n, (∀ p, p < n → T p = T2 p) → hk_lkS f T v n = hk_lkS f T2 v n
  | 0, _ => rfl
  | n + 1, h => by rw [hk_lkS, hk_lkS, hk_lkS_e n (fun p hp => h p (by omega)), h n (by omega)]
theorem hk_rg_N {w : Int32} {c m : Nat} (e : w = nI c) (hc : c ≤ m) (hm : m < 2 ^ 31 := by decide) : hk_rg w 0 (nI m) := by
  subst e
  refine ⟨nI_pos (by omega), fun q => ?_⟩
  rw [nI_ltI (by omega) (by omega)] at q
  omega
section HKEI
variable {d n a bb r : Nat} {v w x y z : Int32} {s : Nat → Nat → Int32} {lm : Nat → Nat → Int64} {i0 i1 b : Nat} {al : List Nat} {k : Option Value → hk_H → Prop} {f : Nat → Int32}
theorem m_leakX {i : Nat} (hi : i < 96) (h1 : k (some (.int (hk_lkT (s 41) (s 41 (80 + 6 * i + 2)) i))) (s, lm, hk_RH i0 i1 b, al)) : hk_Cl (d + 2) 153 [.ref 40, .int (nI i)] (s, lm, hk_RH i0 i1 b, al) k := by
  unfold hk_lkT at h1
  refine hk_mth hk_m153 rfl rfl (n := 1000) ?_
  refine hk_ldi (i := nI 8) (j := 8) (by simp only [hk_lit, pk_mul, nI_add]) (by omega) (by decide) rfl ?_
  refine m_plateOf (c := 2) (by omega) ?_
  refine And.intro (fun c1 => ?_) (fun c1 => ?_)
  · have c1 : s 41 8 - s 41 (80 + 6 * i + 2) ≤ 0 := c1
    rw [hk_mx0_n (Int32.not_lt.mpr c1)] at h1
    have h1 : k (some (.int (if s 41 (80 + 6 * i + 1) = 0 then 0 else if s 41 (80 + 6 * i + 1) = 2 then 0 else 0))) (s, lm, hk_RH i0 i1 b, al) := h1
    rw [ite_self, ite_self] at h1
    exact h1
  have c1 : ¬ s 41 8 - s 41 (80 + 6 * i + 2) ≤ 0 := c1
  rw [hk_mx0_p (Int32.not_le.mp c1)] at h1
  refine m_plateOf (c := 1) (by omega) ?_
  refine And.intro (fun c2 => ?_) (fun c2 => ?_)
  · have c2 : ¬ s 41 (80 + 6 * i + 1) = 0 := c2
    rw [if_neg c2] at h1
    refine m_plateOf (c := 1) (by omega) ?_
    refine And.intro (fun c3 => ?_) (fun c3 => ?_)
    · have c3 : ¬ s 41 (80 + 6 * i + 1) = 2 := c3
      rw [if_neg c3] at h1
      exact h1
    · have c3 : ¬ ¬ s 41 (80 + 6 * i + 1) = 2 := c3
      rw [if_pos (Classical.not_not.mp c3)] at h1
      exact h1
  · have c2 : ¬ ¬ s 41 (80 + 6 * i + 1) = 0 := c2
    rw [if_pos (Classical.not_not.mp c2)] at h1
    exact h1
theorem m_leaksX2 (hb : s 41 1 = nI bb) (hb2 : bb ≤ 96) (h1 : k (some (.int (hk_lkS (s 41) (fun p => s 41 (80 + 6 * p + 2)) v bb))) (s, lm, hk_RH i0 i1 b, al)) : hk_Cl (d + 3) 152 [.ref 40, .int v] (s, lm, hk_RH i0 i1 b, al) k := by
  have loop : ∀ (q j : Nat), j + q = bb → hk_Rn (d + 2) none hk_c152 (hk_sfx 4 hk_c152) [some (.ref 40), some (.int v), some (.int (hk_lkS (s 41) (fun p => s 41 (80 + 6 * p + 2)) v j)), some (.int (nI j))] [] (s, lm, hk_RH i0 i1 b, al) k := by
    intro q
    induction q with
    | zero =>
      intro j hj
      have e1 : j = bb := by omega
      subst e1
      refine hk_hd (n := 1000) (t := 4) rfl ?_
      refine hk_ldi (i := nI 1) (j := 1) (by simp only [hk_lit, pk_mul, nI_add]) (by omega) (by decide) hb ?_
      refine And.intro (fun _ => ?_) (fun hc => absurd (Int32.le_refl _) hc)
      exact h1
    | succ q ih =>
      intro j hj
      have a1 : ¬ nI bb ≤ nI j := hk_nlt (by omega) (by omega)
      refine hk_hd (n := 1000) (t := 4) rfl ?_
      refine hk_ldi (i := nI 1) (j := 1) (by simp only [hk_lit, pk_mul, nI_add]) (by omega) (by decide) hb ?_
      refine And.intro (fun hc => absurd hc a1) (fun _ => ?_)
      refine m_plateOf (c := 0) (by omega) ?_
      refine And.intro (fun c1 => ?_) (fun c1 => ?_)
      · have c1 : ¬ s 41 (80 + 6 * j) = v := c1
        refine hk_Rn_cast ?_ (ih (j + 1) (by omega))
        rw [hk_lkS, if_neg c1, ← nI_1 j]
        show [some (Value.ref 40), some (.int v), some (.int (hk_lkS (s 41) (fun p => s 41 (80 + 6 * p + 2)) v j + 0)), some (.int (nI j + 1))] = _
        rw [Int32.add_zero]
      have c1 : ¬ ¬ s 41 (80 + 6 * j) = v := c1
      refine m_leakX (by omega) ?_
      refine hk_Rn_cast ?_ (ih (j + 1) (by omega))
      rw [hk_lkS, if_pos (Classical.not_not.mp c1), ← nI_1 j]
      rfl
  refine hk_mth hk_m152 rfl rfl (n := 1000) ?_
  exact loop bb 0 (by omega)
theorem m_liesX {i m : Nat} (hi : i < 6) (hA : s 41 (20 + 10 * i) = nI m) (hm1 : 1 ≤ m) (hm2 : m ≤ 1000) (h1 : k (some (.int (hk_lsV (s 41) i (s 41 (20 + 10 * i + 5))))) (s, lm, hk_RH i0 i1 b, al)) : hk_Cl (d + 2) 154 [.ref 40, .int (nI i)] (s, lm, hk_RH i0 i1 b, al) k := by
  have c0 : ¬ s 41 (20 + 10 * i) = 0 := by
    rw [hA]
    intro e
    have e : nI m = nI 0 := e
    rw [nI_eq (by omega) (by omega)] at e
    omega
  refine hk_mth hk_m154 rfl rfl (n := 1000) ?_
  refine m_shipOf (c := 2) (by omega) ?_
  refine m_shipOf (c := 5) (by omega) ?_
  refine m_shipOf (c := 4) (by omega) ?_
  refine m_shipOf (c := 0) (by omega) ?_
  refine And.intro c0 ?_
  exact h1
theorem m_platesOfX (hb : s 41 1 = nI bb) (hb2 : bb ≤ 96) (h1 : k (some (.int (hk_poS (s 41) v bb))) (s, lm, hk_RH i0 i1 b, al)) : hk_Cl (d + 2) 157 [.ref 40, .int v] (s, lm, hk_RH i0 i1 b, al) k := by
  have loop : ∀ (q j : Nat), j + q = bb → hk_Rn (d + 1) none hk_c157 (hk_sfx 4 hk_c157) [some (.ref 40), some (.int v), some (.int (hk_poS (s 41) v j)), some (.int (nI j))] [] (s, lm, hk_RH i0 i1 b, al) k := by
    intro q
    induction q with
    | zero =>
      intro j hj
      have e1 : j = bb := by omega
      subst e1
      refine hk_hd (n := 1000) (t := 4) rfl ?_
      refine hk_ldi (i := nI 1) (j := 1) (by simp only [hk_lit, pk_mul, nI_add]) (by omega) (by decide) hb ?_
      refine And.intro (fun _ => ?_) (fun hc => absurd (Int32.le_refl _) hc)
      exact h1
    | succ q ih =>
      intro j hj
      have a1 : ¬ nI bb ≤ nI j := hk_nlt (by omega) (by omega)
      refine hk_hd (n := 1000) (t := 4) rfl ?_
      refine hk_ldi (i := nI 1) (j := 1) (by simp only [hk_lit, pk_mul, nI_add]) (by omega) (by decide) hb ?_
      refine And.intro (fun hc => absurd hc a1) (fun _ => ?_)
      refine m_plateOf (c := 0) (by omega) ?_
      refine And.intro (fun c1 => ?_) (fun c1 => ?_)
      · have c1 : ¬ s 41 (80 + 6 * j) = v := c1
        refine hk_Rn_cast ?_ (ih (j + 1) (by omega))
        rw [hk_poS, if_neg c1, ← nI_1 j]
        show [some (Value.ref 40), some (.int v), some (.int (hk_poS (s 41) v j + 0)), some (.int (nI j + 1))] = _
        rw [Int32.add_zero]
      · have c1 : ¬ ¬ s 41 (80 + 6 * j) = v := c1
        refine hk_Rn_cast ?_ (ih (j + 1) (by omega))
        rw [hk_poS, if_pos (Classical.not_not.mp c1), ← nI_1 j]
        rfl
  refine hk_mth hk_m157 rfl rfl (n := 1000) ?_
  exact loop bb 0 (by omega)
theorem m_firstStuffX (hb : s 41 1 = nI bb) (hb2 : bb ≤ 96) {i : Nat} (hi : i < 6) (h1 : k (some (.int (hk_fsV (s 41) i bb))) (s, lm, hk_RH i0 i1 b, al)) : hk_Cl (d + 2) 158 [.ref 40, .int (nI i)] (s, lm, hk_RH i0 i1 b, al) k := by
  unfold hk_fsV at h1
  refine hk_mth hk_m158 rfl rfl (n := 1000) ?_
  refine m_shipOf (c := 7) (by omega) ?_
  refine And.intro (fun c0 => ?_) (fun c0 => ?_)
  rotate_left
  · have c0 : ¬ ¬ s 41 (20 + 10 * i + 7) = 0 := c0
    rw [if_pos (Classical.not_not.mp c0)] at h1
    exact h1
  have c0 : ¬ s 41 (20 + 10 * i + 7) = 0 := c0
  rw [if_neg c0] at h1
  have loop : ∀ (q j : Nat), j + q = bb → hk_Rn (d + 1) none hk_c158 (hk_sfx 16 hk_c158) [some (.ref 40), some (.int (nI i)), some (.int (hk_fsS (s 41) (nI i) j)), some (.int (nI j))] [] (s, lm, hk_RH i0 i1 b, al) k := by
    intro q
    induction q with
    | zero =>
      intro j hj
      have e1 : j = bb := by omega
      subst e1
      refine hk_hd (n := 1000) (t := 16) rfl ?_
      refine hk_ldi (i := nI 1) (j := 1) (by simp only [hk_lit, pk_mul, nI_add]) (by omega) (by decide) hb ?_
      refine And.intro (fun _ => ?_) (fun hc => absurd (Int32.le_refl _) hc)
      refine m_shipOf (c := 7) (by omega) ?_
      refine And.intro c0 ?_
      exact h1
    | succ q ih =>
      intro j hj
      have a1 : ¬ nI bb ≤ nI j := hk_nlt (by omega) (by omega)
      have nx : ¬ (s 41 (80 + 6 * j) = nI i ∧ s 41 (80 + 6 * j + 5) = 1) → hk_Rn (d + 1) none hk_c158 (hk_sfx 16 hk_c158) [some (.ref 40), some (.int (nI i)), some (.int (hk_fsS (s 41) (nI i) j + 0)), some (.int (nI j + 1))] [] (s, lm, hk_RH i0 i1 b, al) k := fun c => by
        have := ih (j + 1) (by omega)
        rw [hk_fsS, if_neg c, ← nI_1] at this
        rw [Int32.add_zero]
        exact this
      refine hk_hd (n := 1000) (t := 16) rfl ?_
      refine hk_ldi (i := nI 1) (j := 1) (by simp only [hk_lit, pk_mul, nI_add]) (by omega) (by decide) hb ?_
      refine And.intro (fun hc => absurd hc a1) (fun _ => ?_)
      refine m_plateOf (c := 0) (by omega) ?_
      refine And.intro (fun c1 => ?_) (fun c1 => ?_)
      · have c1 : ¬ s 41 (80 + 6 * j) = nI i := c1
        exact nx (fun q => c1 q.1)
      have c1 : ¬ ¬ s 41 (80 + 6 * j) = nI i := c1
      refine m_plateOf (c := 5) (by omega) ?_
      refine And.intro (fun c2 => ?_) (fun c2 => ?_)
      · have c2 : ¬ s 41 (80 + 6 * j + 5) = 1 := c2
        exact nx (fun q => c2 q.2)
      have c2 : ¬ ¬ s 41 (80 + 6 * j + 5) = 1 := c2
      refine m_plateOf (c := 3) (by omega) ?_
      refine hk_Rn_cast ?_ (ih (j + 1) (by omega))
      rw [hk_fsS, if_pos ⟨Classical.not_not.mp c1, Classical.not_not.mp c2⟩, ← nI_1 j]
      rfl
  exact loop bb 0 (by omega)
theorem m_shipToldX (h : hk_RI (s 41) a bb r) {i : Nat} (hi : i < a) (h1 : k (some (.int (hk_toV (s 41) i bb v))) (s, lm, hk_RH i0 i1 b, al)) : hk_Cl (d + 4) 156 [.ref 40, .int (nI i), .int v] (s, lm, hk_RH i0 i1 b, al) k := by
  have ha := h.1.1
  have hb := h.1.2.1
  have eb := h.2.1.2.1
  obtain ⟨⟨m, hm1, hm2, hA⟩, _, ml, hml, hl⟩ := (hk_RI_P h).2.1 a h.1.1 h.2.1.1 i hi
  have e5 : hk_lkS (s 41) (fun p => hk_thk (s 41) p 0) (nI i) bb = hk_lkS (s 41) (fun p => s 41 (80 + 6 * p + 2)) (nI i) bb := hk_lkS_e bb (fun p hp => by
    obtain ⟨⟨t, ht, et⟩, _⟩ := (hk_RI_P h).2.2 bb hb eb p hp
    show hk_mx0 (s 41 (80 + 6 * p + 2) - 0 * hk_wrP (s 41) p) = s 41 (80 + 6 * p + 2)
    rw [Int32.zero_mul, Int32.sub_zero, et, hk_mx0_N t (by omega)])
  unfold hk_toV at h1
  refine hk_mth hk_m156 rfl rfl (n := 1000) ?_
  refine And.intro (fun c0 => ?_) (fun c0 => ?_)
  · have c0 : v = 0 := c0
    rw [if_pos c0] at h1
    exact m_shipOf (c := 5) (by omega) h1
  have c0 : ¬ v = 0 := c0
  rw [if_neg c0] at h1
  refine And.intro (fun c1 => ?_) (fun c1 => ?_)
  · have c1 : v = 1 := c1
    rw [if_pos c1] at h1
    exact m_liesX (by omega) hA hm1 hm2 h1
  have c1 : ¬ v = 1 := c1
  rw [if_neg c1] at h1
  refine And.intro (fun c2 => ?_) (fun c2 => ?_)
  · have c2 : v = 2 := c2
    rw [if_pos c2] at h1
    exact m_shipOf (c := 6) (by omega) h1
  have c2 : ¬ v = 2 := c2
  rw [if_neg c2] at h1
  refine And.intro (fun c3 => ?_) (fun c3 => ?_)
  · have c3 : v = 3 := c3
    rw [if_pos c3] at h1
    exact m_platesOfX eb hb h1
  have c3 : ¬ v = 3 := c3
  rw [if_neg c3] at h1
  refine And.intro (fun c4 => ?_) (fun c4 => ?_)
  · have c4 : v = 4 := c4
    rw [if_pos c4] at h1
    exact m_firstStuffX eb hb (by omega) h1
  have c4 : ¬ v = 4 := c4
  rw [if_neg c4] at h1
  refine And.intro (fun c5 => ?_) (fun c5 => ?_)
  · have c5 : v = 5 := c5
    rw [if_pos c5, e5] at h1
    exact m_leaksX2 eb hb h1
  have c5 : ¬ v = 5 := c5
  rw [if_neg c5] at h1
  exact m_shipOf (c := 8) (by omega) h1
theorem m_aboutX (h : hk_RI (s 41) a bb r) (hb : (∀ i, v = nI i → i < a → ¬ hk_rg w 0 6) → k (some (.int (-2))) (s, lm, hk_RH i0 i1 b, al)) (hg : ∀ i, v = nI i → i < a → hk_rg w 0 6 → k (some (.int (hk_toV (s 41) i bb w))) (s, lm, hk_RH i0 i1 b, al)) : hk_Cl (d + 5) 155 [.ref 40, .int v, .int w] (s, lm, hk_RH i0 i1 b, al) k := by
  have ha := h.1.1
  refine hk_mth hk_m155 rfl rfl (n := 1000) ?_
  refine m_is (c := 0) (by omega) h.2.1.1 (by omega) (fun i e hi => ?_) (fun a0 => ?_)
  rotate_left
  · refine And.intro (fun _ => ?_) (fun hc => absurd (by decide) hc)
    refine hb (fun i e hi => ?_)
    subst e
    rw [nI_leI (by omega) (by omega)] at a0
    exact absurd a0 (fun q => q.elim (nI_pos (by omega)) (fun q => by omega))
  refine And.intro (fun hc => absurd hc (by decide)) (fun _ => ?_)
  refine m_in (fun p q => ?_) (fun a => ?_)
  rotate_left
  · refine And.intro (fun _ => ?_) (fun hc => absurd (by decide) hc)
    exact hb (fun i e hi q => a.elim q.1 q.2)
  refine And.intro (fun hc => absurd hc (by decide)) (fun _ => ?_)
  subst e
  exact m_shipToldX h hi (hg i rfl hi ⟨p, q⟩)
theorem m_plateAtX (h : hk_RI (s 41) a bb r) (hb : (∀ i, v = nI i → i < bb → ¬ hk_rg w 0 5) → k (some (.int (-10000))) (s, lm, hk_RH i0 i1 b, al)) (hg : ∀ i c, v = nI i → i < bb → w = nI c → c < 6 → k (some (.int (s 41 (80 + 6 * i + c)))) (s, lm, hk_RH i0 i1 b, al)) : hk_Cl (d + 5) 159 [.ref 40, .int v, .int w] (s, lm, hk_RH i0 i1 b, al) k := by
  have ha := h.1.2.1
  refine hk_mth hk_m159 rfl rfl (n := 1000) ?_
  refine m_is (c := 1) (by omega) h.2.1.2.1 (by omega) (fun i e hi => ?_) (fun a0 => ?_)
  rotate_left
  · refine And.intro (fun _ => ?_) (fun hc => absurd (by decide) hc)
    refine hb (fun i e hi => ?_)
    subst e
    rw [nI_leI (by omega) (by omega)] at a0
    exact absurd a0 (fun q => q.elim (nI_pos (by omega)) (fun q => by omega))
  refine And.intro (fun hc => absurd hc (by decide)) (fun _ => ?_)
  refine m_in (fun p q => ?_) (fun a => ?_)
  rotate_left
  · refine And.intro (fun _ => ?_) (fun hc => absurd (by decide) hc)
    exact hb (fun i e hi q => a.elim q.1 q.2)
  refine And.intro (fun hc => absurd hc (by decide)) (fun _ => ?_)
  subst e
  obtain ⟨c, hc, rfl⟩ := hk_rng (n := 5) (by decide) p q
  refine m_plateOf (by omega) ?_
  exact hg i c rfl hi rfl (by omega)
theorem q_aboutE : hk_SI 38 155 [.int v, .int w] True := by
  rintro h ⟨s, lm, i0, i1, b, al, rfl, hc, hi⟩
  obtain ⟨a, bb, r, hr⟩ := hi.2.2.1
  refine c_aboutX (d := 994) hi.1 hi.2.1 hr (fun hb => ⟨_, rfl, m_aboutX (d := 995) hr (fun _ => ⟨_, rfl, fun _ => rfl, hk_Inv_mk hc hi⟩) (fun i e hi2 hg => absurd hg (hb i e hi2))⟩) (fun i e hi2 hg => ⟨_, rfl, m_aboutX (d := 995) hr (fun hb => absurd hg (hb i e hi2)) (fun j e2 hj _ => ⟨_, rfl, fun _ => ?_, hk_Inv_mk hc hi⟩)⟩)
  have ha := hr.1.1
  have := hk_same e e2 (by omega) (by omega)
  subst this
  rfl
theorem q_plateAtE : hk_SI 41 159 [.int v, .int w] True := by
  rintro h ⟨s, lm, i0, i1, b, al, rfl, hc, hi⟩
  obtain ⟨a, bb, r, hr⟩ := hi.2.2.1
  refine c_plateAtX (d := 998) hi.1 hi.2.1 hr (fun hb => ⟨_, rfl, m_plateAtX (d := 995) hr (fun _ => ⟨_, rfl, fun _ => rfl, hk_Inv_mk hc hi⟩) (fun i c e hi2 ew hc2 => absurd (hk_rg_N (m := 5) ew (by omega)) (hb i e hi2))⟩) (fun i c e hi2 ew hc2 => ⟨_, rfl, m_plateAtX (d := 995) hr (fun hb => absurd (hk_rg_N (m := 5) ew (by omega)) (hb i e hi2)) (fun j c2 e2 hj ew2 hc3 => ⟨_, rfl, fun _ => ?_, hk_Inv_mk hc hi⟩)⟩)
  have ha := hr.1.2.1
  have e3 := hk_same e e2 (by omega) (by omega)
  have e4 := hk_same ew ew2 (by omega) (by omega)
  subst e3 e4
  rfl
end HKEI
