/-! ===== the worst storm: what it comes to ===== -/
theorem hk_mnx_o {f : Nat → Int32} {a bb q : Nat} (ha : a ≤ 6) (hb : bb ≤ 96) (h7 : q ≠ 7) (h : ¬ (20 ≤ q ∧ q < 80 ∧ (q % 10 = 5 ∨ q % 10 = 6)) ∧ ¬ (80 ≤ q ∧ q < 656 ∧ q % 6 = 4)) : hk_mnx f a bb q = f q := by
  unfold hk_mnx
  rw [hk_ud_o h7, hk_mrw_o ha hb h]
theorem hk_mns_o {f : Nat → Int32} {a bb q : Nat} (ha : a ≤ 6) (hb : bb ≤ 96) (h7 : q ≠ 7) (h : ¬ (20 ≤ q ∧ q < 80 ∧ (q % 10 = 5 ∨ q % 10 = 6)) ∧ ¬ (80 ≤ q ∧ q < 656 ∧ q % 6 = 4)) : ∀ i, hk_mns f a bb i q = f q
  | 0 => rfl
  | i + 1 => (hk_mnx_o ha hb h7 h).trans (hk_mns_o ha hb h7 h i)
/-- a sea more in a month -/
def hk_fxs (f : Nat → Int32) (v : Int32) (j : Nat) : Nat → Int32 := hk_ud f (1848 + j) (f (1848 + j) + v)
theorem hk_RI_fx {f : Nat → Int32} {a b r j : Nat} {v : Int32} (h : hk_RI f a b r) : hk_RI (hk_fxs f v j) a b r := hk_RI_u h (by omega)
/-- plates of a ship that floats wear on alike -/
theorem hk_mns_T {f : Nat → Int32} {a bb r n c : Nat} (h : hk_RI f a bb r) (h7 : f 7 = nI n) (hc : c < a) : ∀ i, n + i < 600 → i ≤ 60 → hk_mns f a bb i (20 + 10 * c + 6) = 0 → ∀ p, p < bb → f (80 + 6 * p) = nI c → hk_mns f a bb i (80 + 6 * p + 2) = hk_thk f p (nI i)
  | 0, _, _, _, p, hp, e => by
    obtain ⟨⟨t, ht, et⟩, _⟩ := (hk_RI_P h).2.2 bb h.1.2.1 h.2.1.2.1 p hp
    obtain ⟨w, hw, ew⟩ := hk_wrP_N h hp
    show f (80 + 6 * p + 2) = _
    rw [hk_thk_N et ht ew hw (by omega), et, show t - 0 * w = t by omega]
  | i + 1, hi, hi2, hf, p, hp, e => by
    have ha := h.1.1
    have hb := h.1.2.1
    obtain ⟨g1, g2⟩ := hk_RI_mns h h7 i (by omega)
    obtain ⟨⟨t, ht, et⟩, _⟩ := (hk_RI_P h).2.2 bb hb h.2.1.2.1 p hp
    obtain ⟨w, hw, ew⟩ := hk_wrP_N h hp
    obtain ⟨_, z, hz3, ez⟩ := h.2.2.2.2.1 p hp
    have hf2 : hk_mrw (hk_mns f a bb i) bb a a (20 + 10 * c + 6) = 0 := by
      have : hk_mnx (hk_mns f a bb i) a bb (20 + 10 * c + 6) = 0 := hf
      unfold hk_mnx at this
      rw [hk_ud_o (by omega)] at this
      exact this
    have hf3 : hk_mns f a bb i (20 + 10 * c + 6) = 0 := by
      rcases hk_mrw_cs (f := hk_mns f a bb i) (t := a) hb c (by omega) a ha with q | q
      · rw [← q]
        exact hf2
      · exact absurd (q.symm.trans hf2) (by decide)
    have ih := hk_mns_T h h7 hc i (by omega) (by omega) hf3 p hp e
    have es : hk_mns f a bb i (80 + 6 * p) = nI c := (hk_mns_o ha hb (by omega) (by omega) i).trans e
    have ewm : hk_wrP (hk_mns f a bb i) p = nI w := (hk_wrP_c ez hz3 (hk_mns_o ha hb (by omega) (by omega) i) (fun z hz => hk_mns_o ha hb (by omega) (by omega) i)).trans ew
    have hk : i * w ≤ 60 * 50 := Nat.mul_le_mul (by omega) hw
    show hk_mnx (hk_mns f a bb i) a bb (80 + 6 * p + 2) = _
    unfold hk_mnx
    rw [hk_ud_o (by omega), hk_mrw_t ha hp (by rw [es, hk_flo_lt (by omega) a (by omega)]; exact ⟨hc, hf3⟩)]
    rw [hk_thk_N et ht ew hw (by omega)] at ih ⊢
    rw [show (1 : Int32) = nI 1 from rfl, hk_thk_N ih (by omega) ewm hw (by omega), Nat.add_mul, Nat.one_mul, Nat.sub_sub]
/-- so its leaks are known ahead -/
theorem hk_mns_L {f : Nat → Int32} {a bb r n c i : Nat} (h : hk_RI f a bb r) (h7 : f 7 = nI n) (hc : c < a) (hi : n + i < 600) (hi2 : i < 60) (hf : hk_mns f a bb i (20 + 10 * c + 6) = 0) : hk_lkS (hk_mns f a bb i) (fun p => hk_thk (hk_mns f a bb i) p 1) (nI c) bb = hk_lkS f (fun p => hk_thk f p (nI (i + 1))) (nI c) bb := by
  have ha := h.1.1
  have hb := h.1.2.1
  refine hk_lkS_c bb (fun p hp => hk_mns_o ha hb (by omega) (by omega) i) (fun p hp e => hk_lkT_c (hk_mns_o ha hb (by omega) (by omega) i) (hk_mns_o ha hb (by omega) (by omega) i) ?_)
  obtain ⟨⟨t, ht, et⟩, _⟩ := (hk_RI_P h).2.2 bb hb h.2.1.2.1 p hp
  obtain ⟨w, hw, ew⟩ := hk_wrP_N h hp
  obtain ⟨_, z, hz3, ez⟩ := h.2.2.2.2.1 p hp
  have ih := hk_mns_T h h7 hc i hi (by omega) hf p hp e
  have ewm : hk_wrP (hk_mns f a bb i) p = nI w := (hk_wrP_c ez hz3 (hk_mns_o ha hb (by omega) (by omega) i) (fun z hz => hk_mns_o ha hb (by omega) (by omega) i)).trans ew
  have hk : i * w ≤ 60 * 50 := Nat.mul_le_mul (by omega) hw
  rw [hk_thk_N et ht ew hw (by omega)] at ih
  rw [hk_thk_N et ht ew hw (by omega), show (1 : Int32) = nI 1 from rfl, hk_thk_N ih (by omega) ewm hw (by omega), Nat.add_mul, Nat.one_mul, Nat.sub_sub]
theorem hk_fxs_L {f : Nat → Int32} {bb r a j : Nat} {v m w : Int32} (h : hk_RI f a bb r) : hk_lkS (hk_fxs f v j) (fun p => hk_thk (hk_fxs f v j) p m) w bb = hk_lkS f (fun p => hk_thk f p m) w bb := by
  have hb := h.1.2.1
  refine hk_lkS_c bb (fun p hp => hk_ud_o (by omega)) (fun p hp e => hk_lkT_c (hk_ud_o (by omega)) (hk_ud_o (by omega)) ?_)
  obtain ⟨_, z, hz3, ez⟩ := h.2.2.2.2.1 p hp
  exact hk_thk_c ez hz3 (hk_ud_o (by omega)) (hk_ud_o (by omega)) (fun z hz => hk_ud_o (by omega))
theorem hk_skc_le {f : Nat → Int32} {bb : Nat} : ∀ i, hk_skc f bb i ≤ i
  | 0 => Nat.le_refl _
  | i + 1 => by
    have := hk_skc_le (f := f) (bb := bb) i
    rw [hk_skc]
    split <;> omega
theorem hk_sks_le {f : Nat → Int32} {a bb : Nat} (ha : a ≤ 6) : ∀ i, hk_sks f a bb i ≤ 6 * i
  | 0 => Nat.le_refl _
  | i + 1 => by
    have h1 := hk_sks_le (f := f) (bb := bb) ha i
    have h2 := hk_skc_le (f := hk_mns f a bb i) (bb := bb) a
    rw [hk_sks]
    omega
/-- the worst of the first i months, and how many sink -/
def hk_wbs (S : Nat → Nat) (q : Nat) : Nat → Nat × Nat
  | 0 => (q, 0)
  | i + 1 => if (hk_wbs S q i).2 < S i then (q + i, S i) else hk_wbs S q i
noncomputable def hk_wS (f : Nat → Int32) (a bb : Nat) (v : Int32) (q m i : Nat) : Nat := hk_sks (hk_fxs f v (q + i)) a bb m
theorem hk_wbs_1 {S : Nat → Nat} {q : Nat} : hk_wbs S q 1 = (q, S 0) := by
  rw [hk_wbs, hk_wbs]
  by_cases h : 0 < S 0
  · rw [if_pos h]
    rfl
  · rw [if_neg h]
    have : S 0 = 0 := by omega
    rw [this]
theorem hk_wbs_le {S : Nat → Nat} {q N : Nat} (h : ∀ i, S i ≤ N) : ∀ i, (hk_wbs S q i).2 ≤ N ∧ (hk_wbs S q i).1 ≤ q + i
  | 0 => ⟨Nat.zero_le _, Nat.le_refl _⟩
  | i + 1 => by
    have ih := hk_wbs_le (q := q) h i
    rw [hk_wbs]
    split
    · exact ⟨h i, by show q + i ≤ _; omega⟩
    · exact ⟨ih.1, by omega⟩
section HKEP
variable {d n a bb r : Nat} {v w x y z : Int32} {s : Nat → Nat → Int32} {lm : Nat → Nat → Int64} {i0 i1 b : Nat} {al : List Nat} {k : Option Value → hk_H → Prop} {f g : Nat → Int32}
theorem hk_Rel_25 {s s2 : Nat → Nat → Int32} (hR : hk_Rel s 1 f) (e : hk_F25 s s2) : hk_Rel s2 1 f := hk_Rel_f hR (fun p q hp => e p q (by omega))
set_option maxHeartbeats 400000 in
theorem c_spassX (hS : hk_tw s 2 a) (hR : hk_Rel s 1 f) (h : hk_RI f a bb r) {i : Nat} (hi : i < 60) (eo : ∀ c t, c < a → t < 5 → g (20 + 10 * c + t) = f (20 + 10 * c + t)) (e9 : g 9 = f 9) (ew : w = hk_sea g) (hL : ∀ c, c < a → g (20 + 10 * c + 6) = 0 → s 26 (i * 6 + c) = hk_lkS g (fun p => hk_thk g p 1) (nI c) bb) (hW : ∀ c, c < a → s 27 c = g (20 + 10 * c + 5)) (hK : ∀ c, c < a → s 28 c = g (20 + 10 * c + 6)) (h1 : ∀ s2, (∀ p q, p ≠ 27 → p ≠ 28 → s2 p q = s p q) → (∀ c, c < a → s2 27 c = hk_mnx g a bb (20 + 10 * c + 5)) → (∀ c, c < a → s2 28 c = hk_mnx g a bb (20 + 10 * c + 6)) → k (some (.int (nI (hk_skc g bb a)))) (s2, lm, hk_RH i0 i1 b, al)) : hk_Cl (d + 4) 122 [.ref 25, .ref 1, .int (nI i), .int w] (s, lm, hk_RH i0 i1 b, al) k := by
  have ha : a ≤ 6 := hS.2.2.2
  have hb := h.1.2.1
  have em : (if (6 : Int32) < s 2 3 then 6 else s 2 3) = nI a := by rw [hS.2.2.1]; exact hk_minI (m := 6) ha (by omega)
  have e14 : s 1 14 = hk_wlf g bb 0 := (hR 0 14 9 (hk_lp6 (by omega) (by omega) (by omega))).trans e9.symm
  have loop : ∀ (q j : Nat) (s3 : Nat → Nat → Int32) (l8 l9 : Option Value), j + q = a → (∀ p q, p ≠ 27 → p ≠ 28 → s3 p q = s p q) → (∀ c, c < a → s3 27 c = hk_mrw g bb a j (20 + 10 * c + 5)) → (∀ c, c < a → s3 28 c = hk_mrw g bb a j (20 + 10 * c + 6)) → hk_Rn (d + 3) none hk_c122 (hk_sfx 26 hk_c122) [some (.ref 25), some (.ref 1), some (.int (nI i)), some (.int w), some (.int (hk_wlf g bb j)), some (.int (nI (hk_skc g bb j))), some (.int (nI a)), some (.int (nI j)), l8, l9] [] (s3, lm, hk_RH i0 i1 b, al) k := by
    intro q
    induction q with
    | zero =>
      intro j s3 l8 l9 hj h3 h27 h28
      have ej : j = a := by omega
      subst ej
      refine hk_hd (n := 1000) (t := 26) rfl ?_
      refine And.intro (fun _ => ?_) (fun hc => absurd (Int32.le_refl _) hc)
      refine h1 s3 h3 (fun c hc => ?_) (fun c hc => ?_)
      · unfold hk_mnx
        rw [hk_ud_o (by omega)]
        exact h27 c hc
      · unfold hk_mnx
        rw [hk_ud_o (by omega)]
        exact h28 c hc
    | succ q ih =>
      intro j s3 l8 l9 hj h3 h27 h28
      have a1 : ¬ nI a ≤ nI j := hk_nlt (by omega) (by omega)
      have o : ∀ c, c < 9 → hk_mrw g bb a j (20 + 10 * j + c) = g (20 + 10 * j + c) := fun c hc => hk_mrw_s (by omega) hc (Nat.le_refl _)
      have hS3 : hk_tw s3 2 a := hk_tw_f hS (fun q => h3 2 q (by omega) (by omega))
      have hR3 : hk_Rel s3 1 f := hk_Rel_f hR (fun p q hp => h3 p q (by omega) (by omega))
      have e5 : s3 27 j = g (20 + 10 * j + 5) := (h27 j (by omega)).trans (o 5 (by omega))
      have e6 : s3 28 j = g (20 + 10 * j + 6) := (h28 j (by omega)).trans (o 6 (by omega))
      refine hk_hd (n := 1000) (t := 26) rfl ?_
      refine And.intro (fun hc => absurd hc a1) (fun _ => ?_)
      refine hk_ldi (i := nI j) (j := j) (by simp only [hk_lit, pk_mul, nI_add]) (by omega) (by decide) e6 ?_
      refine And.intro (fun c1 => ?_) (fun c1 => ?_)
      · have c1 : ¬ g (20 + 10 * j + 6) = 0 := c1
        refine hk_Rn_cast ?_ (ih (j + 1) s3 l8 l9 (by omega) h3 (by rw [hk_mrw_A1 c1]; exact h27) (by rw [hk_mrw_A1 c1]; exact h28))
        rw [hk_wlf, if_neg c1, hk_skc, if_neg (fun e => c1 e.1), ← nI_1]
        rfl
      have c1 : ¬ ¬ g (20 + 10 * j + 6) = 0 := c1
      have hf := Classical.not_not.mp c1
      have eL : s3 26 (i * 6 + j) = hk_lkS g (fun p => hk_thk g p 1) (nI j) bb := (h3 26 _ (by omega) (by omega)).trans (hL j (by omega) hf)
      obtain ⟨⟨m, hm1, hm2, hA⟩, _, _⟩ := (hk_RI_P h).2.1 a ha h.2.1.1 j (by omega)
      have el : ∀ v, hk_lsV f j v = hk_lsV g j v := fun v => (hk_lsV_c (eo j 0 (by omega) (by omega)) (eo j 2 (by omega) (by omega)) (eo j 4 (by omega) (by omega))).symm
      refine hk_ldi (i := nI j) (j := j) (by simp only [hk_lit, pk_mul, nI_add]) (by omega) (by decide) e5 ?_
      refine hk_ldi (i := nI i * 6 + nI j) (j := i * 6 + j) (by simp only [hk_lit, pk_mul, nI_add]) (by omega) (by decide) eL ?_
      rw [ew]
      refine c_pumpedX (v := hk_wat g bb j) hS3 hR3 (by omega) ?_
      rw [← eo j 3 (by omega) (by omega)]
      refine hk_stn (i := nI j) (j := j) (by simp only [hk_lit, pk_mul, nI_add]) (by omega) (by decide) (fun s4 (hs4 : s4 = hk_u2 s3 27 (j) (hk_wnw g bb j)) => ?_)
      have h4 : ∀ p q, p ≠ 27 → p ≠ 28 → s4 p q = s p q := fun p q c1 c2 => by rw [hs4, hk_u2o (by omega)]; exact h3 p q c1 c2
      have h427 : ∀ c, c < a → s4 27 c = hk_ud (hk_mrw g bb a j) (20 + 10 * j + 5) (hk_wnw g bb j) (20 + 10 * c + 5) := fun c hc => by
        rw [hs4]
        by_cases e : c = j
        · rw [e, hk_u2s, hk_ud_s]
        · rw [hk_u2o (by omega), hk_ud_o (by omega)]
          exact h27 c hc
      have h428 : ∀ c, c < a → s4 28 c = hk_ud (hk_mrw g bb a j) (20 + 10 * j + 5) (hk_wnw g bb j) (20 + 10 * c + 6) := fun c hc => by
        rw [hs4, hk_u2o (by omega), hk_ud_o (by omega)]
        exact h28 c hc
      have e4j : s4 27 j = hk_wnw g bb j := by rw [hs4, hk_u2s]
      refine hk_ldi (i := nI j) (j := j) (by simp only [hk_lit, pk_mul, nI_add]) (by omega) (by decide) e4j ?_
      refine c_sinksX (v := hk_wnw g bb j) (hk_tw_f hS (fun q => h4 2 q (by omega) (by omega))) (hk_Rel_f hR (fun p q hp => h4 p q (by omega) (by omega))) (by omega) hA hm1 hm2 (fun hs => ?_) (fun hs => ?_)
      · rw [el, ← eo j 1 (by omega) (by omega)] at hs
        refine And.intro (fun hc => absurd hc (show ¬ (1 : Int32) = 0 by decide)) (fun _ => ?_)
        refine hk_stn (i := nI j) (j := j) (by simp only [hk_lit, pk_mul, nI_add]) (by omega) (by decide) (fun s5 (hs5 : s5 = hk_u2 s4 28 (j) 1) => ?_)
        refine hk_Rn_cast ?_ (ih (j + 1) s5 (some (.int (hk_wat g bb j))) (some (.int (hk_tkn g bb j (hk_wlf g bb j)))) (by omega) (fun p q c1 c2 => by rw [hs5, hk_u2o (by omega)]; exact h4 p q c1 c2) (fun c hc => ?_) (fun c hc => ?_))
        · rw [hk_wlf, if_pos hf, hk_skc, if_pos ⟨hf, hs⟩, ← nI_1 j, ← nI_1 (hk_skc g bb j), ew]
          rfl
        · rw [hk_mrw_A3 hf hs, hk_ud_o (by omega), hs5, hk_u2o (by omega)]
          exact h427 c hc
        · rw [hk_mrw_A3 hf hs, hs5]
          by_cases e : c = j
          · rw [e, hk_u2s, hk_ud_s]
          · rw [hk_u2o (by omega), hk_ud_o (by omega)]
            exact h428 c hc
      · rw [el, ← eo j 1 (by omega) (by omega)] at hs
        refine And.intro (fun _ => ?_) (fun hc => absurd rfl hc)
        refine hk_Rn_cast ?_ (ih (j + 1) s4 (some (.int (hk_wat g bb j))) (some (.int (hk_tkn g bb j (hk_wlf g bb j)))) (by omega) h4 (by rw [hk_mrw_A2 hf hs]; exact h427) (by rw [hk_mrw_A2 hf hs]; exact h428))
        rw [hk_wlf, if_pos hf, hk_skc, if_neg (fun e => hs e.2), ← nI_1, ew]
        rfl
  refine hk_mth hk_m122 rfl rfl (n := 1000) ?_
  refine hk_Rn_cast (L2 := [some (.ref 25), some (.ref 1), some (.int (nI i)), some (.int w), some (.int (hk_wlf g bb 0)), some (.int (nI (hk_skc g bb 0))), some (.int (nI a)), some (.int (nI 0)), none, none]) ?_ (loop a 0 s none none (by omega) (fun _ _ _ _ => rfl) (fun c hc => (hW c hc).trans (hk_mrw_s (by omega) (by omega) (by omega)).symm) (fun c hc => (hK c hc).trans (hk_mrw_s (by omega) (by omega) (by omega)).symm))
  show [some (Value.ref 25), some (.ref 1), some (.int (nI i)), some (.int w), some (.int (s 1 14)), some (.int 0), some (.int (if (6 : Int32) < s 2 3 then 6 else s 2 3)), some (.int 0), none, none] = _
  rw [em, e14]
  rfl
set_option maxHeartbeats 1000000 in
theorem c_sinkWX {m q : Nat} (hS : hk_tw s 2 a) (hR : hk_Rel s 1 f) (h : hk_RI f a bb r) (hq : f 7 = nI q) (hm : m ≤ 60) (hqm : q + m < 600) {st : Nat} (hst : st < m) (hL : ∀ i c, i < m → c < a → s 26 (i * 6 + c) = hk_lkS f (fun p => hk_thk f p (nI (i + 1))) (nI c) bb) (h1 : ∀ s2, (∀ p q, p ≠ 27 → p ≠ 28 → s2 p q = s p q) → k (some (.int (nI (hk_wS f a bb v q m st)))) (s2, lm, hk_RH i0 i1 b, al)) : hk_Cl (d + 5) 121 [.ref 25, .ref 1, .int v, .int (nI st), .int (nI m)] (s, lm, hk_RH i0 i1 b, al) k := by
  have ha : a ≤ 6 := hS.2.2.2
  have hb := h.1.2.1
  have hx : hk_RI (hk_fxs f v (q + st)) a bb r := hk_RI_fx h
  have hxq : hk_fxs f v (q + st) 7 = nI q := (hk_ud_o (by omega)).trans hq
  have e7 : s 1 12 = nI q := (hR 0 12 7 (hk_lp6 (by omega) (by omega) (by omega))).trans hq
  have loop2 : ∀ (g j : Nat) (s2 : Nat → Nat → Int32) (l7 l8 : Option Value), j + g = m → (∀ p q, p ≠ 27 → p ≠ 28 → s2 p q = s p q) → (∀ c, c < a → s2 27 c = hk_mns (hk_fxs f v (q + st)) a bb j (20 + 10 * c + 5)) → (∀ c, c < a → s2 28 c = hk_mns (hk_fxs f v (q + st)) a bb j (20 + 10 * c + 6)) → hk_Rn (d + 4) none hk_c121 (hk_sfx 57 hk_c121) [some (.ref 25), some (.ref 1), some (.int v), some (.int (nI st)), some (.int (nI m)), some (.int (nI (hk_sks (hk_fxs f v (q + st)) a bb j))), some (.int (nI j)), l7, l8] [] (s2, lm, hk_RH i0 i1 b, al) k := by
    intro g
    induction g with
    | zero =>
      intro j s2 l7 l8 hj h2 _ _
      have e : j = m := by omega
      subst e
      refine hk_hd (n := 1000) (t := 57) rfl ?_
      refine And.intro (fun _ => ?_) (fun hc => absurd (Int32.le_refl _) hc)
      exact h1 s2 h2
    | succ g ih =>
      intro j s2 l7 l8 hj h2 h27 h28
      have a1 : ¬ nI m ≤ nI j := hk_nlt (by omega) (by omega)
      have e12 : s2 1 12 + nI j = nI (q + j) := by rw [h2 1 12 (by omega) (by omega), e7, nI_add]
      obtain ⟨g1, g2⟩ := hk_RI_mns hx hxq j (by omega)
      have eseas : s2 21 (q + j) = f (1848 + (q + j)) := (h2 21 _ (by omega) (by omega)).trans (hR 20 (q + j) _ (hk_lp8 (by omega) rfl))
      have esea : hk_sea (hk_mns (hk_fxs f v (q + st)) a bb j) = hk_fxs f v (q + st) (1848 + (q + j)) := by
        unfold hk_sea
        rw [g2, nI_clamp (by omega), hk_mns_o ha hb (by omega) (by omega)]
      have b1 : hk_tw s2 2 a := hk_tw_f hS (fun q => h2 2 q (by omega) (by omega))
      have b2 : hk_Rel s2 1 f := hk_Rel_f hR (fun p q hp => h2 p q (by omega) (by omega))
      have b3 : ∀ c t, c < a → t < 5 → hk_mns (hk_fxs f v (q + st)) a bb j (20 + 10 * c + t) = f (20 + 10 * c + t) := fun c t hc ht => (hk_mns_o ha hb (by omega) (by omega) j).trans (hk_ud_o (by omega))
      have b4 : hk_mns (hk_fxs f v (q + st)) a bb j 9 = f 9 := (hk_mns_o ha hb (by omega) (by omega) j).trans (hk_ud_o (by omega))
      have b5 : ∀ c, c < a → hk_mns (hk_fxs f v (q + st)) a bb j (20 + 10 * c + 6) = 0 → s2 26 (j * 6 + c) = hk_lkS (hk_mns (hk_fxs f v (q + st)) a bb j) (fun p => hk_thk (hk_mns (hk_fxs f v (q + st)) a bb j) p 1) (nI c) bb := fun c hc hf => by
        rw [h2 26 _ (by omega) (by omega), hL j c (by omega) hc, hk_mns_L hx hxq hc (by omega) (by omega) hf, hk_fxs_L h]
      have nx : ∀ (s3 : Nat → Nat → Int32) (v7 v8 : Int32), (∀ p q, p ≠ 27 → p ≠ 28 → s3 p q = s2 p q) → (∀ c, c < a → s3 27 c = hk_mnx (hk_mns (hk_fxs f v (q + st)) a bb j) a bb (20 + 10 * c + 5)) → (∀ c, c < a → s3 28 c = hk_mnx (hk_mns (hk_fxs f v (q + st)) a bb j) a bb (20 + 10 * c + 6)) → hk_Rn (d + 4) none hk_c121 (hk_sfx 57 hk_c121) [some (.ref 25), some (.ref 1), some (.int v), some (.int (nI st)), some (.int (nI m)), some (.int (nI (hk_sks (hk_fxs f v (q + st)) a bb j) + nI (hk_skc (hk_mns (hk_fxs f v (q + st)) a bb j) bb a))), some (.int (nI j + 1)), some (.int v7), some (.int v8)] [] (s3, lm, hk_RH i0 i1 b, al) k := fun s3 v7 v8 h3 h327 h328 => by
        refine hk_Rn_cast ?_ (ih (j + 1) s3 (some (.int v7)) (some (.int v8)) (by omega) (fun p q c1 c2 => (h3 p q c1 c2).trans (h2 p q c1 c2)) h327 h328)
        rw [hk_sks, nI_add, nI_1]
      refine hk_hd (n := 1000) (t := 57) rfl ?_
      refine And.intro (fun hc => absurd hc a1) (fun _ => ?_)
      refine And.intro (fun hc => absurd hc (show ¬ s2 1 12 + nI j < 0 by rw [e12]; exact nI_pos (by omega))) (fun _ => ?_)
      refine And.intro (fun hc => absurd hc (show ¬ nI 600 ≤ s2 1 12 + nI j by rw [e12]; exact hk_nlt (by omega) (by omega))) (fun _ => ?_)
      refine hk_ldi (i := s2 1 12 + nI j) (j := q + j) e12 (by omega) (by decide) eseas ?_
      refine And.intro (fun c3 => ?_) (fun c3 => ?_)
      · have c3 : ¬ nI j = nI st := c3
        have e3 : ¬ j = st := fun e => c3 (by rw [e])
        refine c_spassX (g := hk_mns (hk_fxs f v (q + st)) a bb j) (s := s2) b1 b2 h (by omega) b3 b4 ?_ b5 h27 h28 (fun s3 h3 h327 h328 => nx s3 _ _ h3 h327 h328)
        rw [esea]
        exact (hk_ud_o (by omega)).symm
      · have c3 : ¬ ¬ nI j = nI st := c3
        have e3 : j = st := (nI_eq (by omega) (by omega)).mp (Classical.not_not.mp c3)
        refine c_spassX (g := hk_mns (hk_fxs f v (q + st)) a bb j) (s := s2) b1 b2 h (by omega) b3 b4 ?_ b5 h27 h28 (fun s3 h3 h327 h328 => nx s3 _ _ h3 h327 h328)
        rw [esea, e3]
        exact hk_ud_s.symm
  have loop1 : ∀ (g j : Nat) (s2 : Nat → Nat → Int32), j + g = 6 → (∀ p q, p ≠ 27 → p ≠ 28 → s2 p q = s p q) → (∀ c, c < a → c < j → s2 27 c = f (20 + 10 * c + 5)) → (∀ c, c < a → c < j → s2 28 c = f (20 + 10 * c + 6)) → hk_Rn (d + 4) none hk_c121 (hk_sfx 3 hk_c121) [some (.ref 25), some (.ref 1), some (.int v), some (.int (nI st)), some (.int (nI m)), some (.int (nI j)), none, none, none] [] (s2, lm, hk_RH i0 i1 b, al) k := by
    intro g
    induction g with
    | zero =>
      intro j s2 hj h2 h27 h28
      have e : j = 6 := by omega
      subst e
      refine hk_hd (n := 1000) (t := 3) rfl ?_
      refine And.intro (fun _ => ?_) (fun hc => absurd (show (6 : Int32) ≤ nI 6 by decide) hc)
      exact loop2 m 0 s2 none none (by omega) h2 (fun c hc => (h27 c hc (by omega)).trans (hk_ud_o (by omega)).symm) (fun c hc => (h28 c hc (by omega)).trans (hk_ud_o (by omega)).symm)
    | succ g ih =>
      intro j s2 hj h2 h27 h28
      have a1 : ¬ nI 6 ≤ nI j := hk_nlt (by omega) (by omega)
      have hS2 : hk_tw s2 2 a := hk_tw_f hS (fun q => h2 2 q (by omega) (by omega))
      have hR2 : hk_Rel s2 1 f := hk_Rel_f hR (fun p q hp => h2 p q (by omega) (by omega))
      have two : ∀ (u1 u2 : Int32) (s4 : Nat → Nat → Int32), (j < a → u1 = f (20 + 10 * j + 5)) → (j < a → u2 = f (20 + 10 * j + 6)) → s4 = hk_u2 (hk_u2 s2 27 j u1) 28 j u2 → hk_Rn (d + 4) none hk_c121 (hk_sfx 3 hk_c121) [some (.ref 25), some (.ref 1), some (.int v), some (.int (nI st)), some (.int (nI m)), some (.int (nI j + 1)), none, none, none] [] (s4, lm, hk_RH i0 i1 b, al) k := fun u1 u2 s4 e1 e2 e4 => by
        refine hk_Rn_cast (by rw [nI_1]) (ih (j + 1) s4 (by omega) (fun p q c1 c2 => by rw [e4, hk_u2o (by omega), hk_u2o (by omega)]; exact h2 p q c1 c2) (fun c hc hcj => ?_) (fun c hc hcj => ?_))
        · rw [e4, hk_u2o (by omega)]
          by_cases e : c = j
          · rw [e, hk_u2s]
            exact e1 (by omega)
          · rw [hk_u2o (by omega)]
            exact h27 c hc (by omega)
        · rw [e4]
          by_cases e : c = j
          · rw [e, hk_u2s]
            exact e2 (by omega)
          · rw [hk_u2o (by omega), hk_u2o (by omega)]
            exact h28 c hc (by omega)
      refine hk_hd (n := 1000) (t := 3) rfl ?_
      refine And.intro (fun hc => absurd hc a1) (fun _ => ?_)
      by_cases cj : j < a
      · refine c_gS (c := 5) hS2 hR2 cj (by omega) ?_
        refine hk_stn (i := nI j) (j := j) (by simp only [hk_lit, pk_mul, nI_add]) (by omega) (by decide) (fun s3 (hs3 : s3 = hk_u2 s2 27 (j) (f (20 + 10 * j + 5))) => ?_)
        refine c_gS (c := 6) (s := s3) (by rw [hs3]; exact hk_tw_f hS2 (fun q => hk_u2o (by omega))) (by rw [hs3]; exact hk_Rel_f hR2 (fun p q hp => hk_u2o (by omega))) cj (by omega) ?_
        refine hk_stn (i := nI j) (j := j) (by simp only [hk_lit, pk_mul, nI_add]) (by omega) (by decide) (fun s4 (hs4 : s4 = hk_u2 s3 28 (j) (f (20 + 10 * j + 6))) => ?_)
        exact two _ _ s4 (fun _ => rfl) (fun _ => rfl) (by rw [hs4, hs3])
      · have ho : nI j < 0 ∨ s2 2 3 ≤ nI j := Or.inr (by rw [hS2.2.2.1]; exact nI_le (by omega) (by omega))
        refine c_get_out (by simp [hk_tb]) ho ?_
        refine hk_stn (i := nI j) (j := j) (by simp only [hk_lit, pk_mul, nI_add]) (by omega) (by decide) (fun s3 (hs3 : s3 = hk_u2 s2 27 (j) 0) => ?_)
        have e23 : s3 2 3 = s2 2 3 := by rw [hs3]; exact hk_u2o (by omega)
        refine c_get_out (s := s3) (t := 2) (by simp [hk_tb]) (by rw [e23]; exact ho) ?_
        refine hk_stn (i := nI j) (j := j) (by simp only [hk_lit, pk_mul, nI_add]) (by omega) (by decide) (fun s4 (hs4 : s4 = hk_u2 s3 28 (j) 0) => ?_)
        exact two _ _ s4 (fun q => absurd q cj) (fun q => absurd q cj) (by rw [hs4, hs3])
  refine hk_mth hk_m121 rfl rfl (n := 1000) ?_
  exact loop1 6 0 s (by omega) (fun _ _ _ _ => rfl) (fun c _ q => absurd q (Nat.not_lt_zero c)) (fun c _ q => absurd q (Nat.not_lt_zero c))
set_option maxHeartbeats 1000000 in
theorem c_seekX {m q : Nat} (hS : hk_tw s 2 a) (hP : hk_tw s 4 bb) (hR : hk_Rel s 1 f) (h : hk_RI f a bb r) (hq : f 7 = nI q) (hm : m ≤ 60) (hqm : q + m < 600) (h1 : ∀ s2, hk_F25 s s2 → s2 25 3 = nI (hk_wbs (hk_wS f a bb v q m) q m).1 → s2 25 4 = nI (hk_wbs (hk_wS f a bb v q m) q m).2 → k none (s2, lm, hk_RH i0 i1 b, al)) : hk_Cl (d + 6) 120 [.ref 25, .ref 1, .int v, .int (nI m)] (s, lm, hk_RH i0 i1 b, al) k := by
  have ha : a ≤ 6 := hS.2.2.2
  have hb := h.1.2.1
  have em : (if (60 : Int32) < nI m then 60 else nI m) = nI m := hk_minI (m := 60) hm (by omega)
  have ez : (if (6 : Int32) < s 2 3 then 6 else s 2 3) = nI a := by rw [hS.2.2.1]; exact hk_minI (m := 6) ha (by omega)
  have hz : ∀ p, p < bb → ∃ z, z < 3 ∧ f (80 + 6 * p + 1) = nI z := fun p hp => (h.2.2.2.2.1 p hp).2
  have e12 : ∀ s2, hk_F25 s s2 → s2 1 12 = nI q := fun s2 h2 => (h2 1 12 (by omega)).trans ((hR 0 12 7 (hk_lp6 (by omega) (by omega) (by omega))).trans hq)
  have hwS : ∀ i, hk_wS f a bb v q m i ≤ 360 := fun i => by
    have := hk_sks_le (f := hk_fxs f v (q + i)) (bb := bb) ha m
    unfold hk_wS
    omega
  have l93 : ∀ (g j : Nat) (s2 : Nat → Nat → Int32) (l7 : Option Value), j + g = m → hk_F25 s s2 → (∀ i c, i < m → c < a → s2 26 (i * 6 + c) = hk_lkS f (fun p => hk_thk f p (nI (i + 1))) (nI c) bb) → s2 25 3 = nI (hk_wbs (hk_wS f a bb v q m) q j).1 → s2 25 4 = nI (hk_wbs (hk_wS f a bb v q m) q j).2 → hk_Rn (d + 5) none hk_c120 (hk_sfx 93 hk_c120) [some (.ref 25), some (.ref 1), some (.int v), some (.int (nI m)), some (.int (nI m)), some (.int (nI a)), some (.int (nI j)), l7] [] (s2, lm, hk_RH i0 i1 b, al) k := by
    intro g
    induction g with
    | zero =>
      intro j s2 l7 hj h2 _ h3 h4
      have e : j = m := by omega
      subst e
      refine hk_hd (n := 1000) (t := 93) rfl ?_
      refine And.intro (fun _ => ?_) (fun hc => absurd (Int32.le_refl _) hc)
      exact h1 s2 h2 h3 h4
    | succ g ih =>
      intro j s2 l7 hj h2 hL h3 h4
      have a1 : ¬ nI m ≤ nI j := hk_nlt (by omega) (by omega)
      have le := hk_wbs_le (q := q) hwS j
      have lS := hwS j
      refine hk_hd (n := 1000) (t := 93) rfl ?_
      refine And.intro (fun hc => absurd hc a1) (fun _ => ?_)
      refine c_sinkWX (s := s2) (hk_tw_f hS (fun q => h2 2 q (by omega))) (hk_Rel_25 hR h2) h hq hm hqm (by omega) hL (fun s3 f3 => ?_)
      have h5 : hk_F25 s s3 := fun p q hp => (f3 p q (by omega) (by omega)).trans (h2 p q hp)
      have e34 : s3 25 4 = nI (hk_wbs (hk_wS f a bb v q m) q j).2 := (f3 25 4 (by omega) (by omega)).trans h4
      have e33 : s3 25 3 = nI (hk_wbs (hk_wS f a bb v q m) q j).1 := (f3 25 3 (by omega) (by omega)).trans h3
      have hL3 : ∀ i c, i < m → c < a → s3 26 (i * 6 + c) = hk_lkS f (fun p => hk_thk f p (nI (i + 1))) (nI c) bb := fun i c h6 h7 => (f3 26 _ (by omega) (by omega)).trans (hL i c h6 h7)
      refine And.intro (fun c1 => ?_) (fun c1 => ?_)
      · have c1 : nI (hk_wS f a bb v q m j) ≤ s3 25 4 := c1
        rw [e34, nI_leI (by omega) (by omega)] at c1
        have ew : hk_wbs (hk_wS f a bb v q m) q (j + 1) = hk_wbs (hk_wS f a bb v q m) q j := by
          rw [hk_wbs, if_neg (by omega)]
        exact hk_Rn_cast (by rw [← nI_1]; rfl) (ih (j + 1) s3 (some (.int (nI (hk_wS f a bb v q m j)))) (by omega) h5 hL3 (by rw [ew]; exact e33) (by rw [ew]; exact e34))
      · have c1 : ¬ nI (hk_wS f a bb v q m j) ≤ s3 25 4 := c1
        rw [e34, nI_leI (by omega) (by omega)] at c1
        have ew : hk_wbs (hk_wS f a bb v q m) q (j + 1) = (q + j, hk_wS f a bb v q m j) := by
          rw [hk_wbs, if_pos (by omega)]
        refine hk_Rn_cast (by rw [← nI_1]; rfl) (ih (j + 1) (hk_u2 (hk_u2 s3 25 4 (nI (hk_wS f a bb v q m j))) 25 3 (s3 1 12 + nI j)) (some (.int (nI (hk_wS f a bb v q m j)))) (by omega) (fun p q hp => by rw [hk_u2o (by omega), hk_u2o (by omega)]; exact h5 p q hp) (fun i c h6 h7 => by rw [hk_u2o (by omega), hk_u2o (by omega)]; exact hL3 i c h6 h7) ?_ ?_)
        · rw [ew, hk_u2s, e12 s3 h5, nI_add]
        · rw [ew, hk_u2o (by omega), hk_u2s]
  have l25 : ∀ (g j : Nat) (s2 : Nat → Nat → Int32) (l7 : Option Value), j + g = m → hk_F25 s s2 → (∀ i c, i < j → c < a → s2 26 (i * 6 + c) = hk_lkS f (fun p => hk_thk f p (nI (i + 1))) (nI c) bb) → hk_Rn (d + 5) none hk_c120 (hk_sfx 25 hk_c120) [some (.ref 25), some (.ref 1), some (.int v), some (.int (nI m)), some (.int (nI m)), some (.int (nI a)), some (.int (nI j)), l7] [] (s2, lm, hk_RH i0 i1 b, al) k := by
    intro g
    induction g with
    | zero =>
      intro j s2 l7 hj h2 hL
      have e : j = m := by omega
      subst e
      have st := l93 j 0 (hk_u2 (hk_u2 s2 25 3 (nI q)) 25 4 0) l7 (by omega) (fun p q hp => by rw [hk_u2o (by omega), hk_u2o (by omega)]; exact h2 p q hp) (fun i c h6 h7 => by rw [hk_u2o (by omega), hk_u2o (by omega)]; exact hL i c h6 h7) (by rw [hk_u2o (by omega), hk_u2s]; rfl) (by rw [hk_u2s]; rfl)
      rw [← e12 s2 h2] at st
      refine hk_hd (n := 1000) (t := 25) rfl ?_
      refine And.intro (fun _ => ?_) (fun hc => absurd (Int32.le_refl _) hc)
      exact st
    | succ g ih =>
      intro j s2 l7 hj h2 hL
      have a1 : ¬ nI m ≤ nI j := hk_nlt (by omega) (by omega)
      have l35 : ∀ (g i : Nat) (s3 : Nat → Nat → Int32), i + g = a → hk_F25 s s3 → (∀ i c, i < j → c < a → s3 26 (i * 6 + c) = hk_lkS f (fun p => hk_thk f p (nI (i + 1))) (nI c) bb) → (∀ c, c < i → s3 26 (j * 6 + c) = hk_lkS f (fun p => hk_thk f p (nI (j + 1))) (nI c) bb) → hk_Rn (d + 5) none hk_c120 (hk_sfx 35 hk_c120) [some (.ref 25), some (.ref 1), some (.int v), some (.int (nI m)), some (.int (nI m)), some (.int (nI a)), some (.int (nI j)), some (.int (nI i))] [] (s3, lm, hk_RH i0 i1 b, al) k := by
        intro g
        induction g with
        | zero =>
          intro i s3 hi h3 hL3 hJ
          have e : i = a := by omega
          subst e
          refine hk_hd (n := 1000) (t := 35) rfl ?_
          refine And.intro (fun _ => ?_) (fun hc => absurd (Int32.le_refl _) hc)
          refine hk_Rn_cast (by rw [← nI_1]; rfl) (ih (j + 1) s3 _ (by omega) h3 (fun i' c h6 h7 => ?_))
          by_cases e : i' = j
          · rw [e]
            exact hJ c h7
          · exact hL3 i' c (by omega) h7
        | succ g ih2 =>
          intro i s3 hi h3 hL3 hJ
          have b1 : ¬ nI a ≤ nI i := hk_nlt (by omega) (by omega)
          refine hk_hd (n := 1000) (t := 35) rfl ?_
          refine And.intro (fun hc => absurd hc b1) (fun _ => ?_)
          refine c_leaksX2 (s := s3) (bb := bb) (f := f) (hk_tw_f hP (fun q => h3 4 q (by omega))) (hk_Rel_25 hR h3) hz ?_
          refine hk_stn (i := nI j * 6 + nI i) (j := j * 6 + i) (by simp only [hk_lit, pk_mul, nI_add]) (by omega) (by decide) (fun s4 (hs4 : s4 = hk_u2 s3 26 (j * 6 + i) (hk_lkS f (fun p => hk_thk f p (nI j + 1)) (nI i) bb)) => ?_)
          refine hk_Rn_cast (by rw [← nI_1 i]; rfl) (ih2 (i + 1) s4 (by omega) (fun p q hp => by rw [hs4, hk_u2o (by omega)]; exact h3 p q hp) (fun i' c h6 h7 => by rw [hs4, hk_u2o (by omega)]; exact hL3 i' c h6 h7) (fun c hc => ?_))
          rw [hs4]
          by_cases e : c = i
          · rw [e, hk_u2s, nI_1]
          · rw [hk_u2o (by omega)]
            exact hJ c (by omega)
      refine hk_hd (n := 1000) (t := 25) rfl ?_
      refine And.intro (fun hc => absurd hc a1) (fun _ => ?_)
      exact l35 a 0 s2 (by omega) h2 hL (fun c hc => absurd hc (Nat.not_lt_zero c))
  refine hk_mth hk_m120 rfl rfl (n := 1000) ?_
  refine hk_Rn_cast (L2 := [some (.ref 25), some (.ref 1), some (.int v), some (.int (nI m)), some (.int (nI m)), some (.int (nI a)), some (.int (nI 0)), none]) ?_ (l25 m 0 s none (by omega) (fun _ _ _ => rfl) (fun i c q => absurd q (Nat.not_lt_zero i)))
  show [some (Value.ref 25), some (.ref 1), some (.int v), some (.int (nI m)), some (.int (if (60 : Int32) < nI m then 60 else nI m)), some (.int (if (6 : Int32) < s 2 3 then 6 else s 2 3)), some (.int 0), none] = _
  rw [em, ez]
  rfl
theorem hk_may {q : Nat} (hq : q < 600) (h : hk_rg w 1 60 ∧ ¬ 599 < nI q + w) : ∃ m, w = nI m ∧ 1 ≤ m ∧ m ≤ 60 ∧ q + m < 600 := by
  obtain ⟨m, hm, em⟩ := hk_rg1 (m := 60) (by decide) h.1
  refine ⟨m, em, ?_, hm, ?_⟩
  · have h := h.1.1
    rw [em] at h
    have h : ¬ nI m < nI 1 := h
    rw [nI_ltI (by omega) (by omega)] at h
    omega
  · have h := h.2
    rw [em, nI_add] at h
    have h : ¬ nI 599 < nI (q + m) := h
    rw [nI_ltI (by omega) (by omega)] at h
    omega
theorem hk_may2 {q m : Nat} (em : w = nI m) (m1 : 1 ≤ m) (m2 : m ≤ 60) (m3 : q + m < 600) : hk_rg w 1 60 ∧ ¬ 599 < nI q + w := by
  subst em
  refine ⟨⟨?_, ?_⟩, ?_⟩
  · exact nI_nlt (b := 1) (by omega) (by omega)
  · exact nI_nlt (a := 60) (by omega) (by omega)
  · rw [nI_add]
    exact nI_nlt (a := 599) (by omega) (by omega)
/-- the answer -/
noncomputable def hk_woV (f : Nat → Int32) (a bb : Nat) (v : Int32) (q m : Nat) (x : Int32) : Int32 := if x = 0 then nI (hk_wbs (hk_wS f a bb v q m) q m).1 else nI (hk_wbs (hk_wS f a bb v q m) q m).2
theorem c_worstX {q : Nat} (hw : hk_TW s) (hR : hk_Rel s 1 f) (h : hk_RI f a bb r) (hq : f 7 = nI q) (hq2 : q < 600) (hb : ¬ (hk_rg v 1 100000 ∧ (∃ m, w = nI m ∧ 1 ≤ m ∧ m ≤ 60 ∧ q + m < 600) ∧ hk_rg x 0 1) → k (some (.int (-2))) (s, lm, hk_RH i0 i1 b, al)) (hg : ∀ m s2, hk_rg v 1 100000 → w = nI m → 1 ≤ m → m ≤ 60 → q + m < 600 → hk_rg x 0 1 → hk_F25 s s2 → k (some (.int (hk_woV f a bb v q m x))) (s2, lm, hk_RH i0 i1 b, al)) : hk_Cl (d + 7) 119 [.ref 0, .int v, .int w, .int x] (s, lm, hk_RH i0 i1 b, al) k := by
  have e7 : s 1 12 = nI q := (hR 0 12 7 (hk_lp6 (by omega) (by omega) (by omega))).trans hq
  refine hk_mth hk_m119 rfl rfl (n := 1000) ?_
  refine c_within (fun q1 q2 => ?_) (fun a => ?_)
  rotate_left
  · refine And.intro (fun _ => ?_) (fun hc => absurd (by decide) hc)
    exact hb (fun q => a.elim q.1.1 q.1.2)
  refine And.intro (fun hc => absurd hc (by decide)) (fun _ => ?_)
  refine c_mayPass (fun a => ?_) (fun a1 => ?_)
  · refine And.intro (fun _ => ?_) (fun hc => absurd (by decide) hc)
    refine hb (fun ⟨_, ⟨m, em, m1, m2, m3⟩, _⟩ => a ?_)
    rw [e7]
    exact hk_may2 em m1 m2 m3
  refine And.intro (fun hc => absurd hc (by decide)) (fun _ => ?_)
  refine c_within (fun q3 q4 => ?_) (fun a => ?_)
  rotate_left
  · refine And.intro (fun hc => absurd hc (by decide)) (fun _ => ?_)
    exact hb (fun q => a.elim q.2.2.1 q.2.2.2)
  refine And.intro (fun _ => ?_) (fun hc => absurd (by decide) hc)
  rw [e7] at a1
  obtain ⟨m, em, m1, m2, m3⟩ := hk_may hq2 a1
  have hg2 := fun s2 => hg m s2 ⟨q1, q2⟩ em m1 m2 m3 ⟨q3, q4⟩
  subst em
  refine c_seekX (hk_tw2 hw hR h) (hk_tw4 hw hR h) hR h hq m2 m3 (fun s2 h2 h3 h4 => ?_)
  have key := hg2 s2 h2
  unfold hk_woV at key
  refine And.intro (fun c1 => ?_) (fun c1 => ?_)
  · have c1 : ¬ x = 0 := c1
    rw [if_neg c1, ← h4] at key
    exact key
  · have c1 : ¬ ¬ x = 0 := c1
    rw [if_pos (Classical.not_not.mp c1), ← h3] at key
    exact key
end HKEP
