/-! ===== the reference: the other calls ===== -/
theorem hk_RI_eq {f g : Nat → Int32} {a b r : Nat} (h : hk_RI f a b r) (e : ∀ q, q < 2448 → g q = f q) : hk_RI g a b r := by
  obtain ⟨⟨p1, p2, p3⟩, ⟨c0, c1, c2⟩, har, hch, hpl, hrd, ⟨n7, hn7, e7⟩, htx, ⟨h3, hh3, e3, hhu⟩, ⟨h4, hh4, e4⟩, ⟨h5, hh5, e5⟩, ⟨h6, hh6, e6, x6⟩, ⟨h10, hh10, e10, x10⟩, ⟨h11, hh11, e11⟩⟩ := h
  refine ⟨⟨p1, p2, p3⟩, ⟨by rw [e _ (by omega)]; exact c0, by rw [e _ (by omega)]; exact c1, by rw [e _ (by omega)]; exact c2⟩, fun i hi => by rw [e _ (by omega)]; exact har i hi, fun i hi => by rw [e _ (by omega)]; exact hch i hi, fun p hp => by rw [e _ (by omega), e _ (by omega)]; exact hpl p hp, fun j hj => by rw [e _ (by omega), e _ (by omega), e _ (by omega)]; exact hrd j hj, ⟨n7, hn7, by rw [e _ (by omega)]; exact e7⟩, fun t ht => by rw [e _ (by omega)]; exact htx t ht, ⟨h3, hh3, by rw [e _ (by omega)]; exact e3, fun i hi => by rw [e _ (by omega), e _ (by omega), e _ (by omega)]; exact hhu i hi⟩, ⟨h4, hh4, by rw [e _ (by omega)]; exact e4⟩, ⟨h5, hh5, by rw [e _ (by omega)]; exact e5⟩, ⟨h6, hh6, by rw [e _ (by omega)]; exact e6, hk_RZ_e x6 (fun j hj => e j (by omega))⟩, ⟨h10, hh10, by rw [e _ (by omega)]; exact e10, hk_RP_e x10 (fun j hj => e j (by omega))⟩, ⟨h11, hh11, by rw [e _ (by omega)]; exact e11⟩⟩
/-- a reading more -/
theorem hk_RI_rd {f g : Nat → Int32} {a b r p m gg : Nat} (h : hk_RI f a b r) (hr : r < 150) (hp : p < b) (hm : m < 600) (hg : gg < 4) (e : ∀ q, q ≠ 2 → ¬ (660 + 5 * r ≤ q ∧ q < 665 + 5 * r) → g q = f q) (e0 : g (660 + 5 * r) = nI p) (e1 : g (660 + 5 * r + 1) = nI m) (e2 : g (660 + 5 * r + 2) = nI gg) (en : g 2 = nI (r + 1)) : hk_RI g a b (r + 1) := by
  obtain ⟨⟨p1, p2, p3⟩, ⟨c0, c1, c2⟩, har, hch, hpl, hrd, ⟨n7, hn7, e7⟩, htx, ⟨h3, hh3, e3, hhu⟩, ⟨h4, hh4, e4⟩, ⟨h5, hh5, e5⟩, ⟨h6, hh6, e6, x6⟩, ⟨h10, hh10, e10, x10⟩, ⟨h11, hh11, e11⟩⟩ := h
  refine ⟨⟨p1, p2, by omega⟩, ⟨by rw [e _ (by omega) (by omega)]; exact c0, by rw [e _ (by omega) (by omega)]; exact c1, en⟩, fun i hi => by rw [e _ (by omega) (by omega)]; exact har i hi, fun i hi => by rw [e _ (by omega) (by omega)]; exact hch i hi, fun p hp => by rw [e _ (by omega) (by omega), e _ (by omega) (by omega)]; exact hpl p hp, fun j hj => ?_, ⟨n7, hn7, by rw [e _ (by omega) (by omega)]; exact e7⟩, fun t ht => by rw [e _ (by omega) (by omega)]; exact htx t ht, ⟨h3, hh3, by rw [e _ (by omega) (by omega)]; exact e3, fun i hi => by rw [e _ (by omega) (by omega), e _ (by omega) (by omega), e _ (by omega) (by omega)]; exact hhu i hi⟩, ⟨h4, hh4, by rw [e _ (by omega) (by omega)]; exact e4⟩, ⟨h5, hh5, by rw [e _ (by omega) (by omega)]; exact e5⟩, ⟨h6, hh6, by rw [e _ (by omega) (by omega)]; exact e6, hk_RZ_e x6 (fun j hj => e j (by omega) (by omega))⟩, ⟨h10, hh10, by rw [e _ (by omega) (by omega)]; exact e10, hk_RP_e x10 (fun j hj => e j (by omega) (by omega))⟩, ⟨h11, hh11, by rw [e _ (by omega) (by omega)]; exact e11⟩⟩
  by_cases ej : j = r
  · subst ej
    exact ⟨⟨p, hp, e0⟩, ⟨m, hm, e1⟩, gg, hg, e2⟩
  · rw [e _ (by omega) (by omega), e _ (by omega) (by omega), e _ (by omega) (by omega)]
    exact hrd j (by omega)
section HKB5
variable {d n a bb r : Nat} {v w x y z : Int32} {s : Nat → Nat → Int32} {lm : Nat → Nat → Int64} {i0 i1 b : Nat} {al : List Nat} {k : Option Value → hk_H → Prop}
theorem m_reading (h : hk_RI (s 41) a bb r) (h1 : ∀ s2 u r2, hk_Gm s s2 → hk_RI (s2 41) a bb r2 → k (some (.int u)) (s2, lm, hk_RH i0 i1 b, al)) : hk_Cl (d + 3) 174 [.ref 40, .int v, .int w, .int x, .int y, .int z] (s, lm, hk_RH i0 i1 b, al) k := by
  have hb := h.1.2.1
  have hr := h.1.2.2
  obtain ⟨q, hq, eq⟩ := h.2.2.2.2.2.2.1
  have h0 := fun u => h1 s u r (hk_Gm_r s) h
  refine hk_mth hk_m174 rfl rfl (n := 1000) ?_
  refine m_isn (c := 1) (by omega) h.2.1.2.1 (by omega) ?_ (fun p e hp => ?_)
  · refine And.intro (fun _ => ?_) (fun hc => absurd (by decide) hc)
    exact h0 _
  refine And.intro (fun hc => absurd hc (by decide)) (fun _ => ?_)
  refine hk_ldi (i := nI 7) (j := 7) (by simp only [hk_lit, pk_mul, nI_add]) (by omega) (by decide) eq ?_
  refine m_in (fun (p0 : ¬ w < 0) (q0 : ¬ nI q < w) => ?_) (fun _ => ?_)
  rotate_left
  · refine And.intro (fun _ => ?_) (fun hc => absurd (by decide) hc)
    exact h0 _
  refine And.intro (fun hc => absurd hc (by decide)) (fun _ => ?_)
  refine m_in (fun (p1 : ¬ x < 0) (q1 : ¬ 3 < x) => ?_) (fun _ => ?_)
  rotate_left
  · refine And.intro (fun _ => ?_) (fun hc => absurd (by decide) hc)
    exact h0 _
  refine And.intro (fun hc => absurd hc (by decide)) (fun _ => ?_)
  refine m_in (fun _ _ => ?_) (fun _ => ?_)
  rotate_left
  · refine And.intro (fun _ => ?_) (fun hc => absurd (by decide) hc)
    exact h0 _
  refine And.intro (fun hc => absurd hc (by decide)) (fun _ => ?_)
  refine m_in (fun _ _ => ?_) (fun _ => ?_)
  rotate_left
  · refine And.intro (fun hc => absurd hc (by decide)) (fun _ => ?_)
    exact h0 _
  refine And.intro (fun _ => ?_) (fun hc => absurd (by decide) hc)
  obtain ⟨m, hm, rfl⟩ := hk_rng (n := q) (by omega) p0 q0
  obtain ⟨g, hg, rfl⟩ := hk_rng (n := 3) (by decide) p1 q1
  subst e
  refine hk_ldi (i := nI 2) (j := 2) (by simp only [hk_lit, pk_mul, nI_add]) (by omega) (by decide) h.2.1.2.2 ?_
  refine And.intro (fun c1 => ?_) (fun c1 => ?_)
  rotate_left
  · exact h0 _
  have c1 : ¬ nI r = nI 150 := c1
  rw [nI_eq (by omega) (by omega)] at c1
  refine hk_ldi (i := nI 2) (j := 2) (by simp only [hk_lit, pk_mul, nI_add]) (by omega) (by decide) h.2.1.2.2 ?_
  refine hk_stn (i := 660 + 5 * nI r) (j := 660 + 5 * r) (by simp only [hk_lit, pk_mul, nI_add]) (by omega) (by decide) (fun s1 (hs1 : s1 = hk_u2 s 41 (660 + 5 * r) (nI p)) => ?_)
  refine hk_stn (i := 660 + 5 * nI r + 1) (j := 660 + 5 * r + 1) (by simp only [hk_lit, pk_mul, nI_add]) (by omega) (by decide) (fun s2 (hs2 : s2 = hk_u2 s1 41 (660 + 5 * r + 1) (nI m)) => ?_)
  refine hk_stn (i := 660 + 5 * nI r + 2) (j := 660 + 5 * r + 2) (by simp only [hk_lit, pk_mul, nI_add]) (by omega) (by decide) (fun s3 (hs3 : s3 = hk_u2 s2 41 (660 + 5 * r + 2) (nI g)) => ?_)
  refine hk_stn (i := 660 + 5 * nI r + 3) (j := 660 + 5 * r + 3) (by simp only [hk_lit, pk_mul, nI_add]) (by omega) (by decide) (fun s4 (hs4 : s4 = hk_u2 s3 41 (660 + 5 * r + 3) y) => ?_)
  refine hk_stn (i := 660 + 5 * nI r + 4) (j := 660 + 5 * r + 4) (by simp only [hk_lit, pk_mul, nI_add]) (by omega) (by decide) (fun s5 (hs5 : s5 = hk_u2 s4 41 (660 + 5 * r + 4) z) => ?_)
  have g5 : hk_Gm s s5 := by
    rw [hs5, hs4, hs3, hs2, hs1]
    exact hk_Gm_u (hk_Gm_u (hk_Gm_u (hk_Gm_u (hk_Gm_u (hk_Gm_r s) (by omega) (fun _ => hk_nez (by omega))) (by omega) (fun _ => hk_nez (by omega))) (by omega) (fun _ => hk_nez (by omega))) (by omega) (fun _ => hk_nez (by omega))) (by omega) (fun _ => hk_nez (by omega))
  have o5 : ∀ q, ¬ (660 + 5 * r ≤ q ∧ q < 665 + 5 * r) → s5 41 q = s 41 q := fun q hq => by
    rw [hs5, hk_u2o (by omega), hs4, hk_u2o (by omega), hs3, hk_u2o (by omega), hs2, hk_u2o (by omega), hs1, hk_u2o (by omega)]
  refine m_one (c := 2) (n := r) (by omega) (by rw [o5 _ (by omega)]; exact h.2.1.2.2) ?_
  refine h1 _ _ (r + 1) (hk_Gm_u g5 (by omega) (fun _ => hk_nez (by omega))) (hk_RI_rd h (by omega) hp (m := m) (by omega) (gg := g) (by omega) (fun q h2 hq => ?_) ?_ ?_ ?_ hk_u2s)
  · rw [hk_u2o (by omega)]; exact o5 q hq
  · rw [hk_u2o (by omega), hs5, hk_u2o (by omega), hs4, hk_u2o (by omega), hs3, hk_u2o (by omega), hs2, hk_u2o (by omega), hs1, hk_u2s]
  · rw [hk_u2o (by omega), hs5, hk_u2o (by omega), hs4, hk_u2o (by omega), hs3, hk_u2o (by omega), hs2, hk_u2s]
  · rw [hk_u2o (by omega), hs5, hk_u2o (by omega), hs4, hk_u2o (by omega), hs3, hk_u2s]
theorem m_plate (ha : s 41 0 = nI a) (ha2 : a ≤ 6) (hn : n ≤ 96) (hs : s 41 1 = nI n) (hb : (∀ i, v = nI i → i < a → ¬ (hk_rg w 0 2 ∧ hk_rg x 1 5000 ∧ hk_rg y 1 1000 ∧ hk_rg z (-6000) 0)) → k (some (.int (-2))) (s, lm, hk_RH i0 i1 b, al)) (hf : ∀ i, v = nI i → i < a → hk_rg w 0 2 ∧ hk_rg x 1 5000 ∧ hk_rg y 1 1000 ∧ hk_rg z (-6000) 0 → n = 96 → k (some (.int (-4))) (s, lm, hk_RH i0 i1 b, al)) (hg : ∀ i, v = nI i → i < a → hk_rg w 0 2 ∧ hk_rg x 1 5000 ∧ hk_rg y 1 1000 ∧ hk_rg z (-6000) 0 → n < 96 → k (some (.int (nI n))) (hk_u2 (hk_u2 (hk_u2 (hk_u2 (hk_u2 (hk_u2 (hk_u2 s 41 (80 + 6 * n) v) 41 (80 + 6 * n + 1) w) 41 (80 + 6 * n + 2) x) 41 (80 + 6 * n + 3) y) 41 (80 + 6 * n + 4) z) 41 (80 + 6 * n + 5) 0) 41 1 (nI (n + 1)), lm, hk_RH i0 i1 b, al)) : hk_Cl (d + 3) 138 [.ref 40, .int v, .int w, .int x, .int y, .int z] (s, lm, hk_RH i0 i1 b, al) k := by
  refine hk_mth hk_m138 rfl rfl (n := 1000) ?_
  refine m_is (c := 0) (by omega) ha (by omega) (fun i e hi => ?_) (fun a0 => ?_)
  rotate_left
  · refine And.intro (fun _ => ?_) (fun hc => absurd (by decide) hc)
    refine hb (fun i e hi => ?_)
    subst e
    rcases a0 with a0 | a0
    · exact absurd a0 (nI_pos (by omega))
    · exact absurd a0 (hk_nlt hi (by omega))
  refine And.intro (fun hc => absurd hc (by decide)) (fun _ => ?_)
  refine m_in (fun p0 q0 => ?_) (fun a => ?_)
  rotate_left
  · refine And.intro (fun _ => ?_) (fun hc => absurd (by decide) hc)
    exact hb (fun _ _ _ q => a.elim q.1.1 q.1.2)
  refine And.intro (fun hc => absurd hc (by decide)) (fun _ => ?_)
  refine m_in (fun p1 q1 => ?_) (fun a => ?_)
  rotate_left
  · refine And.intro (fun _ => ?_) (fun hc => absurd (by decide) hc)
    exact hb (fun _ _ _ q => a.elim q.2.1.1 q.2.1.2)
  refine And.intro (fun hc => absurd hc (by decide)) (fun _ => ?_)
  refine m_in (fun p2 q2 => ?_) (fun a => ?_)
  rotate_left
  · refine And.intro (fun _ => ?_) (fun hc => absurd (by decide) hc)
    exact hb (fun _ _ _ q => a.elim q.2.2.1.1 q.2.2.1.2)
  refine And.intro (fun hc => absurd hc (by decide)) (fun _ => ?_)
  refine m_in (fun p3 q3 => ?_) (fun a => ?_)
  rotate_left
  · refine And.intro (fun hc => absurd hc (by decide)) (fun _ => ?_)
    exact hb (fun _ _ _ q => a.elim q.2.2.2.1 q.2.2.2.2)
  refine And.intro (fun _ => ?_) (fun hc => absurd (by decide) hc)
  refine hk_ldi (i := nI 1) (j := 1) (by simp only [hk_lit, pk_mul, nI_add]) (by omega) (by decide) hs ?_
  refine And.intro (fun c1 => ?_) (fun c1 => ?_)
  rotate_left
  · have c1 : ¬ ¬ nI n = nI 96 := c1
    exact hf i e hi ⟨⟨p0, q0⟩, ⟨p1, q1⟩, ⟨p2, q2⟩, ⟨p3, q3⟩⟩ (by
      rw [Classical.not_not, nI_eq (by omega) (by omega)] at c1
      exact c1)
  have hn6 : n < 96 := by
    have c1 : ¬ nI n = nI 96 := c1
    rw [nI_eq (by omega) (by omega)] at c1
    omega
  refine hk_ldi (i := nI 1) (j := 1) (by simp only [hk_lit, pk_mul, nI_add]) (by omega) (by decide) hs ?_
  refine hk_stn (i := 80 + 6 * nI n) (j := 80 + 6 * n) (by simp only [hk_lit, pk_mul, nI_add]) (by omega) (by decide) (fun s1 (hs1 : s1 = hk_u2 s 41 (80 + 6 * n) v) => ?_)
  refine hk_stn (i := 80 + 6 * nI n + 1) (j := 80 + 6 * n + 1) (by simp only [hk_lit, pk_mul, nI_add]) (by omega) (by decide) (fun s2 (hs2 : s2 = hk_u2 s1 41 (80 + 6 * n + 1) w) => ?_)
  refine hk_stn (i := 80 + 6 * nI n + 2) (j := 80 + 6 * n + 2) (by simp only [hk_lit, pk_mul, nI_add]) (by omega) (by decide) (fun s3 (hs3 : s3 = hk_u2 s2 41 (80 + 6 * n + 2) x) => ?_)
  refine hk_stn (i := 80 + 6 * nI n + 3) (j := 80 + 6 * n + 3) (by simp only [hk_lit, pk_mul, nI_add]) (by omega) (by decide) (fun s4 (hs4 : s4 = hk_u2 s3 41 (80 + 6 * n + 3) y) => ?_)
  refine hk_stn (i := 80 + 6 * nI n + 4) (j := 80 + 6 * n + 4) (by simp only [hk_lit, pk_mul, nI_add]) (by omega) (by decide) (fun s5 (hs5 : s5 = hk_u2 s4 41 (80 + 6 * n + 4) z) => ?_)
  refine hk_stn (i := 80 + 6 * nI n + 5) (j := 80 + 6 * n + 5) (by simp only [hk_lit, pk_mul, nI_add]) (by omega) (by decide) (fun s6 (hs6 : s6 = hk_u2 s5 41 (80 + 6 * n + 5) 0) => ?_)
  refine m_one (c := 1) (n := n) (by omega) ?_ ?_
  · show s6 41 1 = nI n
    rw [hs6, hk_u2o (by omega), hs5, hk_u2o (by omega), hs4, hk_u2o (by omega), hs3, hk_u2o (by omega), hs2, hk_u2o (by omega), hs1, hk_u2o (by omega)]
    exact hs
  subst hs6 hs5 hs4 hs3 hs2 hs1
  exact hg i e hi ⟨⟨p0, q0⟩, ⟨p1, q1⟩, ⟨p2, q2⟩, ⟨p3, q3⟩⟩ hn6
theorem m_crowd (ha : s 41 0 = nI a) (ha2 : a ≤ 6) (hb : (∀ i, v = nI i → i < a → ¬ hk_rg w 0 20000) → k (some (.int (-2))) (s, lm, hk_RH i0 i1 b, al)) (hg : ∀ i, v = nI i → i < a → hk_rg w 0 20000 → k (some (.int (s 41 (20 + 10 * i + 4)))) (hk_u2 s 41 (20 + 10 * i + 4) w, lm, hk_RH i0 i1 b, al)) : hk_Cl (d + 3) 147 [.ref 40, .int v, .int w] (s, lm, hk_RH i0 i1 b, al) k := by
  refine hk_mth hk_m147 rfl rfl (n := 1000) ?_
  refine m_is (c := 0) (by omega) ha (by omega) (fun i e hi => ?_) (fun a0 => ?_)
  rotate_left
  · refine And.intro (fun _ => ?_) (fun hc => absurd (by decide) hc)
    refine hb (fun i e hi => ?_)
    subst e
    rcases a0 with a0 | a0
    · exact absurd a0 (nI_pos (by omega))
    · exact absurd a0 (hk_nlt hi (by omega))
  refine And.intro (fun hc => absurd hc (by decide)) (fun _ => ?_)
  refine m_in (fun p0 q0 => ?_) (fun a => ?_)
  rotate_left
  · refine And.intro (fun _ => ?_) (fun hc => absurd (by decide) hc)
    exact hb (fun _ _ _ q => a.elim q.1 q.2)
  refine And.intro (fun hc => absurd hc (by decide)) (fun _ => ?_)
  subst e
  refine hk_Cl_arg (hk_v3 (show (20 : Int32) + 10 * nI i + 4 = nI (20 + 10 * i + 4) by simp only [hk_lit, pk_mul, nI_add])) ?_
  exact m_puts (by omega) (hg i rfl hi ⟨p0, q0⟩)
theorem m_charter (ha : s 41 0 = nI a) (ha2 : a ≤ 6) (hb : (∀ i, v = nI i → i < a → ¬ (w = -1 ∨ ∃ j, j < 4 ∧ w = nI j)) → k (some (.int (-10))) (s, lm, hk_RH i0 i1 b, al)) (hg : ∀ i, v = nI i → i < a → (w = -1 ∨ ∃ j, j < 4 ∧ w = nI j) → k (some (.int (s 41 (20 + 10 * i + 8)))) (hk_u2 s 41 (20 + 10 * i + 8) w, lm, hk_RH i0 i1 b, al)) : hk_Cl (d + 3) 191 [.ref 40, .int v, .int w] (s, lm, hk_RH i0 i1 b, al) k := by
  refine hk_mth hk_m191 rfl rfl (n := 1000) ?_
  refine m_is (c := 0) (by omega) ha (by omega) (fun i e hi => ?_) (fun a0 => ?_)
  rotate_left
  · refine And.intro (fun _ => ?_) (fun hc => absurd (by decide) hc)
    refine hb (fun i e hi => ?_)
    subst e
    rcases a0 with a0 | a0
    · exact absurd a0 (nI_pos (by omega))
    · exact absurd a0 (hk_nlt hi (by omega))
  refine And.intro (fun hc => absurd hc (by decide)) (fun _ => ?_)
  have e8 : (20 : Int32) + 10 * nI i + 8 = nI (20 + 10 * i + 8) := by simp only [hk_lit, pk_mul, nI_add]
  have fin : (w = -1 ∨ ∃ j, j < 4 ∧ w = nI j) → ∀ q : Nat, hk_wp (d + 2) none hk_c191 k (q + 60) (hk_sfx 21 hk_c191) [some (.ref 40), some (.int v), some (.int w)] [] (s, lm, hk_RH i0 i1 b, al) := by
    intro hw q
    subst e
    refine hk_Cl_arg (hk_v3 e8) ?_
    exact m_puts (by omega) (hg i rfl hi hw)
  refine And.intro (fun c1 => ?_) (fun c1 => ?_)
  · exact fin (Or.inl c1) _
  have c1 : ¬ w = -1 := c1
  refine m_isText2 (fun a => ?_) (fun j e2 hj => ?_)
  · refine And.intro (fun _ => ?_) (fun hc => absurd (by decide) hc)
    exact hb (fun _ _ _ q => q.elim c1 (fun ⟨j, hj, e⟩ => a j e hj))
  · refine And.intro (fun hc => absurd hc (by decide)) (fun _ => ?_)
    subst e
    refine hk_Cl_arg (hk_v3 e8) ?_
    exact m_puts (by omega) (hg i rfl hi (Or.inr ⟨j, hj, e2⟩))
theorem m_from (hb : ¬ hk_rg z 0 1 → k (some (.int (-2))) (s, lm, hk_RH i0 i1 b, al)) (h0 : ∀ j, z = nI j → j < 2 → s 44 j = 0 → k (some (.int (-3))) (s, lm, hk_RH i0 i1 b, al)) (hg : ∀ j, z = nI j → j < 2 → ¬ s 44 j = 0 → ∀ s2, (∀ p q, p ≠ 41 → s2 p q = s p q) → (∀ q, q < 2448 → s2 41 q = s 43 (2448 * j + q)) → k (some (.int 1)) (s2, lm, hk_RH i0 i1 b, al)) : hk_Cl (d + 2) 218 [.ref 40, .int z] (s, lm, hk_RH i0 i1 b, al) k := by
  refine hk_mth hk_m218 rfl rfl (n := 1000) ?_
  refine m_in0 (fun (a : z < 0 ∨ 1 < z) => ?_) (fun (p0 : ¬ z < 0) (q0 : ¬ 1 < z) => ?_)
  · refine And.intro (fun hc => absurd hc (by decide)) (fun _ => ?_)
    exact hb (fun q => a.elim q.1 q.2)
  refine And.intro (fun _ => ?_) (fun hc => absurd (by decide) hc)
  obtain ⟨j, hj, rfl⟩ := hk_rng (n := 1) (by decide) p0 q0
  refine hk_ldi (i := nI j) (j := j) (by simp only [hk_lit, pk_mul, nI_add]) (by omega) (by decide) rfl ?_
  refine And.intro (fun c1 => ?_) (fun c1 => ?_)
  rotate_left
  · exact h0 j rfl (by omega) (Classical.not_not.mp c1)
  have c1 : ¬ s 44 j = 0 := c1
  have hg2 := hg j rfl (by omega) c1
  clear hg
  have loop : ∀ (g i : Nat) (s3 : Nat → Nat → Int32), i + g = 2448 → (∀ p q, p ≠ 41 → s3 p q = s p q) → (∀ q, q < i → s3 41 q = s 43 (2448 * j + q)) → hk_Rn (d + 1) none hk_c218 (hk_sfx 26 hk_c218) [some (.ref 40), some (.int (nI j)), some (.int (nI i))] [] (s3, lm, hk_RH i0 i1 b, al) k := by
    intro g
    induction g with
    | zero =>
      intro i s3 hi h2 h3
      have e : i = 2448 := by omega
      subst e
      refine hk_hd (n := 1000) (t := 26) rfl ?_
      refine And.intro (fun _ => ?_) (fun hc => absurd (show (2448 : Int32) ≤ nI 2448 by decide) hc)
      exact hg2 s3 h2 h3
    | succ g ih =>
      intro i s3 hi h2 h3
      have b1 : ¬ nI 2448 ≤ nI i := hk_nlt (by omega) (by omega)
      refine hk_hd (n := 1000) (t := 26) rfl ?_
      refine And.intro (fun hc => absurd hc b1) (fun _ => ?_)
      refine hk_ldi (i := 2448 * nI j + nI i) (j := 2448 * j + i) (by simp only [hk_lit, pk_mul, nI_add]) (by omega) (by decide) (h2 43 (2448 * j + i) (by omega)) ?_
      refine hk_stn (i := nI i) (j := i) (by simp only [hk_lit, pk_mul, nI_add]) (by omega) (by decide) (fun s4 (hs4 : s4 = hk_u2 s3 41 (i) (s 43 (2448 * j + i))) => ?_)
      refine hk_Rn_cast (by rw [← nI_1 i]; rfl) (ih (i + 1) s4 (by omega) (fun p q hp => ?_) (fun q hq => ?_))
      · rw [hs4, hk_u2o (by omega)]; exact h2 p q hp
      · rw [hs4]
        by_cases e : q = i
        · subst e; rw [hk_u2s]
        · rw [hk_u2o (by omega)]; exact h3 q (by omega)
  exact loop 2448 0 s (by omega) (fun _ _ _ => rfl) (fun q hq => absurd hq (Nat.not_lt_zero q))
theorem m_countOf (h : hk_RI (s 41) a bb r) {j : Nat} (hj : j < 9) (h1 : ∀ u, k (some (.int u)) (s, lm, hk_RH i0 i1 b, al)) : hk_Cl (d + 2) 220 [.ref 40, .int (nI j)] (s, lm, hk_RH i0 i1 b, al) k := by
  have ha := h.1.1
  have loop : ∀ (q i : Nat) (e : Int32), i + q = a → hk_Rn (d + 1) none hk_c220 (hk_sfx 4 hk_c220) [some (.ref 40), some (.int (nI j)), some (.int e), some (.int (nI i))] [] (s, lm, hk_RH i0 i1 b, al) k := by
    intro q
    induction q with
    | zero =>
      intro i e hi
      have e1 : i = a := by omega
      subst e1
      refine hk_hd (n := 1000) (t := 4) rfl ?_
      refine hk_ldi (i := nI 0) (j := 0) (by simp only [hk_lit, pk_mul, nI_add]) (by omega) (by decide) h.2.1.1 ?_
      refine And.intro (fun _ => ?_) (fun hc => absurd (Int32.le_refl _) hc)
      refine And.intro (fun c1 => ?_) (fun c1 => ?_)
      · refine hk_ldi (i := nI j) (j := j) (by simp only [hk_lit, pk_mul, nI_add]) (by omega) (by decide) rfl ?_
        exact h1 _
      · exact h1 _
    | succ q ih =>
      intro i e hi
      have a1 : ¬ nI a ≤ nI i := hk_nlt (by omega) (by omega)
      refine hk_hd (n := 1000) (t := 4) rfl ?_
      refine hk_ldi (i := nI 0) (j := 0) (by simp only [hk_lit, pk_mul, nI_add]) (by omega) (by decide) h.2.1.1 ?_
      refine And.intro (fun hc => absurd hc a1) (fun _ => ?_)
      refine m_shipOf (c := 6) (by omega) ?_
      exact hk_Rn_cast (by rw [← nI_1 i]; rfl) (ih (i + 1) _ (by omega))
  refine hk_mth hk_m220 rfl rfl (n := 1000) ?_
  exact loop a 0 0 (by omega)
theorem m_count (h : hk_RI (s 41) a bb r) (h1 : ∀ u, k (some (.int u)) (s, lm, hk_RH i0 i1 b, al)) : hk_Cl (d + 3) 219 [.ref 40, .int z] (s, lm, hk_RH i0 i1 b, al) k := by
  refine hk_mth hk_m219 rfl rfl (n := 1000) ?_
  refine m_in (fun p q => ?_) (fun _ => ?_)
  · refine And.intro (fun hc => absurd hc (by decide)) (fun _ => ?_)
    obtain ⟨j, hj, rfl⟩ := hk_rng (n := 8) (by decide) p q
    exact m_countOf h (by omega) h1
  · refine And.intro (fun _ => ?_) (fun hc => absurd (by decide) hc)
    exact h1 _
theorem m_digest (h : hk_RI (s 41) a bb r) (h1 : ∀ u, k (some (.long u)) (s, lm, hk_RH i0 i1 b, al)) : hk_Cl (d + 6) 221 [.ref 40] (s, lm, hk_RH i0 i1 b, al) k := by
  have ha := h.1.1
  have hb := h.1.2.1
  have hr := h.1.2.2
  have l4 : ∀ (q j : Nat) (g : Int64), j + q = 4 → ∀ L4, hk_Rn (d + 5) none hk_c221 (hk_sfx 141 hk_c221) [some (.ref 40), some (.long g), none, some (.int (nI j)), L4] [] (s, lm, hk_RH i0 i1 b, al) k := by
    intro q
    induction q with
    | zero =>
      intro j g hj L4
      have e : j = 4 := by omega
      subst e
      refine hk_hd (n := 1000) (t := 141) rfl ?_
      refine And.intro (fun _ => ?_) (fun hc => absurd (show (4 : Int32) ≤ nI 4 by decide) hc)
      exact h1 _
    | succ q ih =>
      intro j g hj L4
      have a1 : ¬ nI 4 ≤ nI j := hk_nlt (by omega) (by omega)
      obtain ⟨m, hm, e⟩ := h.2.2.2.2.2.2.2.1 j (by omega)
      refine hk_hd (n := 1000) (t := 141) rfl ?_
      refine And.intro (fun hc => absurd hc a1) (fun _ => ?_)
      refine hk_ldi (i := 1422 + 61 * nI j) (j := 1422 + 61 * j) (by simp only [hk_lit, pk_mul, nI_add]) (by omega) (by decide) e ?_
      have e1 : [Value.ref 40, .long g, .int (1422 + 61 * nI j), .int (1 + nI m)] = [Value.ref 40, .long g, .int (nI (1422 + 61 * j)), .int (nI (1 + m))] := by
        simp only [hk_lit, pk_mul, nI_add]
      refine hk_Cl_arg e1 ?_
      refine m_mixed (by omega) ?_
      exact hk_Rn_cast (by rw [← nI_1]; rfl) (ih (j + 1) _ (by omega) L4)
  have l33 : ∀ (q j : Nat) (g : Int64), j + q = a → ∀ L4, hk_Rn (d + 5) none hk_c221 (hk_sfx 33 hk_c221) [some (.ref 40), some (.long g), none, some (.int (nI j)), L4] [] (s, lm, hk_RH i0 i1 b, al) k := by
    intro q
    induction q with
    | zero =>
      intro j g hj L4
      have e : j = a := by omega
      subst e
      refine hk_hd (n := 1000) (t := 33) rfl ?_
      refine hk_ldi (i := nI 0) (j := 0) (by simp only [hk_lit, pk_mul, nI_add]) (by omega) (by decide) h.2.1.1 ?_
      refine And.intro (fun _ => ?_) (fun hc => absurd (Int32.le_refl _) hc)
      refine hk_ldi (i := nI 1) (j := 1) (by simp only [hk_lit, pk_mul, nI_add]) (by omega) (by decide) h.2.1.2.1 ?_
      have e1 : ∀ g : Int64, [Value.ref 40, .long g, .int 80, .int (6 * nI bb)] = [Value.ref 40, .long g, .int (nI 80), .int (nI (6 * bb))] := fun g => by
        simp only [hk_lit, pk_mul]
      refine hk_Cl_arg (e1 _) ?_
      refine m_mixed (by omega) ?_
      refine hk_ldi (i := nI 2) (j := 2) (by simp only [hk_lit, pk_mul, nI_add]) (by omega) (by decide) h.2.1.2.2 ?_
      have e2 : ∀ g : Int64, [Value.ref 40, .long g, .int 660, .int (5 * nI r)] = [Value.ref 40, .long g, .int (nI 660), .int (nI (5 * r))] := fun g => by
        simp only [hk_lit, pk_mul]
      refine hk_Cl_arg (e2 _) ?_
      refine m_mixed (by omega) ?_
      refine m_mixed (a := 1410) (m := 12) (by omega) ?_
      exact l4 4 0 _ (by omega) L4
    | succ q ih =>
      intro j g hj L4
      have a1 : ¬ nI a ≤ nI j := hk_nlt (by omega) (by omega)
      have l60 : ∀ (q i : Nat) (g : Int64), i + q = 7 → hk_Rn (d + 5) none hk_c221 (hk_sfx 60 hk_c221) [some (.ref 40), some (.long g), none, some (.int (nI j)), some (.int (nI i))] [] (s, lm, hk_RH i0 i1 b, al) k := by
        intro q
        induction q with
        | zero =>
          intro i g hi
          have e : i = 7 := by omega
          subst e
          refine hk_hd (n := 1000) (t := 60) rfl ?_
          refine And.intro (fun _ => ?_) (fun hc => absurd (show (7 : Int32) ≤ nI 7 by decide) hc)
          exact hk_Rn_cast (by rw [← nI_1 j]; rfl) (ih (j + 1) _ (by omega) _)
        | succ q ih2 =>
          intro i g hi
          have a3 : ¬ nI 7 ≤ nI i := hk_nlt (by omega) (by omega)
          refine hk_hd (n := 1000) (t := 60) rfl ?_
          refine And.intro (fun hc => absurd hc a3) (fun _ => ?_)
          refine m_shipTold h (by omega) (fun u => ?_)
          exact hk_Rn_cast (by rw [← nI_1 i]; rfl) (ih2 (i + 1) _ (by omega))
      have e1 : ∀ g : Int64, [Value.ref 40, .long g, .int (20 + 10 * nI j), .int 5] = [Value.ref 40, .long g, .int (nI (20 + 10 * j)), .int (nI 5)] := fun g => by
        simp only [hk_lit, pk_mul, nI_add]
      refine hk_hd (n := 1000) (t := 33) rfl ?_
      refine hk_ldi (i := nI 0) (j := 0) (by simp only [hk_lit, pk_mul, nI_add]) (by omega) (by decide) h.2.1.1 ?_
      refine And.intro (fun hc => absurd hc a1) (fun _ => ?_)
      refine hk_Cl_arg (e1 _) ?_
      refine m_mixed (by omega) ?_
      exact l60 7 0 _ (by omega)
  have l1 : ∀ (q j : Nat) (g : Int64), j + q = 9 → hk_Rn (d + 5) none hk_c221 (hk_sfx 6 hk_c221) [some (.ref 40), some (.long g), none, some (.int (nI j)), none] [] (s, lm, hk_RH i0 i1 b, al) k := by
    intro q
    induction q with
    | zero =>
      intro j g hj
      have e : j = 9 := by omega
      subst e
      refine hk_hd (n := 1000) (t := 6) rfl ?_
      refine And.intro (fun _ => ?_) (fun hc => absurd (show (9 : Int32) ≤ nI 9 by decide) hc)
      exact l33 a 0 _ (by omega) none
    | succ q ih =>
      intro j g hj
      have a1 : ¬ nI 9 ≤ nI j := hk_nlt (by omega) (by omega)
      refine hk_hd (n := 1000) (t := 6) rfl ?_
      refine And.intro (fun hc => absurd hc a1) (fun _ => ?_)
      refine m_countOf h (by omega) (fun u => ?_)
      exact hk_Rn_cast (by rw [← nI_1]; rfl) (ih (j + 1) _ (by omega))
  refine hk_mth hk_m221 rfl rfl (n := 1000) ?_
  exact l1 9 0 307 (by omega)
end HKB5
