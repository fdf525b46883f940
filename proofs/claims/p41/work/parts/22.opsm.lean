/-! ===== calls of single numbers and of new rows, the reference -/
section HKM2
variable {d n : Nat} {v z w x : Int32} {s : Nat → Nat → Int32} {lm : Nat → Nat → Int64} {i0 i1 b : Nat} {al : List Nat} {k : Option Value → hk_H → Prop}
theorem m_bound (hb : ¬ hk_rg v 0 1000 → k (some (.int (-2))) (s, lm, hk_RH i0 i1 b, al)) (hg : hk_rg v 0 1000 → k (some (.int (s 41 8))) (hk_u2 s 41 8 v, lm, hk_RH i0 i1 b, al)) : hk_Cl (d + 2) 145 [.ref 40, .int v] (s, lm, hk_RH i0 i1 b, al) k := by
  refine hk_mth hk_m145 rfl rfl (n := 1000) ?_
  refine m_in0 (fun (a : v < 0 ∨ 1000 < v) => ?_) (fun (p0 : ¬ v < 0) (q0 : ¬ 1000 < v) => ?_)
  · refine And.intro (fun _ => ?_) (fun hc => absurd (by decide) hc)
    exact hb (fun q => a.elim q.1 q.2)
  refine And.intro (fun hc => absurd hc (by decide)) (fun _ => ?_)
  exact m_puts (j := 8) (by omega) (hg ⟨p0, q0⟩)
theorem m_wire (hb : ¬ hk_rg v 0 60000 → k (some (.int (-2))) (s, lm, hk_RH i0 i1 b, al)) (hg : hk_rg v 0 60000 → k (some (.int (s 41 9))) (hk_u2 s 41 9 v, lm, hk_RH i0 i1 b, al)) : hk_Cl (d + 2) 146 [.ref 40, .int v] (s, lm, hk_RH i0 i1 b, al) k := by
  refine hk_mth hk_m146 rfl rfl (n := 1000) ?_
  refine m_in0 (fun (a : v < 0 ∨ 60000 < v) => ?_) (fun (p0 : ¬ v < 0) (q0 : ¬ 60000 < v) => ?_)
  · refine And.intro (fun _ => ?_) (fun hc => absurd (by decide) hc)
    exact hb (fun q => a.elim q.1 q.2)
  refine And.intro (fun hc => absurd hc (by decide)) (fun _ => ?_)
  exact m_puts (j := 9) (by omega) (hg ⟨p0, q0⟩)
theorem m_docks (hb : ¬ (hk_rg v 0 3 ∧ hk_rg w 0 1000) → k (some (.int (-2))) (s, lm, hk_RH i0 i1 b, al)) (hg : hk_rg v 0 3 ∧ hk_rg w 0 1000 → k (some (.int 1)) (hk_u2 (hk_u2 s 41 10 v) 41 11 w, lm, hk_RH i0 i1 b, al)) : hk_Cl (d + 2) 194 [.ref 40, .int v, .int w] (s, lm, hk_RH i0 i1 b, al) k := by
  refine hk_mth hk_m194 rfl rfl (n := 1000) ?_
  refine m_in0 (fun (a : v < 0 ∨ 3 < v) => ?_) (fun (p0 : ¬ v < 0) (q0 : ¬ 3 < v) => ?_)
  · refine And.intro (fun _ => ?_) (fun hc => absurd (by decide) hc)
    exact hb (fun q => a.elim q.1.1 q.1.2)
  refine And.intro (fun hc => absurd hc (by decide)) (fun _ => ?_)
  refine m_in0 (fun (a : w < 0 ∨ 1000 < w) => ?_) (fun (p1 : ¬ w < 0) (q1 : ¬ 1000 < w) => ?_)
  · refine And.intro (fun hc => absurd hc (by decide)) (fun _ => ?_)
    exact hb (fun q => a.elim q.2.1 q.2.2)
  refine And.intro (fun _ => ?_) (fun hc => absurd (by decide) hc)
  refine hk_stn (i := nI 10) (j := 10) (by simp only [hk_lit, pk_mul, nI_add]) (by omega) (by decide) (fun s1 (hs1 : s1 = hk_u2 s 41 (10) v) => ?_)
  refine hk_stn (i := nI 11) (j := 11) (by simp only [hk_lit, pk_mul, nI_add]) (by omega) (by decide) (fun s2 (hs2 : s2 = hk_u2 s1 41 (11) w) => ?_)
  subst hs2 hs1
  exact hg ⟨⟨p0, q0⟩, ⟨p1, q1⟩⟩
theorem m_storm (hb : ¬ (hk_rg z 0 599 ∧ hk_rg v 0 100000) → k (some (.int (-2))) (s, lm, hk_RH i0 i1 b, al)) (hg : ∀ j, z = nI j → j < 600 → hk_rg z 0 599 ∧ hk_rg v 0 100000 → k (some (.int (s 41 (1848 + j)))) (hk_u2 s 41 (1848 + j) v, lm, hk_RH i0 i1 b, al)) : hk_Cl (d + 3) 148 [.ref 40, .int z, .int v] (s, lm, hk_RH i0 i1 b, al) k := by
  refine hk_mth hk_m148 rfl rfl (n := 1000) ?_
  refine m_in0 (fun (a : z < 0 ∨ 599 < z) => ?_) (fun (p0 : ¬ z < 0) (q0 : ¬ 599 < z) => ?_)
  · refine And.intro (fun _ => ?_) (fun hc => absurd (by decide) hc)
    exact hb (fun q => a.elim q.1.1 q.1.2)
  refine And.intro (fun hc => absurd hc (by decide)) (fun _ => ?_)
  refine m_in0 (fun (a : v < 0 ∨ 100000 < v) => ?_) (fun (p1 : ¬ v < 0) (q1 : ¬ 100000 < v) => ?_)
  · refine And.intro (fun _ => ?_) (fun hc => absurd (by decide) hc)
    exact hb (fun q => a.elim q.2.1 q.2.2)
  refine And.intro (fun hc => absurd hc (by decide)) (fun _ => ?_)
  obtain ⟨j, hj, rfl⟩ := hk_rng (n := 599) (by decide) p0 q0
  refine hk_Cl_arg (hk_v3 (show (1848 : Int32) + nI j = nI (1848 + j) from nI_add 1848 j)) ?_
  exact m_puts (by omega) (hg j rfl (by omega) ⟨⟨p0, q0⟩, ⟨p1, q1⟩⟩)
theorem m_wave (hb : ¬ (hk_rg z 0 89 ∧ hk_rg v 0 100) → k (some (.int (-2))) (s, lm, hk_RH i0 i1 b, al)) (hg : ∀ j, z = nI j → j < 90 → hk_rg z 0 89 ∧ hk_rg v 0 100 → k (some (.int (s 41 (1718 + j)))) (hk_u2 s 41 (1718 + j) v, lm, hk_RH i0 i1 b, al)) : hk_Cl (d + 2) 210 [.ref 40, .int z, .int v] (s, lm, hk_RH i0 i1 b, al) k := by
  refine hk_mth hk_m210 rfl rfl (n := 1000) ?_
  refine m_in0 (fun (a : z < 0 ∨ 89 < z) => ?_) (fun (p0 : ¬ z < 0) (q0 : ¬ 89 < z) => ?_)
  · refine And.intro (fun _ => ?_) (fun hc => absurd (by decide) hc)
    exact hb (fun q => a.elim q.1.1 q.1.2)
  refine And.intro (fun hc => absurd hc (by decide)) (fun _ => ?_)
  refine m_in0 (fun (a : v < 0 ∨ 100 < v) => ?_) (fun (p1 : ¬ v < 0) (q1 : ¬ 100 < v) => ?_)
  · refine And.intro (fun _ => ?_) (fun hc => absurd (by decide) hc)
    exact hb (fun q => a.elim q.2.1 q.2.2)
  refine And.intro (fun hc => absurd hc (by decide)) (fun _ => ?_)
  obtain ⟨j, hj, rfl⟩ := hk_rng (n := 89) (by decide) p0 q0
  refine hk_Cl_arg (hk_v3 (show (1718 : Int32) + nI j = nI (1718 + j) from nI_add 1718 j)) ?_
  exact m_puts (by omega) (hg j rfl (by omega) ⟨⟨p0, q0⟩, ⟨p1, q1⟩⟩)
theorem m_ship (hn : n ≤ 6) (hs : s 41 0 = nI n) (hb : ¬ (hk_rg v 10 1000 ∧ hk_rg z 1 500 ∧ hk_rg w 1 200000 ∧ hk_rg x 0 10000) → k (some (.int (-2))) (s, lm, hk_RH i0 i1 b, al)) (hf : hk_rg v 10 1000 ∧ hk_rg z 1 500 ∧ hk_rg w 1 200000 ∧ hk_rg x 0 10000 → n = 6 → k (some (.int (-4))) (s, lm, hk_RH i0 i1 b, al))
    (hg : hk_rg v 10 1000 ∧ hk_rg z 1 500 ∧ hk_rg w 1 200000 ∧ hk_rg x 0 10000 → n < 6 → k (some (.int (nI n))) (hk_u2 (hk_u2 (hk_u2 (hk_u2 (hk_u2 (hk_u2 (hk_u2 (hk_u2 (hk_u2 (hk_u2 s 41 (20 + 10 * n) v) 41 (20 + 10 * n + 1) z) 41 (20 + 10 * n + 2) w) 41 (20 + 10 * n + 3) x) 41 (20 + 10 * n + 4) 0) 41 (20 + 10 * n + 5) 0) 41 (20 + 10 * n + 6) 0) 41 (20 + 10 * n + 7) 0) 41 (20 + 10 * n + 8) (-1)) 41 0 (nI (n + 1)), lm, hk_RH i0 i1 b, al)) : hk_Cl (d + 3) 135 [.ref 40, .int v, .int z, .int w, .int x] (s, lm, hk_RH i0 i1 b, al) k := by
  refine hk_mth hk_m135 rfl rfl (n := 1000) ?_
  refine m_in0 (fun (a : v < 10 ∨ 1000 < v) => ?_) (fun (p0 : ¬ v < 10) (q0 : ¬ 1000 < v) => ?_)
  · refine And.intro (fun _ => ?_) (fun hc => absurd (by decide) hc)
    exact hb (fun q => a.elim q.1.1 q.1.2)
  refine And.intro (fun hc => absurd hc (by decide)) (fun _ => ?_)
  refine m_in0 (fun (a : z < 1 ∨ 500 < z) => ?_) (fun (p1 : ¬ z < 1) (q1 : ¬ 500 < z) => ?_)
  · refine And.intro (fun _ => ?_) (fun hc => absurd (by decide) hc)
    exact hb (fun q => a.elim q.2.1.1 q.2.1.2)
  refine And.intro (fun hc => absurd hc (by decide)) (fun _ => ?_)
  refine m_in0 (fun (a : w < 1 ∨ 200000 < w) => ?_) (fun (p2 : ¬ w < 1) (q2 : ¬ 200000 < w) => ?_)
  · refine And.intro (fun _ => ?_) (fun hc => absurd (by decide) hc)
    exact hb (fun q => a.elim q.2.2.1.1 q.2.2.1.2)
  refine And.intro (fun hc => absurd hc (by decide)) (fun _ => ?_)
  refine m_in0 (fun (a : x < 0 ∨ 10000 < x) => ?_) (fun (p3 : ¬ x < 0) (q3 : ¬ 10000 < x) => ?_)
  · refine And.intro (fun hc => absurd hc (by decide)) (fun _ => ?_)
    exact hb (fun q => a.elim q.2.2.2.1 q.2.2.2.2)
  refine And.intro (fun _ => ?_) (fun hc => absurd (by decide) hc)
  refine hk_ldi (i := nI 0) (j := 0) (by simp only [hk_lit, pk_mul, nI_add]) (by omega) (by decide) hs ?_
  refine And.intro (fun c1 => ?_) (fun c1 => ?_)
  rotate_left
  · have c1 : ¬ ¬ nI n = nI 6 := c1
    exact hf ⟨⟨p0, q0⟩, ⟨p1, q1⟩, ⟨p2, q2⟩, ⟨p3, q3⟩⟩ (by
      rw [Classical.not_not, nI_eq (by omega) (by omega)] at c1
      exact c1)
  have hn6 : n < 6 := by
    have c1 : ¬ nI n = nI 6 := c1
    rw [nI_eq (by omega) (by omega)] at c1
    omega
  refine hk_ldi (i := nI 0) (j := 0) (by simp only [hk_lit, pk_mul, nI_add]) (by omega) (by decide) hs ?_
  refine hk_stn (i := 20 + 10 * nI n) (j := 20 + 10 * n) (by simp only [hk_lit, pk_mul, nI_add]) (by omega) (by decide) (fun s1 (hs1 : s1 = hk_u2 s 41 (20 + 10 * n) v) => ?_)
  refine hk_stn (i := 20 + 10 * nI n + 1) (j := 20 + 10 * n + 1) (by simp only [hk_lit, pk_mul, nI_add]) (by omega) (by decide) (fun s2 (hs2 : s2 = hk_u2 s1 41 (20 + 10 * n + 1) z) => ?_)
  refine hk_stn (i := 20 + 10 * nI n + 2) (j := 20 + 10 * n + 2) (by simp only [hk_lit, pk_mul, nI_add]) (by omega) (by decide) (fun s3 (hs3 : s3 = hk_u2 s2 41 (20 + 10 * n + 2) w) => ?_)
  refine hk_stn (i := 20 + 10 * nI n + 3) (j := 20 + 10 * n + 3) (by simp only [hk_lit, pk_mul, nI_add]) (by omega) (by decide) (fun s4 (hs4 : s4 = hk_u2 s3 41 (20 + 10 * n + 3) x) => ?_)
  refine hk_hd (n := 1000) (t := 118) rfl ?_
  refine And.intro (fun hc => absurd hc (by decide)) (fun _ => ?_)
  refine hk_stn (i := 20 + 10 * nI n + 4) (j := 20 + 10 * n + 4) (by simp only [hk_lit, pk_mul, nI_add]) (by omega) (by decide) (fun s5 (hs5 : s5 = hk_u2 s4 41 (20 + 10 * n + 4) 0) => ?_)
  refine hk_hd (n := 1000) (t := 118) rfl ?_
  refine And.intro (fun hc => absurd hc (by decide)) (fun _ => ?_)
  refine hk_stn (i := 20 + 10 * nI n + (4 + 1)) (j := 20 + 10 * n + 5) (by simp only [hk_lit, pk_mul, nI_add]) (by omega) (by decide) (fun s6 (hs6 : s6 = hk_u2 s5 41 (20 + 10 * n + 5) 0) => ?_)
  refine hk_hd (n := 1000) (t := 118) rfl ?_
  refine And.intro (fun hc => absurd hc (by decide)) (fun _ => ?_)
  refine hk_stn (i := 20 + 10 * nI n + (4 + 1 + 1)) (j := 20 + 10 * n + 6) (by simp only [hk_lit, pk_mul, nI_add]) (by omega) (by decide) (fun s7 (hs7 : s7 = hk_u2 s6 41 (20 + 10 * n + 6) 0) => ?_)
  refine hk_hd (n := 1000) (t := 118) rfl ?_
  refine And.intro (fun hc => absurd hc (by decide)) (fun _ => ?_)
  refine hk_stn (i := 20 + 10 * nI n + (4 + 1 + 1 + 1)) (j := 20 + 10 * n + 7) (by simp only [hk_lit, pk_mul, nI_add]) (by omega) (by decide) (fun s8 (hs8 : s8 = hk_u2 s7 41 (20 + 10 * n + 7) 0) => ?_)
  refine hk_hd (n := 1000) (t := 118) rfl ?_
  refine And.intro (fun _ => ?_) (fun hc => absurd (by decide) hc)
  refine hk_stn (i := 20 + 10 * nI n + 8) (j := 20 + 10 * n + 8) (by simp only [hk_lit, pk_mul, nI_add]) (by omega) (by decide) (fun s9 (hs9 : s9 = hk_u2 s8 41 (20 + 10 * n + 8) (-1)) => ?_)
  refine m_one (c := 0) (n := n) (by omega) ?_ ?_
  · show s9 41 0 = nI n
    rw [hs9, hk_u2o (by omega), hs8, hk_u2o (by omega), hs7, hk_u2o (by omega), hs6, hk_u2o (by omega), hs5, hk_u2o (by omega), hs4, hk_u2o (by omega), hs3, hk_u2o (by omega), hs2, hk_u2o (by omega), hs1, hk_u2o (by omega)]
    exact hs
  subst hs9 hs8 hs7 hs6 hs5 hs4 hs3 hs2 hs1
  exact hg ⟨⟨p0, q0⟩, ⟨p1, q1⟩, ⟨p2, q2⟩, ⟨p3, q3⟩⟩ hn6
theorem m_hull (hn : n ≤ 4) (hs : s 41 3 = nI n) (hb : ¬ (hk_rg v 0 10 ∧ hk_rg z 1 10 ∧ hk_rg w 0 1000) → k (some (.int (-2))) (s, lm, hk_RH i0 i1 b, al)) (hf : hk_rg v 0 10 ∧ hk_rg z 1 10 ∧ hk_rg w 0 1000 → n = 4 → k (some (.int (-4))) (s, lm, hk_RH i0 i1 b, al))
    (hg : hk_rg v 0 10 ∧ hk_rg z 1 10 ∧ hk_rg w 0 1000 → n < 4 → k (some (.int (nI n))) (hk_u2 (hk_u2 (hk_u2 (hk_u2 s 41 (1666 + 3 * n) v) 41 (1666 + 3 * n + 1) z) 41 (1666 + 3 * n + 2) w) 41 3 (nI (n + 1)), lm, hk_RH i0 i1 b, al)) : hk_Cl (d + 3) 193 [.ref 40, .int v, .int z, .int w] (s, lm, hk_RH i0 i1 b, al) k := by
  refine hk_mth hk_m193 rfl rfl (n := 1000) ?_
  refine m_in0 (fun (a : v < 0 ∨ 10 < v) => ?_) (fun (p0 : ¬ v < 0) (q0 : ¬ 10 < v) => ?_)
  · refine And.intro (fun _ => ?_) (fun hc => absurd (by decide) hc)
    exact hb (fun q => a.elim q.1.1 q.1.2)
  refine And.intro (fun hc => absurd hc (by decide)) (fun _ => ?_)
  refine m_in0 (fun (a : z < 1 ∨ 10 < z) => ?_) (fun (p1 : ¬ z < 1) (q1 : ¬ 10 < z) => ?_)
  · refine And.intro (fun _ => ?_) (fun hc => absurd (by decide) hc)
    exact hb (fun q => a.elim q.2.1.1 q.2.1.2)
  refine And.intro (fun hc => absurd hc (by decide)) (fun _ => ?_)
  refine m_in0 (fun (a : w < 0 ∨ 1000 < w) => ?_) (fun (p2 : ¬ w < 0) (q2 : ¬ 1000 < w) => ?_)
  · refine And.intro (fun hc => absurd hc (by decide)) (fun _ => ?_)
    exact hb (fun q => a.elim q.2.2.1 q.2.2.2)
  refine And.intro (fun _ => ?_) (fun hc => absurd (by decide) hc)
  refine hk_ldi (i := nI 3) (j := 3) (by simp only [hk_lit, pk_mul, nI_add]) (by omega) (by decide) hs ?_
  refine And.intro (fun c1 => ?_) (fun c1 => ?_)
  rotate_left
  · have c1 : ¬ ¬ nI n = nI 4 := c1
    exact hf ⟨⟨p0, q0⟩, ⟨p1, q1⟩, ⟨p2, q2⟩⟩ (by
      rw [Classical.not_not, nI_eq (by omega) (by omega)] at c1
      exact c1)
  have hn6 : n < 4 := by
    have c1 : ¬ nI n = nI 4 := c1
    rw [nI_eq (by omega) (by omega)] at c1
    omega
  refine hk_ldi (i := nI 3) (j := 3) (by simp only [hk_lit, pk_mul, nI_add]) (by omega) (by decide) hs ?_
  refine hk_stn (i := 1666 + 3 * nI n) (j := 1666 + 3 * n) (by simp only [hk_lit, pk_mul, nI_add]) (by omega) (by decide) (fun s1 (hs1 : s1 = hk_u2 s 41 (1666 + 3 * n) v) => ?_)
  refine hk_stn (i := 1666 + 3 * nI n + 1) (j := 1666 + 3 * n + 1) (by simp only [hk_lit, pk_mul, nI_add]) (by omega) (by decide) (fun s2 (hs2 : s2 = hk_u2 s1 41 (1666 + 3 * n + 1) z) => ?_)
  refine hk_stn (i := 1666 + 3 * nI n + 2) (j := 1666 + 3 * n + 2) (by simp only [hk_lit, pk_mul, nI_add]) (by omega) (by decide) (fun s3 (hs3 : s3 = hk_u2 s2 41 (1666 + 3 * n + 2) w) => ?_)
  refine m_one (c := 3) (n := n) (by omega) ?_ ?_
  · show s3 41 3 = nI n
    rw [hs3, hk_u2o (by omega), hs2, hk_u2o (by omega), hs1, hk_u2o (by omega)]
    exact hs
  subst hs3 hs2 hs1
  exact hg ⟨⟨p0, q0⟩, ⟨p1, q1⟩, ⟨p2, q2⟩⟩ hn6
theorem m_work (hn : n ≤ 8) (hs : s 41 6 = nI n) (hb : ¬ (hk_rg v 0 4 ∧ hk_rg z 1 100 ∧ hk_rg w 1 100) → k (some (.int (-2))) (s, lm, hk_RH i0 i1 b, al)) (hf : hk_rg v 0 4 ∧ hk_rg z 1 100 ∧ hk_rg w 1 100 → n = 8 → k (some (.int (-4))) (s, lm, hk_RH i0 i1 b, al))
    (hg : hk_rg v 0 4 ∧ hk_rg z 1 100 ∧ hk_rg w 1 100 → n < 8 → k (some (.int (nI n))) (hk_u2 (hk_u2 (hk_u2 (hk_u2 s 41 (1824 + 3 * n) v) 41 (1824 + 3 * n + 1) z) 41 (1824 + 3 * n + 2) w) 41 6 (nI (n + 1)), lm, hk_RH i0 i1 b, al)) : hk_Cl (d + 3) 213 [.ref 40, .int v, .int z, .int w] (s, lm, hk_RH i0 i1 b, al) k := by
  refine hk_mth hk_m213 rfl rfl (n := 1000) ?_
  refine m_in0 (fun (a : v < 0 ∨ 4 < v) => ?_) (fun (p0 : ¬ v < 0) (q0 : ¬ 4 < v) => ?_)
  · refine And.intro (fun _ => ?_) (fun hc => absurd (by decide) hc)
    exact hb (fun q => a.elim q.1.1 q.1.2)
  refine And.intro (fun hc => absurd hc (by decide)) (fun _ => ?_)
  refine m_in0 (fun (a : z < 1 ∨ 100 < z) => ?_) (fun (p1 : ¬ z < 1) (q1 : ¬ 100 < z) => ?_)
  · refine And.intro (fun _ => ?_) (fun hc => absurd (by decide) hc)
    exact hb (fun q => a.elim q.2.1.1 q.2.1.2)
  refine And.intro (fun hc => absurd hc (by decide)) (fun _ => ?_)
  refine m_in0 (fun (a : w < 1 ∨ 100 < w) => ?_) (fun (p2 : ¬ w < 1) (q2 : ¬ 100 < w) => ?_)
  · refine And.intro (fun hc => absurd hc (by decide)) (fun _ => ?_)
    exact hb (fun q => a.elim q.2.2.1 q.2.2.2)
  refine And.intro (fun _ => ?_) (fun hc => absurd (by decide) hc)
  refine hk_ldi (i := nI 6) (j := 6) (by simp only [hk_lit, pk_mul, nI_add]) (by omega) (by decide) hs ?_
  refine And.intro (fun c1 => ?_) (fun c1 => ?_)
  rotate_left
  · have c1 : ¬ ¬ nI n = nI 8 := c1
    exact hf ⟨⟨p0, q0⟩, ⟨p1, q1⟩, ⟨p2, q2⟩⟩ (by
      rw [Classical.not_not, nI_eq (by omega) (by omega)] at c1
      exact c1)
  have hn6 : n < 8 := by
    have c1 : ¬ nI n = nI 8 := c1
    rw [nI_eq (by omega) (by omega)] at c1
    omega
  refine hk_ldi (i := nI 6) (j := 6) (by simp only [hk_lit, pk_mul, nI_add]) (by omega) (by decide) hs ?_
  refine hk_stn (i := 1824 + 3 * nI n) (j := 1824 + 3 * n) (by simp only [hk_lit, pk_mul, nI_add]) (by omega) (by decide) (fun s1 (hs1 : s1 = hk_u2 s 41 (1824 + 3 * n) v) => ?_)
  refine hk_stn (i := 1824 + 3 * nI n + 1) (j := 1824 + 3 * n + 1) (by simp only [hk_lit, pk_mul, nI_add]) (by omega) (by decide) (fun s2 (hs2 : s2 = hk_u2 s1 41 (1824 + 3 * n + 1) z) => ?_)
  refine hk_stn (i := 1824 + 3 * nI n + 2) (j := 1824 + 3 * n + 2) (by simp only [hk_lit, pk_mul, nI_add]) (by omega) (by decide) (fun s3 (hs3 : s3 = hk_u2 s2 41 (1824 + 3 * n + 2) w) => ?_)
  refine m_one (c := 6) (n := n) (by omega) ?_ ?_
  · show s3 41 6 = nI n
    rw [hs3, hk_u2o (by omega), hs2, hk_u2o (by omega), hs1, hk_u2o (by omega)]
    exact hs
  subst hs3 hs2 hs1
  exact hg ⟨⟨p0, q0⟩, ⟨p1, q1⟩, ⟨p2, q2⟩⟩ hn6
theorem m_hand (hn : n ≤ 8) (hs : s 41 5 = nI n) (hb : ¬ (hk_rg v 0 31 ∧ hk_rg z 1 60) → k (some (.int (-2))) (s, lm, hk_RH i0 i1 b, al)) (hf : hk_rg v 0 31 ∧ hk_rg z 1 60 → n = 8 → k (some (.int (-4))) (s, lm, hk_RH i0 i1 b, al))
    (hg : hk_rg v 0 31 ∧ hk_rg z 1 60 → n < 8 → k (some (.int (nI n))) (hk_u2 (hk_u2 (hk_u2 s 41 (1808 + 2 * n) v) 41 (1808 + 2 * n + 1) z) 41 5 (nI (n + 1)), lm, hk_RH i0 i1 b, al)) : hk_Cl (d + 3) 212 [.ref 40, .int v, .int z] (s, lm, hk_RH i0 i1 b, al) k := by
  refine hk_mth hk_m212 rfl rfl (n := 1000) ?_
  refine m_in0 (fun (a : v < 0 ∨ 31 < v) => ?_) (fun (p0 : ¬ v < 0) (q0 : ¬ 31 < v) => ?_)
  · refine And.intro (fun _ => ?_) (fun hc => absurd (by decide) hc)
    exact hb (fun q => a.elim q.1.1 q.1.2)
  refine And.intro (fun hc => absurd hc (by decide)) (fun _ => ?_)
  refine m_in0 (fun (a : z < 1 ∨ 60 < z) => ?_) (fun (p1 : ¬ z < 1) (q1 : ¬ 60 < z) => ?_)
  · refine And.intro (fun hc => absurd hc (by decide)) (fun _ => ?_)
    exact hb (fun q => a.elim q.2.1 q.2.2)
  refine And.intro (fun _ => ?_) (fun hc => absurd (by decide) hc)
  refine hk_ldi (i := nI 5) (j := 5) (by simp only [hk_lit, pk_mul, nI_add]) (by omega) (by decide) hs ?_
  refine And.intro (fun c1 => ?_) (fun c1 => ?_)
  rotate_left
  · have c1 : ¬ ¬ nI n = nI 8 := c1
    exact hf ⟨⟨p0, q0⟩, ⟨p1, q1⟩⟩ (by
      rw [Classical.not_not, nI_eq (by omega) (by omega)] at c1
      exact c1)
  have hn6 : n < 8 := by
    have c1 : ¬ nI n = nI 8 := c1
    rw [nI_eq (by omega) (by omega)] at c1
    omega
  refine hk_ldi (i := nI 5) (j := 5) (by simp only [hk_lit, pk_mul, nI_add]) (by omega) (by decide) hs ?_
  refine hk_stn (i := 1808 + 2 * nI n) (j := 1808 + 2 * n) (by simp only [hk_lit, pk_mul, nI_add]) (by omega) (by decide) (fun s1 (hs1 : s1 = hk_u2 s 41 (1808 + 2 * n) v) => ?_)
  refine hk_ldi (i := nI 5) (j := 5) (by simp only [hk_lit, pk_mul, nI_add]) (by omega) (by decide) ((show s1 41 5 = s 41 5 by rw [hs1, hk_u2o (by omega)]).trans hs) ?_
  refine hk_stn (i := 1808 + 2 * nI n + 1) (j := 1808 + 2 * n + 1) (by simp only [hk_lit, pk_mul, nI_add]) (by omega) (by decide) (fun s2 (hs2 : s2 = hk_u2 s1 41 (1808 + 2 * n + 1) z) => ?_)
  refine m_one (c := 5) (n := n) (by omega) ?_ ?_
  · show s2 41 5 = nI n
    rw [hs2, hk_u2o (by omega), hs1, hk_u2o (by omega)]
    exact hs
  subst hs2 hs1
  exact hg ⟨⟨p0, q0⟩, ⟨p1, q1⟩⟩ hn6
theorem m_clear (h1 : k (some (.int (s 41 3))) (hk_u2 s 41 3 0, lm, hk_RH i0 i1 b, al)) : hk_Cl (d + 2) 205 [.ref 40] (s, lm, hk_RH i0 i1 b, al) k := by
  refine hk_mth hk_m205 rfl rfl (n := 1000) ?_
  exact m_puts (j := 3) (by omega) h1
theorem m_drain (h1 : k (some (.int (s 41 4))) (hk_u2 s 41 4 0, lm, hk_RH i0 i1 b, al)) : hk_Cl (d + 2) 207 [.ref 40] (s, lm, hk_RH i0 i1 b, al) k := by
  refine hk_mth hk_m207 rfl rfl (n := 1000) ?_
  exact m_puts (j := 4) (by omega) h1
end HKM2
