/-! ===== calls of single numbers and of new rows, the class -/
section HKB
variable {d n : Nat} {v z w x : Int32} {s : Nat → Nat → Int32} {lm : Nat → Nat → Int64} {i0 i1 b : Nat} {al : List Nat} {k : Option Value → hk_H → Prop}
abbrev hk_rg (v lo hi : Int32) : Prop := ¬ v < lo ∧ ¬ hi < v
theorem c_bound (hb : ¬ hk_rg v 0 1000 → k (some (.int (-2))) (s, lm, hk_RH i0 i1 b, al)) (hg : hk_rg v 0 1000 → k (some (.int (s 1 13))) (hk_u2 s 1 13 v, lm, hk_RH i0 i1 b, al)) : hk_Cl (d + 2) 20 [.ref 0, .int v] (s, lm, hk_RH i0 i1 b, al) k := by
  refine hk_mth hk_m20 rfl rfl (n := 1000) ?_
  refine c_within0 (fun (a : v < 0 ∨ 1000 < v) => ?_) (fun (p0 : ¬ v < 0) (q0 : ¬ 1000 < v) => ?_)
  · refine And.intro (fun hc => absurd hc (by decide)) (fun _ => ?_)
    exact hb (fun q => a.elim q.1 q.2)
  refine And.intro (fun _ => ?_) (fun hc => absurd (by decide) hc)
  exact hg ⟨p0, q0⟩
theorem c_wire (hb : ¬ hk_rg v 0 60000 → k (some (.int (-2))) (s, lm, hk_RH i0 i1 b, al)) (hg : hk_rg v 0 60000 → k (some (.int (s 1 14))) (hk_u2 s 1 14 v, lm, hk_RH i0 i1 b, al)) : hk_Cl (d + 2) 21 [.ref 0, .int v] (s, lm, hk_RH i0 i1 b, al) k := by
  refine hk_mth hk_m21 rfl rfl (n := 1000) ?_
  refine c_within0 (fun (a : v < 0 ∨ 60000 < v) => ?_) (fun (p0 : ¬ v < 0) (q0 : ¬ 60000 < v) => ?_)
  · refine And.intro (fun hc => absurd hc (by decide)) (fun _ => ?_)
    exact hb (fun q => a.elim q.1 q.2)
  refine And.intro (fun _ => ?_) (fun hc => absurd (by decide) hc)
  exact hg ⟨p0, q0⟩
theorem c_docks (hb : ¬ (hk_rg v 0 3 ∧ hk_rg w 0 1000) → k (some (.int (-2))) (s, lm, hk_RH i0 i1 b, al)) (hg : hk_rg v 0 3 ∧ hk_rg w 0 1000 → k (some (.int 1)) (hk_u2 (hk_u2 (hk_u2 s 29 11 0) 1 15 v) 1 16 w, lm, hk_RH i0 i1 b, al)) : hk_Cl (d + 2) 80 [.ref 0, .int v, .int w] (s, lm, hk_RH i0 i1 b, al) k := by
  refine hk_mth hk_m80 rfl rfl (n := 1000) ?_
  refine c_within0 (fun (a : v < 0 ∨ 3 < v) => ?_) (fun (p0 : ¬ v < 0) (q0 : ¬ 3 < v) => ?_)
  · refine And.intro (fun _ => ?_) (fun hc => absurd (by decide) hc)
    exact hb (fun q => a.elim q.1.1 q.1.2)
  refine And.intro (fun hc => absurd hc (by decide)) (fun _ => ?_)
  refine c_within0 (fun (a : w < 0 ∨ 1000 < w) => ?_) (fun (p1 : ¬ w < 0) (q1 : ¬ 1000 < w) => ?_)
  · refine And.intro (fun hc => absurd hc (by decide)) (fun _ => ?_)
    exact hb (fun q => a.elim q.2.1 q.2.2)
  refine And.intro (fun _ => ?_) (fun hc => absurd (by decide) hc)
  refine c_forget ?_
  exact hg ⟨⟨p0, q0⟩, ⟨p1, q1⟩⟩
theorem c_storm (hb : ¬ (hk_rg z 0 599 ∧ hk_rg v 0 100000) → k (some (.int (-2))) (s, lm, hk_RH i0 i1 b, al)) (hg : ∀ j, z = nI j → j < 600 → hk_rg z 0 599 ∧ hk_rg v 0 100000 → k (some (.int (s 21 j))) (hk_u2 s 21 j v, lm, hk_RH i0 i1 b, al)) : hk_Cl (d + 3) 24 [.ref 0, .int z, .int v] (s, lm, hk_RH i0 i1 b, al) k := by
  refine hk_mth hk_m24 rfl rfl (n := 1000) ?_
  refine c_isMonth (fun (p0 : ¬ z < 0) (q0 : ¬ 599 < z) => ?_) (fun (a : z < 0 ∨ 599 < z) => ?_)
  rotate_left
  · refine And.intro (fun _ => ?_) (fun hc => absurd (by decide) hc)
    exact hb (fun q => a.elim q.1.1 q.1.2)
  refine And.intro (fun hc => absurd hc (by decide)) (fun _ => ?_)
  refine c_within0 (fun (a : v < 0 ∨ 100000 < v) => ?_) (fun (p1 : ¬ v < 0) (q1 : ¬ 100000 < v) => ?_)
  · refine And.intro (fun hc => absurd hc (by decide)) (fun _ => ?_)
    exact hb (fun q => a.elim q.2.1 q.2.2)
  refine And.intro (fun _ => ?_) (fun hc => absurd (by decide) hc)
  obtain ⟨j, hj, rfl⟩ := hk_rng (n := 599) (by decide) p0 q0
  refine hk_ldi (i := nI j) (j := j) (by simp only [hk_lit, pk_mul, nI_add]) (by omega) (by decide) rfl ?_
  refine hk_sti (i := nI j) (j := j) (by simp only [hk_lit, pk_mul, nI_add]) (by omega) (by decide) ?_
  exact hg j rfl (by omega) ⟨⟨p0, q0⟩, ⟨p1, q1⟩⟩
theorem c_wave (hb : ¬ (hk_rg z 0 89 ∧ hk_rg v 0 100) → k (some (.int (-2))) (s, lm, hk_RH i0 i1 b, al)) (hg : ∀ j, z = nI j → j < 90 → hk_rg z 0 89 ∧ hk_rg v 0 100 → k (some (.int (s 22 j))) (hk_u2 s 22 j v, lm, hk_RH i0 i1 b, al)) : hk_Cl (d + 2) 108 [.ref 0, .int z, .int v] (s, lm, hk_RH i0 i1 b, al) k := by
  refine hk_mth hk_m108 rfl rfl (n := 1000) ?_
  refine c_within0 (fun (a : z < 0 ∨ 89 < z) => ?_) (fun (p0 : ¬ z < 0) (q0 : ¬ 89 < z) => ?_)
  · refine And.intro (fun _ => ?_) (fun hc => absurd (by decide) hc)
    exact hb (fun q => a.elim q.1.1 q.1.2)
  refine And.intro (fun hc => absurd hc (by decide)) (fun _ => ?_)
  refine c_within0 (fun (a : v < 0 ∨ 100 < v) => ?_) (fun (p1 : ¬ v < 0) (q1 : ¬ 100 < v) => ?_)
  · refine And.intro (fun hc => absurd hc (by decide)) (fun _ => ?_)
    exact hb (fun q => a.elim q.2.1 q.2.2)
  refine And.intro (fun _ => ?_) (fun hc => absurd (by decide) hc)
  obtain ⟨j, hj, rfl⟩ := hk_rng (n := 89) (by decide) p0 q0
  refine hk_ldi (i := nI j) (j := j) (by simp only [hk_lit, pk_mul, nI_add]) (by omega) (by decide) rfl ?_
  refine hk_sti (i := nI j) (j := j) (by simp only [hk_lit, pk_mul, nI_add]) (by omega) (by decide) ?_
  exact hg j rfl (by omega) ⟨⟨p0, q0⟩, ⟨p1, q1⟩⟩
theorem hk_full_lt {t : Nat} (ht : hk_tb t) (hw : hk_tw s t n) (h : s t 3 < s t 0) : n < hk_mo t := by
  rw [hw.1, hw.2.2.1, nI_ltI (by have := hk_mo31 ht; have := hw.2.2.2; omega) (by have := hk_mo31 ht; omega)] at h
  exact h
theorem hk_full_eq {t : Nat} (ht : hk_tb t) (hw : hk_tw s t n) (h : s t 0 ≤ s t 3) : n = hk_mo t := by
  rw [hw.1, hw.2.2.1, nI_leI (by have := hk_mo31 ht; omega) (by have := hk_mo31 ht; have := hw.2.2.2; omega)] at h
  have := hw.2.2.2
  omega
theorem c_ship (hw : hk_tw s 2 n) (hb : ¬ (hk_rg v 10 1000 ∧ hk_rg z 1 500 ∧ hk_rg w 1 200000 ∧ hk_rg x 0 10000) → k (some (.int (-2))) (s, lm, hk_RH i0 i1 b, al)) (hf : hk_rg v 10 1000 ∧ hk_rg z 1 500 ∧ hk_rg w 1 200000 ∧ hk_rg x 0 10000 → n = 6 → k (some (.int (-4))) (s, lm, hk_RH i0 i1 b, al))
    (hg : hk_rg v 10 1000 ∧ hk_rg z 1 500 ∧ hk_rg w 1 200000 ∧ hk_rg x 0 10000 → n < 6 → ∀ s2, hk_add s s2 2 n [v, z, w, x, 0] → k (some (.int (nI n))) (hk_u2 s2 3 (n * 9 + 8) (-1), lm, hk_RH i0 i1 b, al)) : hk_Cl (d + 3) 11 [.ref 0, .int v, .int z, .int w, .int x] (s, lm, hk_RH i0 i1 b, al) k := by
  have ht : hk_tb 2 := by simp [hk_tb]
  refine hk_mth hk_m11 rfl rfl (n := 1000) ?_
  refine c_within0 (fun (a : v < 10 ∨ 1000 < v) => ?_) (fun (p0 : ¬ v < 10) (q0 : ¬ 1000 < v) => ?_)
  · refine And.intro (fun _ => ?_) (fun hc => absurd (by decide) hc)
    exact hb (fun q => a.elim q.1.1 q.1.2)
  refine And.intro (fun hc => absurd hc (by decide)) (fun _ => ?_)
  refine c_within0 (fun (a : z < 1 ∨ 500 < z) => ?_) (fun (p1 : ¬ z < 1) (q1 : ¬ 500 < z) => ?_)
  · refine And.intro (fun _ => ?_) (fun hc => absurd (by decide) hc)
    exact hb (fun q => a.elim q.2.1.1 q.2.1.2)
  refine And.intro (fun hc => absurd hc (by decide)) (fun _ => ?_)
  refine c_within0 (fun (a : w < 1 ∨ 200000 < w) => ?_) (fun (p2 : ¬ w < 1) (q2 : ¬ 200000 < w) => ?_)
  · refine And.intro (fun _ => ?_) (fun hc => absurd (by decide) hc)
    exact hb (fun q => a.elim q.2.2.1.1 q.2.2.1.2)
  refine And.intro (fun hc => absurd hc (by decide)) (fun _ => ?_)
  refine c_within0 (fun (a : x < 0 ∨ 10000 < x) => ?_) (fun (p3 : ¬ x < 0) (q3 : ¬ 10000 < x) => ?_)
  · refine And.intro (fun hc => absurd hc (by decide)) (fun _ => ?_)
    exact hb (fun q => a.elim q.2.2.2.1 q.2.2.2.2)
  refine And.intro (fun _ => ?_) (fun hc => absurd (by decide) hc)
  refine c_full ht (fun (a : s 2 0 ≤ s 2 3) => ?_) (fun (a : s 2 3 < s 2 0) => ?_)
  · refine And.intro (fun hc => absurd hc (by decide)) (fun _ => ?_)
    exact hf ⟨⟨p0, q0⟩, ⟨p1, q1⟩, ⟨p2, q2⟩, ⟨p3, q3⟩⟩ (hk_full_eq ht hw a)
  refine And.intro (fun _ => ?_) (fun hc => absurd (by decide) hc)
  have hn := hk_full_lt ht hw a
  refine c_add ht hw hn fun s2 h2 => ?_
  refine c_put_in (n := n + 1) (i := n) (j := 8) ht ?_ hn (by decide) ?_
  · exact ⟨(h2.1 2 0 (fun q => absurd q.1 (by decide)) (by decide)).trans hw.1, (h2.1 2 1 (fun q => absurd q.1 (by decide)) (by decide)).trans hw.2.1, h2.2.1, hn⟩
  exact hg ⟨⟨p0, q0⟩, ⟨p1, q1⟩, ⟨p2, q2⟩, ⟨p3, q3⟩⟩ hn s2 h2
theorem c_hull (hw : hk_tw s 12 n) (hb : ¬ (hk_rg v 0 10 ∧ hk_rg z 1 10 ∧ hk_rg w 0 1000) → k (some (.int (-2))) (s, lm, hk_RH i0 i1 b, al)) (hf : hk_rg v 0 10 ∧ hk_rg z 1 10 ∧ hk_rg w 0 1000 → n = 4 → k (some (.int (-4))) (s, lm, hk_RH i0 i1 b, al))
    (hg : hk_rg v 0 10 ∧ hk_rg z 1 10 ∧ hk_rg w 0 1000 → n < 4 → ∀ s2, hk_add (hk_u2 s 29 11 0) s2 12 n [v, z, w, 0, 0] → k (some (.int (nI n))) (s2, lm, hk_RH i0 i1 b, al)) : hk_Cl (d + 3) 78 [.ref 0, .int v, .int z, .int w] (s, lm, hk_RH i0 i1 b, al) k := by
  have ht : hk_tb 12 := by simp [hk_tb]
  refine hk_mth hk_m78 rfl rfl (n := 1000) ?_
  refine c_within0 (fun (a : v < 0 ∨ 10 < v) => ?_) (fun (p0 : ¬ v < 0) (q0 : ¬ 10 < v) => ?_)
  · refine And.intro (fun _ => ?_) (fun hc => absurd (by decide) hc)
    exact hb (fun q => a.elim q.1.1 q.1.2)
  refine And.intro (fun hc => absurd hc (by decide)) (fun _ => ?_)
  refine c_within0 (fun (a : z < 1 ∨ 10 < z) => ?_) (fun (p1 : ¬ z < 1) (q1 : ¬ 10 < z) => ?_)
  · refine And.intro (fun _ => ?_) (fun hc => absurd (by decide) hc)
    exact hb (fun q => a.elim q.2.1.1 q.2.1.2)
  refine And.intro (fun hc => absurd hc (by decide)) (fun _ => ?_)
  refine c_within0 (fun (a : w < 0 ∨ 1000 < w) => ?_) (fun (p2 : ¬ w < 0) (q2 : ¬ 1000 < w) => ?_)
  · refine And.intro (fun hc => absurd hc (by decide)) (fun _ => ?_)
    exact hb (fun q => a.elim q.2.2.1 q.2.2.2)
  refine And.intro (fun _ => ?_) (fun hc => absurd (by decide) hc)
  refine c_full ht (fun (a : s 12 0 ≤ s 12 3) => ?_) (fun (a : s 12 3 < s 12 0) => ?_)
  · refine And.intro (fun hc => absurd hc (by decide)) (fun _ => ?_)
    exact hf ⟨⟨p0, q0⟩, ⟨p1, q1⟩, ⟨p2, q2⟩⟩ (hk_full_eq ht hw a)
  refine And.intro (fun _ => ?_) (fun hc => absurd (by decide) hc)
  have hn := hk_full_lt ht hw a
  refine c_forget ?_
  refine c_add ht (n := n) ?_ hn fun s2 h2 => hg ⟨⟨p0, q0⟩, ⟨p1, q1⟩, ⟨p2, q2⟩⟩ hn s2 h2
  exact ⟨by rw [hk_u2o (by omega)]; exact hw.1, by rw [hk_u2o (by omega)]; exact hw.2.1, by rw [hk_u2o (by omega)]; exact hw.2.2.1, hw.2.2.2⟩
theorem c_hand (hw : hk_tw s 16 n) (hb : ¬ (hk_rg v 0 31 ∧ hk_rg z 1 60) → k (some (.int (-2))) (s, lm, hk_RH i0 i1 b, al)) (hf : hk_rg v 0 31 ∧ hk_rg z 1 60 → n = 8 → k (some (.int (-4))) (s, lm, hk_RH i0 i1 b, al))
    (hg : hk_rg v 0 31 ∧ hk_rg z 1 60 → n < 8 → ∀ s2, hk_add s s2 16 n [v, z, 0, 0, 0] → k (some (.int (nI n))) (s2, lm, hk_RH i0 i1 b, al)) : hk_Cl (d + 3) 110 [.ref 0, .int v, .int z] (s, lm, hk_RH i0 i1 b, al) k := by
  have ht : hk_tb 16 := by simp [hk_tb]
  refine hk_mth hk_m110 rfl rfl (n := 1000) ?_
  refine c_within0 (fun (a : v < 0 ∨ 31 < v) => ?_) (fun (p0 : ¬ v < 0) (q0 : ¬ 31 < v) => ?_)
  · refine And.intro (fun _ => ?_) (fun hc => absurd (by decide) hc)
    exact hb (fun q => a.elim q.1.1 q.1.2)
  refine And.intro (fun hc => absurd hc (by decide)) (fun _ => ?_)
  refine c_within0 (fun (a : z < 1 ∨ 60 < z) => ?_) (fun (p1 : ¬ z < 1) (q1 : ¬ 60 < z) => ?_)
  · refine And.intro (fun hc => absurd hc (by decide)) (fun _ => ?_)
    exact hb (fun q => a.elim q.2.1 q.2.2)
  refine And.intro (fun _ => ?_) (fun hc => absurd (by decide) hc)
  refine c_full ht (fun (a : s 16 0 ≤ s 16 3) => ?_) (fun (a : s 16 3 < s 16 0) => ?_)
  · refine And.intro (fun hc => absurd hc (by decide)) (fun _ => ?_)
    exact hf ⟨⟨p0, q0⟩, ⟨p1, q1⟩⟩ (hk_full_eq ht hw a)
  refine And.intro (fun _ => ?_) (fun hc => absurd (by decide) hc)
  have hn := hk_full_lt ht hw a
  exact c_add ht hw hn fun s2 h2 => hg ⟨⟨p0, q0⟩, ⟨p1, q1⟩⟩ hn s2 h2
theorem c_work (hw : hk_tw s 18 n) (hb : ¬ (hk_rg v 0 4 ∧ hk_rg z 1 100 ∧ hk_rg w 1 100) → k (some (.int (-2))) (s, lm, hk_RH i0 i1 b, al)) (hf : hk_rg v 0 4 ∧ hk_rg z 1 100 ∧ hk_rg w 1 100 → n = 8 → k (some (.int (-4))) (s, lm, hk_RH i0 i1 b, al))
    (hg : hk_rg v 0 4 ∧ hk_rg z 1 100 ∧ hk_rg w 1 100 → n < 8 → ∀ s2, hk_add s s2 18 n [v, z, w, 0, 0] → k (some (.int (nI n))) (s2, lm, hk_RH i0 i1 b, al)) : hk_Cl (d + 3) 111 [.ref 0, .int v, .int z, .int w] (s, lm, hk_RH i0 i1 b, al) k := by
  have ht : hk_tb 18 := by simp [hk_tb]
  refine hk_mth hk_m111 rfl rfl (n := 1000) ?_
  refine c_within0 (fun (a : v < 0 ∨ 4 < v) => ?_) (fun (p0 : ¬ v < 0) (q0 : ¬ 4 < v) => ?_)
  · refine And.intro (fun _ => ?_) (fun hc => absurd (by decide) hc)
    exact hb (fun q => a.elim q.1.1 q.1.2)
  refine And.intro (fun hc => absurd hc (by decide)) (fun _ => ?_)
  refine c_within0 (fun (a : z < 1 ∨ 100 < z) => ?_) (fun (p1 : ¬ z < 1) (q1 : ¬ 100 < z) => ?_)
  · refine And.intro (fun _ => ?_) (fun hc => absurd (by decide) hc)
    exact hb (fun q => a.elim q.2.1.1 q.2.1.2)
  refine And.intro (fun hc => absurd hc (by decide)) (fun _ => ?_)
  refine c_within0 (fun (a : w < 1 ∨ 100 < w) => ?_) (fun (p2 : ¬ w < 1) (q2 : ¬ 100 < w) => ?_)
  · refine And.intro (fun hc => absurd hc (by decide)) (fun _ => ?_)
    exact hb (fun q => a.elim q.2.2.1 q.2.2.2)
  refine And.intro (fun _ => ?_) (fun hc => absurd (by decide) hc)
  refine c_full ht (fun (a : s 18 0 ≤ s 18 3) => ?_) (fun (a : s 18 3 < s 18 0) => ?_)
  · refine And.intro (fun hc => absurd hc (by decide)) (fun _ => ?_)
    exact hf ⟨⟨p0, q0⟩, ⟨p1, q1⟩, ⟨p2, q2⟩⟩ (hk_full_eq ht hw a)
  refine And.intro (fun _ => ?_) (fun hc => absurd (by decide) hc)
  have hn := hk_full_lt ht hw a
  exact c_add ht hw hn fun s2 h2 => hg ⟨⟨p0, q0⟩, ⟨p1, q1⟩, ⟨p2, q2⟩⟩ hn s2 h2
theorem c_test (hw : hk_tw s 14 n) (hz : z = 0 ∨ z = 1) (hb : ¬ hk_rg v 0 4095 → k (some (.int (-2))) (s, lm, hk_RH i0 i1 b, al)) (hf : hk_rg v 0 4095 → n = 20 → k (some (.int (-4))) (s, lm, hk_RH i0 i1 b, al))
    (hg : hk_rg v 0 4095 → n < 20 → ∀ s2, hk_add s s2 14 n [v, z, 0, 0, 0] → k (some (.int (nI n))) (s2, lm, hk_RH i0 i1 b, al)) : hk_Cl (d + 3) 101 [.ref 0, .int v, .int z] (s, lm, hk_RH i0 i1 b, al) k := by
  have ht : hk_tb 14 := by simp [hk_tb]
  refine hk_mth hk_m101 rfl rfl (n := 1000) ?_
  refine c_within0 (fun (a : v < 0 ∨ 4095 < v) => ?_) (fun (p0 : ¬ v < 0) (q0 : ¬ 4095 < v) => ?_)
  · refine And.intro (fun hc => absurd hc (by decide)) (fun _ => ?_)
    exact hb (fun q => a.elim q.1 q.2)
  refine And.intro (fun _ => ?_) (fun hc => absurd (by decide) hc)
  refine c_full ht (fun (a : s 14 0 ≤ s 14 3) => ?_) (fun (a : s 14 3 < s 14 0) => ?_)
  · refine And.intro (fun hc => absurd hc (by decide)) (fun _ => ?_)
    exact hf ⟨p0, q0⟩ (hk_full_eq ht hw a)
  refine And.intro (fun _ => ?_) (fun hc => absurd (by decide) hc)
  have hn := hk_full_lt ht hw a
  rcases hz with rfl | rfl
  · refine And.intro (fun _ => ?_) (fun hc => absurd (by decide) hc)
    exact c_add ht hw hn fun s2 h2 => hg ⟨p0, q0⟩ hn s2 h2
  · refine And.intro (fun hc => absurd hc (by decide)) (fun _ => ?_)
    exact c_add ht hw hn fun s2 h2 => hg ⟨p0, q0⟩ hn s2 h2
theorem c_clear (h1 : k (some (.int (s 12 3))) (hk_u2 (hk_u2 s 29 11 0) 12 3 0, lm, hk_RH i0 i1 b, al)) : hk_Cl (d + 2) 99 [.ref 0] (s, lm, hk_RH i0 i1 b, al) k := by
  refine hk_mth hk_m99 rfl rfl (n := 1000) ?_
  refine c_forget ?_
  refine c_empty (by simp [hk_tb]) ?_
  exact h1
theorem c_drain (h1 : k (some (.int (s 14 3))) (hk_u2 s 14 3 0, lm, hk_RH i0 i1 b, al)) : hk_Cl (d + 2) 102 [.ref 0] (s, lm, hk_RH i0 i1 b, al) k := by
  refine hk_mth hk_m102 rfl rfl (n := 1000) ?_
  refine c_empty (by simp [hk_tb]) ?_
  exact h1
end HKB
