/-! ===== counts, a new row's digest, images not kept, tests, hands on fresh objects ===== -/
section HKQ
variable {d t c n : Nat} {r v w x y z : Int32} {s : Nat → Nat → Int32} {lm : Nat → Nat → Int64} {i0 i1 b : Nat} {al : List Nat} {k : Option Value → hk_H → Prop} {hp : hk_H}
theorem hk_lda {j N p q : Nat} {scr : Option (Nat × (Nat → Int32))} {cd cs : List hk_E} {L : hk_L} {st : List Value} {i : Int32} {rr : Nat → Nat → Nat} (e : i = nI j) (hj : j < N) (hN : N < 2 ^ 31) (hv : rr p j = q) (w : hk_wp d scr cd k n cs L (hk_rv q :: st) (s, lm, rr, al)) : vp_in i N ∧ hk_wp d scr cd k n cs L (hk_rv (rr p i.toNatClampNeg) :: st) (s, lm, rr, al) := by
  subst e hv
  rw [nI_clamp (by omega)]
  exact ⟨vp_in_nI hj hN, w⟩
theorem hk_rg0 {m : Nat} (hm : m < 2 ^ 31) (h : hk_rg v 0 (nI m)) : ∃ j, j ≤ m ∧ v = nI j := hk_rng hm h.1 h.2
theorem c_from0 (hb : ¬ hk_rg z 0 1 → k (some (.int (-2))) (s, lm, hk_RH i0 i1 b, al)) (h0 : i0 = 0 ∧ i1 = 0) (hn : hk_rg z 0 1 → k (some (.int (-3))) (s, lm, hk_RH i0 i1 b, al)) : hk_Cl (d + 2) 126 [.ref 0, .int z] (s, lm, hk_RH i0 i1 b, al) k := by
  refine hk_mth hk_m126 rfl rfl (n := 1000) ?_
  refine c_within0 (fun (a : z < 0 ∨ 1 < z) => ?_) (fun (p0 : ¬ z < 0) (q0 : ¬ 1 < z) => ?_)
  · refine And.intro (fun hc => absurd hc (by decide)) (fun _ => ?_)
    exact hb (fun q => a.elim q.1 q.2)
  refine And.intro (fun _ => ?_) (fun hc => absurd (by decide) hc)
  obtain ⟨j, hj, rfl⟩ := hk_rng (n := 1) (by decide) p0 q0
  refine hk_lda (i := nI j) (j := j) (q := 0) rfl (by omega) (by decide) ?_ ?_
  · obtain ⟨rfl, rfl⟩ := h0
    match j, hj with
    | 0, _ => rfl
    | 1, _ => rfl
  exact hn ⟨p0, q0⟩
theorem m_from0 (hb : ¬ hk_rg z 0 1 → k (some (.int (-2))) (s, lm, hk_RH i0 i1 b, al)) (h0 : ∀ j, j < 2 → s 44 j = 0) (hn : hk_rg z 0 1 → k (some (.int (-3))) (s, lm, hk_RH i0 i1 b, al)) : hk_Cl (d + 2) 218 [.ref 40, .int z] (s, lm, hk_RH i0 i1 b, al) k := by
  refine hk_mth hk_m218 rfl rfl (n := 1000) ?_
  refine m_in0 (fun (a : z < 0 ∨ 1 < z) => ?_) (fun (p0 : ¬ z < 0) (q0 : ¬ 1 < z) => ?_)
  · refine And.intro (fun hc => absurd hc (by decide)) (fun _ => ?_)
    exact hb (fun q => a.elim q.1 q.2)
  refine And.intro (fun _ => ?_) (fun hc => absurd (by decide) hc)
  obtain ⟨j, hj, rfl⟩ := hk_rng (n := 1) (by decide) p0 q0
  refine hk_ldi (i := nI j) (j := j) (by simp only [hk_lit, pk_mul, nI_add]) (by omega) (by decide) (h0 j (by omega)) ?_
  refine And.intro (fun hc => absurd hc (by decide)) (fun _ => ?_)
  exact hn ⟨p0, q0⟩

/-- what is counted, with no ship -/
def hk_cnt (s : Nat → Nat → Int32) (j : Nat) : Int32 := match j with
  | 0 => s 2 3
  | 1 => s 4 3
  | 2 => s 6 3
  | 3 => s 12 3
  | 4 => s 14 3
  | 5 => s 16 3
  | 6 => s 18 3
  | 7 => s 1 12
  | _ => 0
theorem c_sunk0 (hs : s 2 3 = 0) (h1 : k (some (.int 0)) (s, lm, hk_RH i0 i1 b, al)) : hk_Cl (d + 1) 129 [.ref 1] (s, lm, hk_RH i0 i1 b, al) k := by
  have a1 : s 2 3 ≤ 0 := by rw [hs]; decide
  refine hk_mth hk_m129 rfl rfl (n := 1000) ?_
  refine hk_hd (n := 1000) (t := 4) rfl ?_
  refine And.intro (fun _ => ?_) (fun hc => absurd a1 hc)
  exact h1
theorem c_countOf0 (hs : s 2 3 = 0) {j : Nat} (hj : j < 9) (h1 : k (some (.int (hk_cnt s j))) (s, lm, hk_RH i0 i1 b, al)) : hk_Cl (d + 2) 128 [.ref 1, .int (nI j)] (s, lm, hk_RH i0 i1 b, al) k := by
  match j, hj, h1 with
  | 0, _, h1 =>
    refine hk_mth hk_m128 rfl rfl (n := 1000) ?_
    refine And.intro (fun _ => ?_) (fun hc => absurd (by decide) hc)
    exact h1
  | 1, _, h1 =>
    refine hk_mth hk_m128 rfl rfl (n := 1000) ?_
    refine And.intro (fun hc => absurd hc (by decide)) (fun _ => ?_)
    refine And.intro (fun _ => ?_) (fun hc => absurd (by decide) hc)
    exact h1
  | 2, _, h1 =>
    refine hk_mth hk_m128 rfl rfl (n := 1000) ?_
    refine And.intro (fun hc => absurd hc (by decide)) (fun _ => ?_)
    refine And.intro (fun hc => absurd hc (by decide)) (fun _ => ?_)
    refine And.intro (fun _ => ?_) (fun hc => absurd (by decide) hc)
    exact h1
  | 3, _, h1 =>
    refine hk_mth hk_m128 rfl rfl (n := 1000) ?_
    refine And.intro (fun hc => absurd hc (by decide)) (fun _ => ?_)
    refine And.intro (fun hc => absurd hc (by decide)) (fun _ => ?_)
    refine And.intro (fun hc => absurd hc (by decide)) (fun _ => ?_)
    refine And.intro (fun _ => ?_) (fun hc => absurd (by decide) hc)
    exact h1
  | 4, _, h1 =>
    refine hk_mth hk_m128 rfl rfl (n := 1000) ?_
    refine And.intro (fun hc => absurd hc (by decide)) (fun _ => ?_)
    refine And.intro (fun hc => absurd hc (by decide)) (fun _ => ?_)
    refine And.intro (fun hc => absurd hc (by decide)) (fun _ => ?_)
    refine And.intro (fun hc => absurd hc (by decide)) (fun _ => ?_)
    refine And.intro (fun _ => ?_) (fun hc => absurd (by decide) hc)
    exact h1
  | 5, _, h1 =>
    refine hk_mth hk_m128 rfl rfl (n := 1000) ?_
    refine And.intro (fun hc => absurd hc (by decide)) (fun _ => ?_)
    refine And.intro (fun hc => absurd hc (by decide)) (fun _ => ?_)
    refine And.intro (fun hc => absurd hc (by decide)) (fun _ => ?_)
    refine And.intro (fun hc => absurd hc (by decide)) (fun _ => ?_)
    refine And.intro (fun hc => absurd hc (by decide)) (fun _ => ?_)
    refine And.intro (fun _ => ?_) (fun hc => absurd (by decide) hc)
    exact h1
  | 6, _, h1 =>
    refine hk_mth hk_m128 rfl rfl (n := 1000) ?_
    refine And.intro (fun hc => absurd hc (by decide)) (fun _ => ?_)
    refine And.intro (fun hc => absurd hc (by decide)) (fun _ => ?_)
    refine And.intro (fun hc => absurd hc (by decide)) (fun _ => ?_)
    refine And.intro (fun hc => absurd hc (by decide)) (fun _ => ?_)
    refine And.intro (fun hc => absurd hc (by decide)) (fun _ => ?_)
    refine And.intro (fun hc => absurd hc (by decide)) (fun _ => ?_)
    refine And.intro (fun _ => ?_) (fun hc => absurd (by decide) hc)
    exact h1
  | 7, _, h1 =>
    refine hk_mth hk_m128 rfl rfl (n := 1000) ?_
    refine And.intro (fun hc => absurd hc (by decide)) (fun _ => ?_)
    refine And.intro (fun hc => absurd hc (by decide)) (fun _ => ?_)
    refine And.intro (fun hc => absurd hc (by decide)) (fun _ => ?_)
    refine And.intro (fun hc => absurd hc (by decide)) (fun _ => ?_)
    refine And.intro (fun hc => absurd hc (by decide)) (fun _ => ?_)
    refine And.intro (fun hc => absurd hc (by decide)) (fun _ => ?_)
    refine And.intro (fun hc => absurd hc (by decide)) (fun _ => ?_)
    refine And.intro (fun _ => ?_) (fun hc => absurd (by decide) hc)
    exact h1
  | 8, _, h1 =>
    refine hk_mth hk_m128 rfl rfl (n := 1000) ?_
    refine And.intro (fun hc => absurd hc (by decide)) (fun _ => ?_)
    refine And.intro (fun hc => absurd hc (by decide)) (fun _ => ?_)
    refine And.intro (fun hc => absurd hc (by decide)) (fun _ => ?_)
    refine And.intro (fun hc => absurd hc (by decide)) (fun _ => ?_)
    refine And.intro (fun hc => absurd hc (by decide)) (fun _ => ?_)
    refine And.intro (fun hc => absurd hc (by decide)) (fun _ => ?_)
    refine And.intro (fun hc => absurd hc (by decide)) (fun _ => ?_)
    refine And.intro (fun hc => absurd hc (by decide)) (fun _ => ?_)
    exact c_sunk0 hs h1
theorem c_count0 (hs : s 2 3 = 0) (hb : ¬ hk_rg z 0 8 → k (some (.int (-2))) (s, lm, hk_RH i0 i1 b, al)) (hg : ∀ j, z = nI j → j < 9 → hk_rg z 0 8 → k (some (.int (hk_cnt s j))) (s, lm, hk_RH i0 i1 b, al)) : hk_Cl (d + 3) 127 [.ref 0, .int z] (s, lm, hk_RH i0 i1 b, al) k := by
  refine hk_mth hk_m127 rfl rfl (n := 1000) ?_
  refine c_within0 (fun (a : z < 0 ∨ 8 < z) => ?_) (fun (p0 : ¬ z < 0) (q0 : ¬ 8 < z) => ?_)
  · refine And.intro (fun _ => ?_) (fun hc => absurd (by decide) hc)
    exact hb (fun q => a.elim q.1 q.2)
  refine And.intro (fun hc => absurd hc (by decide)) (fun _ => ?_)
  obtain ⟨j, hj, rfl⟩ := hk_rng (n := 8) (by decide) p0 q0
  exact c_countOf0 hs (by omega) (hg j rfl (by omega) ⟨p0, q0⟩)
theorem m_countOf0 (hs : s 41 0 = 0) {j : Nat} (hj : j < 9) (h1 : k (some (.int (if j = 8 then 0 else s 41 j))) (s, lm, hk_RH i0 i1 b, al)) : hk_Cl (d + 2) 220 [.ref 40, .int (nI j)] (s, lm, hk_RH i0 i1 b, al) k := by
  refine hk_mth hk_m220 rfl rfl (n := 1000) ?_
  refine hk_hd (n := 1000) (t := 4) rfl ?_
  refine hk_ldi (i := nI 0) (j := 0) (by simp only [hk_lit, pk_mul, nI_add]) (by omega) (by decide) hs ?_
  refine And.intro (fun _ => ?_) (fun hc => absurd (by decide) hc)
  by_cases h : j = 8
  · subst h
    refine And.intro (fun hc => absurd hc (by decide)) (fun _ => ?_)
    rw [if_pos rfl] at h1
    exact h1
  · rw [if_neg h] at h1
    refine And.intro (fun _ => ?_) (fun hc => absurd (show ¬ nI j = nI 8 from hk_ne_lit h (by omega) (by omega)) hc)
    refine hk_ldi (i := nI j) (j := j) (by simp only [hk_lit, pk_mul, nI_add]) (by omega) (by decide) rfl ?_
    exact h1
theorem m_count0 (hs : s 41 0 = 0) (hb : ¬ hk_rg z 0 8 → k (some (.int (-2))) (s, lm, hk_RH i0 i1 b, al)) (hg : ∀ j, z = nI j → j < 9 → hk_rg z 0 8 → k (some (.int (if j = 8 then 0 else s 41 j))) (s, lm, hk_RH i0 i1 b, al)) : hk_Cl (d + 3) 219 [.ref 40, .int z] (s, lm, hk_RH i0 i1 b, al) k := by
  refine hk_mth hk_m219 rfl rfl (n := 1000) ?_
  refine m_in0 (fun (a : z < 0 ∨ 8 < z) => ?_) (fun (p0 : ¬ z < 0) (q0 : ¬ 8 < z) => ?_)
  · refine And.intro (fun _ => ?_) (fun hc => absurd (by decide) hc)
    exact hb (fun q => a.elim q.1 q.2)
  refine And.intro (fun hc => absurd hc (by decide)) (fun _ => ?_)
  obtain ⟨j, hj, rfl⟩ := hk_rng (n := 8) (by decide) p0 q0
  exact m_countOf0 hs (by omega) (hg j rfl (by omega) ⟨p0, q0⟩)
/-- numbers mixed into a long -/
def hk_mxf (f : Nat → Int32) : Nat → Nat → Int64 → Int64
  | 0, _, h => h
  | m + 1, i, h => hk_mxf f m (i + 1) (31 * h + (f i).toInt64)
theorem c_mixed {h u : Int64} (h1 : k (some (.long (31 * h + u))) hp) : hk_Cl (d + 1) 131 [.long h, .long u] hp k := by
  refine hk_mth hk_m131 rfl rfl (n := 1000) ?_
  exact h1
theorem c_mxRow_2 (hw : hk_tw s 2 n) {i m : Nat} (hi : i < n) (hm : m ≤ hk_co 2) {h : Int64} (h1 : k (some (.long (hk_mxf (fun j => s (2 + 1) (i * hk_co 2 + j)) m 0 h))) (s, lm, hk_RH i0 i1 b, al)) : hk_Cl (d + 2) 132 [.ref 2, .long h, .int (nI i), .int (nI m)] (s, lm, hk_RH i0 i1 b, al) k := by
  have ht : hk_tb 2 := by simp [hk_tb]
  have hm2 : m < 100 := by have := hk_co2 ht; omega
  have loop : ∀ (q j : Nat) (g : Int64), j + q = m → k (some (.long (hk_mxf (fun j => s (2 + 1) (i * hk_co 2 + j)) q j g))) (s, lm, hk_RH i0 i1 b, al) → hk_Rn (d + 1) none hk_c132 (hk_sfx 6 hk_c132) [some (.ref 2), some (.long h), none, some (.int (nI i)), some (.int (nI m)), some (.long g), none, some (.int (nI j))] [] (s, lm, hk_RH i0 i1 b, al) k := by
    intro q
    induction q with
    | zero =>
      intro j g hj hk
      have e : j = m := by omega
      subst e
      refine hk_hd (n := 1000) (t := 6) rfl ?_
      refine And.intro (fun _ => ?_) (fun hc => absurd (Int32.le_refl _) hc)
      exact hk
    | succ q ih =>
      intro j g hj hk
      have a1 : ¬ nI m ≤ nI j := hk_nlt (by omega) (by omega)
      refine hk_hd (n := 1000) (t := 6) rfl ?_
      refine And.intro (fun hc => absurd hc a1) (fun _ => ?_)
      refine c_get_in ht hw hi (by omega) ?_
      refine c_mixed ?_
      exact hk_Rn_cast (by rw [← nI_1]; rfl) (ih (j + 1) _ (by omega) hk)
  refine hk_mth hk_m132 rfl rfl (n := 1000) ?_
  exact loop m 0 h (by omega) h1
/-- all rows of a table -/
def hk_mxR_2 (s : Nat → Nat → Int32) : Nat → Nat → Int64 → Int64
  | 0, _, h => h
  | m + 1, i, h => hk_mxR_2 s m (i + 1) (hk_mxf (fun j => s (2 + 1) (i * hk_co 2 + j)) (hk_co 2) 0 h)
theorem c_mxRows_2 (hw : hk_tw s 2 n) {h : Int64} (h1 : k (some (.long (hk_mxR_2 s n 0 h))) (s, lm, hk_RH i0 i1 b, al)) : hk_Cl (d + 3) 133 [.ref 2, .long h] (s, lm, hk_RH i0 i1 b, al) k := by
  have ht : hk_tb 2 := by simp [hk_tb]
  have hn2 : n < 1000 := by have := hk_mo31 ht; have := hw.2.2.2; have : hk_mo 2 ≤ 150 := by decide
                            omega
  have loop : ∀ (q j : Nat) (g : Int64), j + q = n → k (some (.long (hk_mxR_2 s q j g))) (s, lm, hk_RH i0 i1 b, al) → hk_Rn (d + 2) none hk_c133 (hk_sfx 5 hk_c133) [some (.ref 2), some (.long h), none, some (.long g), none, some (.int (nI j))] [] (s, lm, hk_RH i0 i1 b, al) k := by
    intro q
    induction q with
    | zero =>
      intro j g hj hk
      have e : j = n := by omega
      subst e
      have a1 : s 2 3 ≤ nI j := by rw [hw.2.2.1]; exact Int32.le_refl _
      refine hk_hd (n := 1000) (t := 5) rfl ?_
      refine And.intro (fun _ => ?_) (fun hc => absurd a1 hc)
      exact hk
    | succ q ih =>
      intro j g hj hk
      have a1 : ¬ s 2 3 ≤ nI j := by rw [hw.2.2.1]; exact hk_nlt (by omega) (by omega)
      have e1 : [Value.ref 2, .long g, .int (nI j), .int (s 2 1)] = [Value.ref 2, .long g, .int (nI j), .int (nI (hk_co 2))] := by rw [hw.2.1]
      refine hk_hd (n := 1000) (t := 5) rfl ?_
      refine And.intro (fun hc => absurd hc a1) (fun _ => ?_)
      refine hk_Cl_arg e1 ?_
      refine c_mxRow_2 hw (by omega) (Nat.le_refl _) ?_
      exact hk_Rn_cast (by rw [← nI_1]; rfl) (ih (j + 1) _ (by omega) hk)
  refine hk_mth hk_m133 rfl rfl (n := 1000) ?_
  exact loop n 0 h (by omega) h1
theorem c_mxRow_4 (hw : hk_tw s 4 n) {i m : Nat} (hi : i < n) (hm : m ≤ hk_co 4) {h : Int64} (h1 : k (some (.long (hk_mxf (fun j => s (4 + 1) (i * hk_co 4 + j)) m 0 h))) (s, lm, hk_RH i0 i1 b, al)) : hk_Cl (d + 2) 132 [.ref 4, .long h, .int (nI i), .int (nI m)] (s, lm, hk_RH i0 i1 b, al) k := by
  have ht : hk_tb 4 := by simp [hk_tb]
  have hm2 : m < 100 := by have := hk_co2 ht; omega
  have loop : ∀ (q j : Nat) (g : Int64), j + q = m → k (some (.long (hk_mxf (fun j => s (4 + 1) (i * hk_co 4 + j)) q j g))) (s, lm, hk_RH i0 i1 b, al) → hk_Rn (d + 1) none hk_c132 (hk_sfx 6 hk_c132) [some (.ref 4), some (.long h), none, some (.int (nI i)), some (.int (nI m)), some (.long g), none, some (.int (nI j))] [] (s, lm, hk_RH i0 i1 b, al) k := by
    intro q
    induction q with
    | zero =>
      intro j g hj hk
      have e : j = m := by omega
      subst e
      refine hk_hd (n := 1000) (t := 6) rfl ?_
      refine And.intro (fun _ => ?_) (fun hc => absurd (Int32.le_refl _) hc)
      exact hk
    | succ q ih =>
      intro j g hj hk
      have a1 : ¬ nI m ≤ nI j := hk_nlt (by omega) (by omega)
      refine hk_hd (n := 1000) (t := 6) rfl ?_
      refine And.intro (fun hc => absurd hc a1) (fun _ => ?_)
      refine c_get_in ht hw hi (by omega) ?_
      refine c_mixed ?_
      exact hk_Rn_cast (by rw [← nI_1]; rfl) (ih (j + 1) _ (by omega) hk)
  refine hk_mth hk_m132 rfl rfl (n := 1000) ?_
  exact loop m 0 h (by omega) h1
/-- all rows of a table -/
def hk_mxR_4 (s : Nat → Nat → Int32) : Nat → Nat → Int64 → Int64
  | 0, _, h => h
  | m + 1, i, h => hk_mxR_4 s m (i + 1) (hk_mxf (fun j => s (4 + 1) (i * hk_co 4 + j)) (hk_co 4) 0 h)
theorem c_mxRows_4 (hw : hk_tw s 4 n) {h : Int64} (h1 : k (some (.long (hk_mxR_4 s n 0 h))) (s, lm, hk_RH i0 i1 b, al)) : hk_Cl (d + 3) 133 [.ref 4, .long h] (s, lm, hk_RH i0 i1 b, al) k := by
  have ht : hk_tb 4 := by simp [hk_tb]
  have hn2 : n < 1000 := by have := hk_mo31 ht; have := hw.2.2.2; have : hk_mo 4 ≤ 150 := by decide
                            omega
  have loop : ∀ (q j : Nat) (g : Int64), j + q = n → k (some (.long (hk_mxR_4 s q j g))) (s, lm, hk_RH i0 i1 b, al) → hk_Rn (d + 2) none hk_c133 (hk_sfx 5 hk_c133) [some (.ref 4), some (.long h), none, some (.long g), none, some (.int (nI j))] [] (s, lm, hk_RH i0 i1 b, al) k := by
    intro q
    induction q with
    | zero =>
      intro j g hj hk
      have e : j = n := by omega
      subst e
      have a1 : s 4 3 ≤ nI j := by rw [hw.2.2.1]; exact Int32.le_refl _
      refine hk_hd (n := 1000) (t := 5) rfl ?_
      refine And.intro (fun _ => ?_) (fun hc => absurd a1 hc)
      exact hk
    | succ q ih =>
      intro j g hj hk
      have a1 : ¬ s 4 3 ≤ nI j := by rw [hw.2.2.1]; exact hk_nlt (by omega) (by omega)
      have e1 : [Value.ref 4, .long g, .int (nI j), .int (s 4 1)] = [Value.ref 4, .long g, .int (nI j), .int (nI (hk_co 4))] := by rw [hw.2.1]
      refine hk_hd (n := 1000) (t := 5) rfl ?_
      refine And.intro (fun hc => absurd hc a1) (fun _ => ?_)
      refine hk_Cl_arg e1 ?_
      refine c_mxRow_4 hw (by omega) (Nat.le_refl _) ?_
      exact hk_Rn_cast (by rw [← nI_1]; rfl) (ih (j + 1) _ (by omega) hk)
  refine hk_mth hk_m133 rfl rfl (n := 1000) ?_
  exact loop n 0 h (by omega) h1
theorem c_mxRow_6 (hw : hk_tw s 6 n) {i m : Nat} (hi : i < n) (hm : m ≤ hk_co 6) {h : Int64} (h1 : k (some (.long (hk_mxf (fun j => s (6 + 1) (i * hk_co 6 + j)) m 0 h))) (s, lm, hk_RH i0 i1 b, al)) : hk_Cl (d + 2) 132 [.ref 6, .long h, .int (nI i), .int (nI m)] (s, lm, hk_RH i0 i1 b, al) k := by
  have ht : hk_tb 6 := by simp [hk_tb]
  have hm2 : m < 100 := by have := hk_co2 ht; omega
  have loop : ∀ (q j : Nat) (g : Int64), j + q = m → k (some (.long (hk_mxf (fun j => s (6 + 1) (i * hk_co 6 + j)) q j g))) (s, lm, hk_RH i0 i1 b, al) → hk_Rn (d + 1) none hk_c132 (hk_sfx 6 hk_c132) [some (.ref 6), some (.long h), none, some (.int (nI i)), some (.int (nI m)), some (.long g), none, some (.int (nI j))] [] (s, lm, hk_RH i0 i1 b, al) k := by
    intro q
    induction q with
    | zero =>
      intro j g hj hk
      have e : j = m := by omega
      subst e
      refine hk_hd (n := 1000) (t := 6) rfl ?_
      refine And.intro (fun _ => ?_) (fun hc => absurd (Int32.le_refl _) hc)
      exact hk
    | succ q ih =>
      intro j g hj hk
      have a1 : ¬ nI m ≤ nI j := hk_nlt (by omega) (by omega)
      refine hk_hd (n := 1000) (t := 6) rfl ?_
      refine And.intro (fun hc => absurd hc a1) (fun _ => ?_)
      refine c_get_in ht hw hi (by omega) ?_
      refine c_mixed ?_
      exact hk_Rn_cast (by rw [← nI_1]; rfl) (ih (j + 1) _ (by omega) hk)
  refine hk_mth hk_m132 rfl rfl (n := 1000) ?_
  exact loop m 0 h (by omega) h1
/-- all rows of a table -/
def hk_mxR_6 (s : Nat → Nat → Int32) : Nat → Nat → Int64 → Int64
  | 0, _, h => h
  | m + 1, i, h => hk_mxR_6 s m (i + 1) (hk_mxf (fun j => s (6 + 1) (i * hk_co 6 + j)) (hk_co 6) 0 h)
theorem c_mxRows_6 (hw : hk_tw s 6 n) {h : Int64} (h1 : k (some (.long (hk_mxR_6 s n 0 h))) (s, lm, hk_RH i0 i1 b, al)) : hk_Cl (d + 3) 133 [.ref 6, .long h] (s, lm, hk_RH i0 i1 b, al) k := by
  have ht : hk_tb 6 := by simp [hk_tb]
  have hn2 : n < 1000 := by have := hk_mo31 ht; have := hw.2.2.2; have : hk_mo 6 ≤ 150 := by decide
                            omega
  have loop : ∀ (q j : Nat) (g : Int64), j + q = n → k (some (.long (hk_mxR_6 s q j g))) (s, lm, hk_RH i0 i1 b, al) → hk_Rn (d + 2) none hk_c133 (hk_sfx 5 hk_c133) [some (.ref 6), some (.long h), none, some (.long g), none, some (.int (nI j))] [] (s, lm, hk_RH i0 i1 b, al) k := by
    intro q
    induction q with
    | zero =>
      intro j g hj hk
      have e : j = n := by omega
      subst e
      have a1 : s 6 3 ≤ nI j := by rw [hw.2.2.1]; exact Int32.le_refl _
      refine hk_hd (n := 1000) (t := 5) rfl ?_
      refine And.intro (fun _ => ?_) (fun hc => absurd a1 hc)
      exact hk
    | succ q ih =>
      intro j g hj hk
      have a1 : ¬ s 6 3 ≤ nI j := by rw [hw.2.2.1]; exact hk_nlt (by omega) (by omega)
      have e1 : [Value.ref 6, .long g, .int (nI j), .int (s 6 1)] = [Value.ref 6, .long g, .int (nI j), .int (nI (hk_co 6))] := by rw [hw.2.1]
      refine hk_hd (n := 1000) (t := 5) rfl ?_
      refine And.intro (fun hc => absurd hc a1) (fun _ => ?_)
      refine hk_Cl_arg e1 ?_
      refine c_mxRow_6 hw (by omega) (Nat.le_refl _) ?_
      exact hk_Rn_cast (by rw [← nI_1]; rfl) (ih (j + 1) _ (by omega) hk)
  refine hk_mth hk_m133 rfl rfl (n := 1000) ?_
  exact loop n 0 h (by omega) h1
theorem c_mxRow_8 (hw : hk_tw s 8 n) {i m : Nat} (hi : i < n) (hm : m ≤ hk_co 8) {h : Int64} (h1 : k (some (.long (hk_mxf (fun j => s (8 + 1) (i * hk_co 8 + j)) m 0 h))) (s, lm, hk_RH i0 i1 b, al)) : hk_Cl (d + 2) 132 [.ref 8, .long h, .int (nI i), .int (nI m)] (s, lm, hk_RH i0 i1 b, al) k := by
  have ht : hk_tb 8 := by simp [hk_tb]
  have hm2 : m < 100 := by have := hk_co2 ht; omega
  have loop : ∀ (q j : Nat) (g : Int64), j + q = m → k (some (.long (hk_mxf (fun j => s (8 + 1) (i * hk_co 8 + j)) q j g))) (s, lm, hk_RH i0 i1 b, al) → hk_Rn (d + 1) none hk_c132 (hk_sfx 6 hk_c132) [some (.ref 8), some (.long h), none, some (.int (nI i)), some (.int (nI m)), some (.long g), none, some (.int (nI j))] [] (s, lm, hk_RH i0 i1 b, al) k := by
    intro q
    induction q with
    | zero =>
      intro j g hj hk
      have e : j = m := by omega
      subst e
      refine hk_hd (n := 1000) (t := 6) rfl ?_
      refine And.intro (fun _ => ?_) (fun hc => absurd (Int32.le_refl _) hc)
      exact hk
    | succ q ih =>
      intro j g hj hk
      have a1 : ¬ nI m ≤ nI j := hk_nlt (by omega) (by omega)
      refine hk_hd (n := 1000) (t := 6) rfl ?_
      refine And.intro (fun hc => absurd hc a1) (fun _ => ?_)
      refine c_get_in ht hw hi (by omega) ?_
      refine c_mixed ?_
      exact hk_Rn_cast (by rw [← nI_1]; rfl) (ih (j + 1) _ (by omega) hk)
  refine hk_mth hk_m132 rfl rfl (n := 1000) ?_
  exact loop m 0 h (by omega) h1
/-- all rows of a table -/
def hk_mxR_8 (s : Nat → Nat → Int32) : Nat → Nat → Int64 → Int64
  | 0, _, h => h
  | m + 1, i, h => hk_mxR_8 s m (i + 1) (hk_mxf (fun j => s (8 + 1) (i * hk_co 8 + j)) (hk_co 8) 0 h)
theorem c_mxRows_8 (hw : hk_tw s 8 n) {h : Int64} (h1 : k (some (.long (hk_mxR_8 s n 0 h))) (s, lm, hk_RH i0 i1 b, al)) : hk_Cl (d + 3) 133 [.ref 8, .long h] (s, lm, hk_RH i0 i1 b, al) k := by
  have ht : hk_tb 8 := by simp [hk_tb]
  have hn2 : n < 1000 := by have := hk_mo31 ht; have := hw.2.2.2; have : hk_mo 8 ≤ 150 := by decide
                            omega
  have loop : ∀ (q j : Nat) (g : Int64), j + q = n → k (some (.long (hk_mxR_8 s q j g))) (s, lm, hk_RH i0 i1 b, al) → hk_Rn (d + 2) none hk_c133 (hk_sfx 5 hk_c133) [some (.ref 8), some (.long h), none, some (.long g), none, some (.int (nI j))] [] (s, lm, hk_RH i0 i1 b, al) k := by
    intro q
    induction q with
    | zero =>
      intro j g hj hk
      have e : j = n := by omega
      subst e
      have a1 : s 8 3 ≤ nI j := by rw [hw.2.2.1]; exact Int32.le_refl _
      refine hk_hd (n := 1000) (t := 5) rfl ?_
      refine And.intro (fun _ => ?_) (fun hc => absurd a1 hc)
      exact hk
    | succ q ih =>
      intro j g hj hk
      have a1 : ¬ s 8 3 ≤ nI j := by rw [hw.2.2.1]; exact hk_nlt (by omega) (by omega)
      have e1 : [Value.ref 8, .long g, .int (nI j), .int (s 8 1)] = [Value.ref 8, .long g, .int (nI j), .int (nI (hk_co 8))] := by rw [hw.2.1]
      refine hk_hd (n := 1000) (t := 5) rfl ?_
      refine And.intro (fun hc => absurd hc a1) (fun _ => ?_)
      refine hk_Cl_arg e1 ?_
      refine c_mxRow_8 hw (by omega) (Nat.le_refl _) ?_
      exact hk_Rn_cast (by rw [← nI_1]; rfl) (ih (j + 1) _ (by omega) hk)
  refine hk_mth hk_m133 rfl rfl (n := 1000) ?_
  exact loop n 0 h (by omega) h1
theorem c_mxRow_10 (hw : hk_tw s 10 n) {i m : Nat} (hi : i < n) (hm : m ≤ hk_co 10) {h : Int64} (h1 : k (some (.long (hk_mxf (fun j => s (10 + 1) (i * hk_co 10 + j)) m 0 h))) (s, lm, hk_RH i0 i1 b, al)) : hk_Cl (d + 2) 132 [.ref 10, .long h, .int (nI i), .int (nI m)] (s, lm, hk_RH i0 i1 b, al) k := by
  have ht : hk_tb 10 := by simp [hk_tb]
  have hm2 : m < 100 := by have := hk_co2 ht; omega
  have loop : ∀ (q j : Nat) (g : Int64), j + q = m → k (some (.long (hk_mxf (fun j => s (10 + 1) (i * hk_co 10 + j)) q j g))) (s, lm, hk_RH i0 i1 b, al) → hk_Rn (d + 1) none hk_c132 (hk_sfx 6 hk_c132) [some (.ref 10), some (.long h), none, some (.int (nI i)), some (.int (nI m)), some (.long g), none, some (.int (nI j))] [] (s, lm, hk_RH i0 i1 b, al) k := by
    intro q
    induction q with
    | zero =>
      intro j g hj hk
      have e : j = m := by omega
      subst e
      refine hk_hd (n := 1000) (t := 6) rfl ?_
      refine And.intro (fun _ => ?_) (fun hc => absurd (Int32.le_refl _) hc)
      exact hk
    | succ q ih =>
      intro j g hj hk
      have a1 : ¬ nI m ≤ nI j := hk_nlt (by omega) (by omega)
      refine hk_hd (n := 1000) (t := 6) rfl ?_
      refine And.intro (fun hc => absurd hc a1) (fun _ => ?_)
      refine c_get_in ht hw hi (by omega) ?_
      refine c_mixed ?_
      exact hk_Rn_cast (by rw [← nI_1]; rfl) (ih (j + 1) _ (by omega) hk)
  refine hk_mth hk_m132 rfl rfl (n := 1000) ?_
  exact loop m 0 h (by omega) h1
/-- all rows of a table -/
def hk_mxR_10 (s : Nat → Nat → Int32) : Nat → Nat → Int64 → Int64
  | 0, _, h => h
  | m + 1, i, h => hk_mxR_10 s m (i + 1) (hk_mxf (fun j => s (10 + 1) (i * hk_co 10 + j)) (hk_co 10) 0 h)
theorem c_mxRows_10 (hw : hk_tw s 10 n) {h : Int64} (h1 : k (some (.long (hk_mxR_10 s n 0 h))) (s, lm, hk_RH i0 i1 b, al)) : hk_Cl (d + 3) 133 [.ref 10, .long h] (s, lm, hk_RH i0 i1 b, al) k := by
  have ht : hk_tb 10 := by simp [hk_tb]
  have hn2 : n < 1000 := by have := hk_mo31 ht; have := hw.2.2.2; have : hk_mo 10 ≤ 150 := by decide
                            omega
  have loop : ∀ (q j : Nat) (g : Int64), j + q = n → k (some (.long (hk_mxR_10 s q j g))) (s, lm, hk_RH i0 i1 b, al) → hk_Rn (d + 2) none hk_c133 (hk_sfx 5 hk_c133) [some (.ref 10), some (.long h), none, some (.long g), none, some (.int (nI j))] [] (s, lm, hk_RH i0 i1 b, al) k := by
    intro q
    induction q with
    | zero =>
      intro j g hj hk
      have e : j = n := by omega
      subst e
      have a1 : s 10 3 ≤ nI j := by rw [hw.2.2.1]; exact Int32.le_refl _
      refine hk_hd (n := 1000) (t := 5) rfl ?_
      refine And.intro (fun _ => ?_) (fun hc => absurd a1 hc)
      exact hk
    | succ q ih =>
      intro j g hj hk
      have a1 : ¬ s 10 3 ≤ nI j := by rw [hw.2.2.1]; exact hk_nlt (by omega) (by omega)
      have e1 : [Value.ref 10, .long g, .int (nI j), .int (s 10 1)] = [Value.ref 10, .long g, .int (nI j), .int (nI (hk_co 10))] := by rw [hw.2.1]
      refine hk_hd (n := 1000) (t := 5) rfl ?_
      refine And.intro (fun hc => absurd hc a1) (fun _ => ?_)
      refine hk_Cl_arg e1 ?_
      refine c_mxRow_10 hw (by omega) (Nat.le_refl _) ?_
      exact hk_Rn_cast (by rw [← nI_1]; rfl) (ih (j + 1) _ (by omega) hk)
  refine hk_mth hk_m133 rfl rfl (n := 1000) ?_
  exact loop n 0 h (by omega) h1
theorem m_mixed {a m : Nat} (ha : a + m ≤ 2448) {h : Int64} (h1 : k (some (.long (hk_mxf (fun j => s 41 (a + j)) m 0 h))) (s, lm, hk_RH i0 i1 b, al)) : hk_Cl (d + 1) 222 [.ref 40, .long h, .int (nI a), .int (nI m)] (s, lm, hk_RH i0 i1 b, al) k := by
  have loop : ∀ (q j : Nat) (g : Int64), j + q = m → k (some (.long (hk_mxf (fun j => s 41 (a + j)) q j g))) (s, lm, hk_RH i0 i1 b, al) → hk_Rn d none hk_c222 (hk_sfx 6 hk_c222) [some (.ref 40), some (.long h), none, some (.int (nI a)), some (.int (nI m)), some (.long g), none, some (.int (nI j))] [] (s, lm, hk_RH i0 i1 b, al) k := by
    intro q
    induction q with
    | zero =>
      intro j g hj hk
      have e : j = m := by omega
      subst e
      refine hk_hd (n := 1000) (t := 6) rfl ?_
      refine And.intro (fun _ => ?_) (fun hc => absurd (Int32.le_refl _) hc)
      exact hk
    | succ q ih =>
      intro j g hj hk
      have a1 : ¬ nI m ≤ nI j := hk_nlt (by omega) (by omega)
      refine hk_hd (n := 1000) (t := 6) rfl ?_
      refine And.intro (fun hc => absurd hc a1) (fun _ => ?_)
      refine hk_ldi (i := nI a + nI j) (j := a + j) (by simp only [hk_lit, pk_mul, nI_add]) (by omega) (by decide) rfl ?_
      exact hk_Rn_cast (by rw [← nI_1]; rfl) (ih (j + 1) _ (by omega) hk)
  refine hk_mth hk_m222 rfl rfl (n := 1000) ?_
  exact loop m 0 h (by omega) h1
end HKQ

