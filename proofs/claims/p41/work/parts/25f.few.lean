/-! ===== counts, a new row's digest, images not kept, tests, hands on fresh objects ===== -/
section HKQ
variable {d t c n : Nat} {r v w x y z : Int32} {s : Nat → Nat → Int32} {lm : Nat → Nat → Int64} {i0 i1 b : Nat} {al : List Nat} {k : Option Value → hk_H → Prop} {hp : hk_H}
theorem hk_lda {j N p q : Nat} {scr : Option (Nat × (Nat → Int32))} {cd cs : List hk_E} {L : hk_L} {st : List Value} {i : Int32} {rr : Nat → Nat → Nat} (e : i = nI j) (hj : j < N) (hN : N < 2 ^ 31) (hv : rr p j = q) (w : hk_wp d scr cd k n cs L (hk_rv q :: st) (s, lm, rr, al)) : vp_in i N ∧ hk_wp d scr cd k n cs L (hk_rv (rr p i.toNatClampNeg) :: st) (s, lm, rr, al) := by
  subst e hv
  rw [nI_clamp (by omega)]
  exact ⟨vp_in_nI hj hN, w⟩
/-- numbers mixed into a long -/
def hk_mxf (f : Nat → Int32) : Nat → Nat → Int64 → Int64
  | 0, _, h => h
  | m + 1, i, h => hk_mxf f m (i + 1) (31 * h + (f i).toInt64)
theorem c_mixed {h u : Int64} (h1 : k (some (.long (31 * h + u))) hp) : hk_Cl (d + 1) 131 [.long h, .long u] hp k := by
  refine hk_mth hk_m131 rfl rfl (n := 1000) ?_
  exact h1
theorem c_mxRow_2 (hw : hk_tw s 2 n) {i m : Nat} (hi : i < n) (hm : m ≤ hk_co 2) {h : Int64} (h1 : k (some (.long (hk_mxf (fun j => s (2 + 1) (i * hk_co 2 + j)) m 0 h))) (s, lm, hk_RH i0 i1 b, al)) : hk_Cl (d + 2) 132 [.ref 2, .long h, .int (nI i), .int (nI m)] (s, lm, hk_RH i0 i1 b, al) k := by
  have ht : hk_tb 2 := by simp [hk_tb]
  have hm2 : m < 100 := by have := hk_co2 ht; omega
  have loop : ∀ (q j : Nat) (g : Int64), j + q = m → k (some (.long (hk_mxf (fun j => s (2 + 1) (i * hk_co 2 + j)) q j g))) (s, lm, hk_RH i0 i1 b, al) → hk_Rn (d + 1) none hk_c132 (hk_sfx 6 hk_c132) [some (.ref 2), some (.long h), none, some (.int (nI i)), some (.int (nI m)), some (.long g), none, some (.int (nI j))] [] (s, lm, hk_RH i0 i1 b, al) k := by
    intro q
    induction q with
    | zero =>
      intro j g hj hk
      have e : j = m := by omega
      subst e
      refine hk_hd (n := 1000) (t := 6) rfl ?_
      refine And.intro (fun _ => ?_) (fun hc => absurd (Int32.le_refl _) hc)
      exact hk
    | succ q ih =>
      intro j g hj hk
      have a1 : ¬ nI m ≤ nI j := hk_nlt (by omega) (by omega)
      refine hk_hd (n := 1000) (t := 6) rfl ?_
      refine And.intro (fun hc => absurd hc a1) (fun _ => ?_)
      refine c_get_in ht hw hi (by omega) ?_
      refine c_mixed ?_
      exact hk_Rn_cast (by rw [← nI_1]; rfl) (ih (j + 1) _ (by omega) hk)
  refine hk_mth hk_m132 rfl rfl (n := 1000) ?_
  exact loop m 0 h (by omega) h1
theorem c_mxRow_4 (hw : hk_tw s 4 n) {i m : Nat} (hi : i < n) (hm : m ≤ hk_co 4) {h : Int64} (h1 : k (some (.long (hk_mxf (fun j => s (4 + 1) (i * hk_co 4 + j)) m 0 h))) (s, lm, hk_RH i0 i1 b, al)) : hk_Cl (d + 2) 132 [.ref 4, .long h, .int (nI i), .int (nI m)] (s, lm, hk_RH i0 i1 b, al) k := by
  have ht : hk_tb 4 := by simp [hk_tb]
  have hm2 : m < 100 := by have := hk_co2 ht; omega
  have loop : ∀ (q j : Nat) (g : Int64), j + q = m → k (some (.long (hk_mxf (fun j => s (4 + 1) (i * hk_co 4 + j)) q j g))) (s, lm, hk_RH i0 i1 b, al) → hk_Rn (d + 1) none hk_c132 (hk_sfx 6 hk_c132) [some (.ref 4), some (.long h), none, some (.int (nI i)), some (.int (nI m)), some (.long g), none, some (.int (nI j))] [] (s, lm, hk_RH i0 i1 b, al) k := by
    intro q
    induction q with
    | zero =>
      intro j g hj hk
      have e : j = m := by omega
      subst e
      refine hk_hd (n := 1000) (t := 6) rfl ?_
      refine And.intro (fun _ => ?_) (fun hc => absurd (Int32.le_refl _) hc)
      exact hk
    | succ q ih =>
      intro j g hj hk
      have a1 : ¬ nI m ≤ nI j := hk_nlt (by omega) (by omega)
      refine hk_hd (n := 1000) (t := 6) rfl ?_
      refine And.intro (fun hc => absurd hc a1) (fun _ => ?_)
      refine c_get_in ht hw hi (by omega) ?_
      refine c_mixed ?_
      exact hk_Rn_cast (by rw [← nI_1]; rfl) (ih (j + 1) _ (by omega) hk)
  refine hk_mth hk_m132 rfl rfl (n := 1000) ?_
  exact loop m 0 h (by omega) h1
/-- all rows of a table -/
def hk_mxR_4 (s : Nat → Nat → Int32) : Nat → Nat → Int64 → Int64
  | 0, _, h => h
  | m + 1, i, h => hk_mxR_4 s m (i + 1) (hk_mxf (fun j => s (4 + 1) (i * hk_co 4 + j)) (hk_co 4) 0 h)
theorem c_mxRows_4 (hw : hk_tw s 4 n) {h : Int64} (h1 : k (some (.long (hk_mxR_4 s n 0 h))) (s, lm, hk_RH i0 i1 b, al)) : hk_Cl (d + 3) 133 [.ref 4, .long h] (s, lm, hk_RH i0 i1 b, al) k := by
  have ht : hk_tb 4 := by simp [hk_tb]
  have hn2 : n < 1000 := by have := hk_mo31 ht; have := hw.2.2.2; have : hk_mo 4 ≤ 150 := by decide
                            omega
  have loop : ∀ (q j : Nat) (g : Int64), j + q = n → k (some (.long (hk_mxR_4 s q j g))) (s, lm, hk_RH i0 i1 b, al) → hk_Rn (d + 2) none hk_c133 (hk_sfx 5 hk_c133) [some (.ref 4), some (.long h), none, some (.long g), none, some (.int (nI j))] [] (s, lm, hk_RH i0 i1 b, al) k := by
    intro q
    induction q with
    | zero =>
      intro j g hj hk
      have e : j = n := by omega
      subst e
      have a1 : s 4 3 ≤ nI j := by rw [hw.2.2.1]; exact Int32.le_refl _
      refine hk_hd (n := 1000) (t := 5) rfl ?_
      refine And.intro (fun _ => ?_) (fun hc => absurd a1 hc)
      exact hk
    | succ q ih =>
      intro j g hj hk
      have a1 : ¬ s 4 3 ≤ nI j := by rw [hw.2.2.1]; exact hk_nlt (by omega) (by omega)
      have e1 : [Value.ref 4, .long g, .int (nI j), .int (s 4 1)] = [Value.ref 4, .long g, .int (nI j), .int (nI (hk_co 4))] := by rw [hw.2.1]
      refine hk_hd (n := 1000) (t := 5) rfl ?_
      refine And.intro (fun hc => absurd hc a1) (fun _ => ?_)
      refine hk_Cl_arg e1 ?_
      refine c_mxRow_4 hw (by omega) (Nat.le_refl _) ?_
      exact hk_Rn_cast (by rw [← nI_1]; rfl) (ih (j + 1) _ (by omega) hk)
  refine hk_mth hk_m133 rfl rfl (n := 1000) ?_
  exact loop n 0 h (by omega) h1
theorem c_mxRow_6 (hw : hk_tw s 6 n) {i m : Nat} (hi : i < n) (hm : m ≤ hk_co 6) {h : Int64} (h1 : k (some (.long (hk_mxf (fun j => s (6 + 1) (i * hk_co 6 + j)) m 0 h))) (s, lm, hk_RH i0 i1 b, al)) : hk_Cl (d + 2) 132 [.ref 6, .long h, .int (nI i), .int (nI m)] (s, lm, hk_RH i0 i1 b, al) k := by
  have ht : hk_tb 6 := by simp [hk_tb]
  have hm2 : m < 100 := by have := hk_co2 ht; omega
  have loop : ∀ (q j : Nat) (g : Int64), j + q = m → k (some (.long (hk_mxf (fun j => s (6 + 1) (i * hk_co 6 + j)) q j g))) (s, lm, hk_RH i0 i1 b, al) → hk_Rn (d + 1) none hk_c132 (hk_sfx 6 hk_c132) [some (.ref 6), some (.long h), none, some (.int (nI i)), some (.int (nI m)), some (.long g), none, some (.int (nI j))] [] (s, lm, hk_RH i0 i1 b, al) k := by
    intro q
    induction q with
    | zero =>
      intro j g hj hk
      have e : j = m := by omega
      subst e
      refine hk_hd (n := 1000) (t := 6) rfl ?_
      refine And.intro (fun _ => ?_) (fun hc => absurd (Int32.le_refl _) hc)
      exact hk
    | succ q ih =>
      intro j g hj hk
      have a1 : ¬ nI m ≤ nI j := hk_nlt (by omega) (by omega)
      refine hk_hd (n := 1000) (t := 6) rfl ?_
      refine And.intro (fun hc => absurd hc a1) (fun _ => ?_)
      refine c_get_in ht hw hi (by omega) ?_
      refine c_mixed ?_
      exact hk_Rn_cast (by rw [← nI_1]; rfl) (ih (j + 1) _ (by omega) hk)
  refine hk_mth hk_m132 rfl rfl (n := 1000) ?_
  exact loop m 0 h (by omega) h1
/-- all rows of a table -/
def hk_mxR_6 (s : Nat → Nat → Int32) : Nat → Nat → Int64 → Int64
  | 0, _, h => h
  | m + 1, i, h => hk_mxR_6 s m (i + 1) (hk_mxf (fun j => s (6 + 1) (i * hk_co 6 + j)) (hk_co 6) 0 h)
theorem c_mxRows_6 (hw : hk_tw s 6 n) {h : Int64} (h1 : k (some (.long (hk_mxR_6 s n 0 h))) (s, lm, hk_RH i0 i1 b, al)) : hk_Cl (d + 3) 133 [.ref 6, .long h] (s, lm, hk_RH i0 i1 b, al) k := by
  have ht : hk_tb 6 := by simp [hk_tb]
  have hn2 : n < 1000 := by have := hk_mo31 ht; have := hw.2.2.2; have : hk_mo 6 ≤ 150 := by decide
                            omega
  have loop : ∀ (q j : Nat) (g : Int64), j + q = n → k (some (.long (hk_mxR_6 s q j g))) (s, lm, hk_RH i0 i1 b, al) → hk_Rn (d + 2) none hk_c133 (hk_sfx 5 hk_c133) [some (.ref 6), some (.long h), none, some (.long g), none, some (.int (nI j))] [] (s, lm, hk_RH i0 i1 b, al) k := by
    intro q
    induction q with
    | zero =>
      intro j g hj hk
      have e : j = n := by omega
      subst e
      have a1 : s 6 3 ≤ nI j := by rw [hw.2.2.1]; exact Int32.le_refl _
      refine hk_hd (n := 1000) (t := 5) rfl ?_
      refine And.intro (fun _ => ?_) (fun hc => absurd a1 hc)
      exact hk
    | succ q ih =>
      intro j g hj hk
      have a1 : ¬ s 6 3 ≤ nI j := by rw [hw.2.2.1]; exact hk_nlt (by omega) (by omega)
      have e1 : [Value.ref 6, .long g, .int (nI j), .int (s 6 1)] = [Value.ref 6, .long g, .int (nI j), .int (nI (hk_co 6))] := by rw [hw.2.1]
      refine hk_hd (n := 1000) (t := 5) rfl ?_
      refine And.intro (fun hc => absurd hc a1) (fun _ => ?_)
      refine hk_Cl_arg e1 ?_
      refine c_mxRow_6 hw (by omega) (Nat.le_refl _) ?_
      exact hk_Rn_cast (by rw [← nI_1]; rfl) (ih (j + 1) _ (by omega) hk)
  refine hk_mth hk_m133 rfl rfl (n := 1000) ?_
  exact loop n 0 h (by omega) h1
theorem c_mxRow_8 (hw : hk_tw s 8 n) {i m : Nat} (hi : i < n) (hm : m ≤ hk_co 8) {h : Int64} (h1 : k (some (.long (hk_mxf (fun j => s (8 + 1) (i * hk_co 8 + j)) m 0 h))) (s, lm, hk_RH i0 i1 b, al)) : hk_Cl (d + 2) 132 [.ref 8, .long h, .int (nI i), .int (nI m)] (s, lm, hk_RH i0 i1 b, al) k := by
  have ht : hk_tb 8 := by simp [hk_tb]
  have hm2 : m < 100 := by have := hk_co2 ht; omega
  have loop : ∀ (q j : Nat) (g : Int64), j + q = m → k (some (.long (hk_mxf (fun j => s (8 + 1) (i * hk_co 8 + j)) q j g))) (s, lm, hk_RH i0 i1 b, al) → hk_Rn (d + 1) none hk_c132 (hk_sfx 6 hk_c132) [some (.ref 8), some (.long h), none, some (.int (nI i)), some (.int (nI m)), some (.long g), none, some (.int (nI j))] [] (s, lm, hk_RH i0 i1 b, al) k := by
    intro q
    induction q with
    | zero =>
      intro j g hj hk
      have e : j = m := by omega
      subst e
      refine hk_hd (n := 1000) (t := 6) rfl ?_
      refine And.intro (fun _ => ?_) (fun hc => absurd (Int32.le_refl _) hc)
      exact hk
    | succ q ih =>
      intro j g hj hk
      have a1 : ¬ nI m ≤ nI j := hk_nlt (by omega) (by omega)
      refine hk_hd (n := 1000) (t := 6) rfl ?_
      refine And.intro (fun hc => absurd hc a1) (fun _ => ?_)
      refine c_get_in ht hw hi (by omega) ?_
      refine c_mixed ?_
      exact hk_Rn_cast (by rw [← nI_1]; rfl) (ih (j + 1) _ (by omega) hk)
  refine hk_mth hk_m132 rfl rfl (n := 1000) ?_
  exact loop m 0 h (by omega) h1
/-- all rows of a table -/
def hk_mxR_8 (s : Nat → Nat → Int32) : Nat → Nat → Int64 → Int64
  | 0, _, h => h
  | m + 1, i, h => hk_mxR_8 s m (i + 1) (hk_mxf (fun j => s (8 + 1) (i * hk_co 8 + j)) (hk_co 8) 0 h)
theorem c_mxRows_8 (hw : hk_tw s 8 n) {h : Int64} (h1 : k (some (.long (hk_mxR_8 s n 0 h))) (s, lm, hk_RH i0 i1 b, al)) : hk_Cl (d + 3) 133 [.ref 8, .long h] (s, lm, hk_RH i0 i1 b, al) k := by
  have ht : hk_tb 8 := by simp [hk_tb]
  have hn2 : n < 1000 := by have := hk_mo31 ht; have := hw.2.2.2; have : hk_mo 8 ≤ 150 := by decide
                            omega
  have loop : ∀ (q j : Nat) (g : Int64), j + q = n → k (some (.long (hk_mxR_8 s q j g))) (s, lm, hk_RH i0 i1 b, al) → hk_Rn (d + 2) none hk_c133 (hk_sfx 5 hk_c133) [some (.ref 8), some (.long h), none, some (.long g), none, some (.int (nI j))] [] (s, lm, hk_RH i0 i1 b, al) k := by
    intro q
    induction q with
    | zero =>
      intro j g hj hk
      have e : j = n := by omega
      subst e
      have a1 : s 8 3 ≤ nI j := by rw [hw.2.2.1]; exact Int32.le_refl _
      refine hk_hd (n := 1000) (t := 5) rfl ?_
      refine And.intro (fun _ => ?_) (fun hc => absurd a1 hc)
      exact hk
    | succ q ih =>
      intro j g hj hk
      have a1 : ¬ s 8 3 ≤ nI j := by rw [hw.2.2.1]; exact hk_nlt (by omega) (by omega)
      have e1 : [Value.ref 8, .long g, .int (nI j), .int (s 8 1)] = [Value.ref 8, .long g, .int (nI j), .int (nI (hk_co 8))] := by rw [hw.2.1]
      refine hk_hd (n := 1000) (t := 5) rfl ?_
      refine And.intro (fun hc => absurd hc a1) (fun _ => ?_)
      refine hk_Cl_arg e1 ?_
      refine c_mxRow_8 hw (by omega) (Nat.le_refl _) ?_
      exact hk_Rn_cast (by rw [← nI_1]; rfl) (ih (j + 1) _ (by omega) hk)
  refine hk_mth hk_m133 rfl rfl (n := 1000) ?_
  exact loop n 0 h (by omega) h1
theorem c_mxRow_10 (hw : hk_tw s 10 n) {i m : Nat} (hi : i < n) (hm : m ≤ hk_co 10) {h : Int64} (h1 : k (some (.long (hk_mxf (fun j => s (10 + 1) (i * hk_co 10 + j)) m 0 h))) (s, lm, hk_RH i0 i1 b, al)) : hk_Cl (d + 2) 132 [.ref 10, .long h, .int (nI i), .int (nI m)] (s, lm, hk_RH i0 i1 b, al) k := by
  have ht : hk_tb 10 := by simp [hk_tb]
  have hm2 : m < 100 := by have := hk_co2 ht; omega
  have loop : ∀ (q j : Nat) (g : Int64), j + q = m → k (some (.long (hk_mxf (fun j => s (10 + 1) (i * hk_co 10 + j)) q j g))) (s, lm, hk_RH i0 i1 b, al) → hk_Rn (d + 1) none hk_c132 (hk_sfx 6 hk_c132) [some (.ref 10), some (.long h), none, some (.int (nI i)), some (.int (nI m)), some (.long g), none, some (.int (nI j))] [] (s, lm, hk_RH i0 i1 b, al) k := by
    intro q
    induction q with
    | zero =>
      intro j g hj hk
      have e : j = m := by omega
      subst e
      refine hk_hd (n := 1000) (t := 6) rfl ?_
      refine And.intro (fun _ => ?_) (fun hc => absurd (Int32.le_refl _) hc)
      exact hk
    | succ q ih =>
      intro j g hj hk
      have a1 : ¬ nI m ≤ nI j := hk_nlt (by omega) (by omega)
      refine hk_hd (n := 1000) (t := 6) rfl ?_
      refine And.intro (fun hc => absurd hc a1) (fun _ => ?_)
      refine c_get_in ht hw hi (by omega) ?_
      refine c_mixed ?_
      exact hk_Rn_cast (by rw [← nI_1]; rfl) (ih (j + 1) _ (by omega) hk)
  refine hk_mth hk_m132 rfl rfl (n := 1000) ?_
  exact loop m 0 h (by omega) h1
theorem m_mixed {a m : Nat} (ha : a + m ≤ 2448) {h : Int64} (h1 : k (some (.long (hk_mxf (fun j => s 41 (a + j)) m 0 h))) (s, lm, hk_RH i0 i1 b, al)) : hk_Cl (d + 1) 222 [.ref 40, .long h, .int (nI a), .int (nI m)] (s, lm, hk_RH i0 i1 b, al) k := by
  have loop : ∀ (q j : Nat) (g : Int64), j + q = m → k (some (.long (hk_mxf (fun j => s 41 (a + j)) q j g))) (s, lm, hk_RH i0 i1 b, al) → hk_Rn d none hk_c222 (hk_sfx 6 hk_c222) [some (.ref 40), some (.long h), none, some (.int (nI a)), some (.int (nI m)), some (.long g), none, some (.int (nI j))] [] (s, lm, hk_RH i0 i1 b, al) k := by
    intro q
    induction q with
    | zero =>
      intro j g hj hk
      have e : j = m := by omega
      subst e
      refine hk_hd (n := 1000) (t := 6) rfl ?_
      refine And.intro (fun _ => ?_) (fun hc => absurd (Int32.le_refl _) hc)
      exact hk
    | succ q ih =>
      intro j g hj hk
      have a1 : ¬ nI m ≤ nI j := hk_nlt (by omega) (by omega)
      refine hk_hd (n := 1000) (t := 6) rfl ?_
      refine And.intro (fun hc => absurd hc a1) (fun _ => ?_)
      refine hk_ldi (i := nI a + nI j) (j := a + j) (by simp only [hk_lit, pk_mul, nI_add]) (by omega) (by decide) rfl ?_
      exact hk_Rn_cast (by rw [← nI_1]; rfl) (ih (j + 1) _ (by omega) hk)
  refine hk_mth hk_m222 rfl rfl (n := 1000) ?_
  exact loop m 0 h (by omega) h1
end HKQ

