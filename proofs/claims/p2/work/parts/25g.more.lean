/-! ===== digest, leaks, done, fault on fresh objects ===== -/
section HKR
variable {d t c n : Nat} {r v w x y z : Int32} {s : Nat → Nat → Int32} {lm : Nat → Nat → Int64} {i0 i1 b : Nat} {al : List Nat} {k : Option Value → hk_H → Prop} {hp : hk_H}
/-- the class's digest with no ship -/
def hk_dgt (s : Nat → Nat → Int32) : Nat → Nat → Int64 → Int64
  | 0, _, h => h
  | m + 1, i, h => hk_dgt s m (i + 1) (hk_mxf (fun j => s 11 (i * 61 + j)) (1 + (s 11 (i * 61)).toNatClampNeg) 0 h)
def hk_dg0 (s : Nat → Nat → Int32) (n4 n6 : Nat) : Int64 := hk_dgt s 4 0 (hk_mxR_8 s 4 0 (hk_mxR_6 s n6 0 (hk_mxR_4 s n4 0 (hk_mxf (hk_cnt s) 9 0 307))))
theorem c_digest0 {n4 n6 : Nat} (hs : s 2 3 = 0) (h4 : hk_tw s 4 n4) (h6 : hk_tw s 6 n6) (h8 : hk_tw s 8 4) (h10 : hk_tw s 10 4) (hl : ∀ j, j < 4 → ∃ m, m ≤ 60 ∧ s 11 (j * 61) = nI m) (h1 : k (some (.long (hk_dg0 s n4 n6))) (s, lm, hk_RH i0 i1 b, al)) : hk_Cl (d + 4) 130 [.ref 0] (s, lm, hk_RH i0 i1 b, al) k := by
  have ht : hk_tb 10 := by simp [hk_tb]
  have l4 : ∀ (q j : Nat) (g : Int64), j + q = 4 → ∀ L4, k (some (.long (hk_dgt s q j g))) (s, lm, hk_RH i0 i1 b, al) → hk_Rn (d + 3) none hk_c130 (hk_sfx 138 hk_c130) [some (.ref 0), some (.long g), none, some (.int (nI j)), L4] [] (s, lm, hk_RH i0 i1 b, al) k := by
    intro q
    induction q with
    | zero =>
      intro j g hj L4 hk
      have e : j = 4 := by omega
      subst e
      refine hk_hd (n := 1000) (t := 138) rfl ?_
      refine And.intro (fun _ => ?_) (fun hc => absurd (show (4 : Int32) ≤ nI 4 by decide) hc)
      exact hk
    | succ q ih =>
      intro j g hj L4 hk
      have a1 : ¬ nI 4 ≤ nI j := hk_nlt (by omega) (by omega)
      obtain ⟨m, hm, e⟩ := hl j (by omega)
      refine hk_hd (n := 1000) (t := 138) rfl ?_
      refine And.intro (fun hc => absurd hc a1) (fun _ => ?_)
      refine c_get_in ht h10 (by omega) (j := 0) (by decide) ?_
      rw [hk_dgt, e, nI_clamp (by omega)] at hk
      have e1 : [Value.ref 10, .long g, .int (nI j), .int (1 + s (10 + 1) (j * hk_co 10 + 0))] = [Value.ref 10, .long g, .int (nI j), .int (nI (1 + m))] := by
        rw [show s (10 + 1) (j * hk_co 10 + 0) = nI m from e]
        rw [show (1 : Int32) + nI m = nI (1 + m) from nI_add 1 m]
      refine hk_Cl_arg e1 ?_
      refine c_mxRow_10 h10 (by omega) (show 1 + m ≤ 61 by omega) ?_
      exact hk_Rn_cast (by rw [← nI_1]; rfl) (ih (j + 1) _ (by omega) L4 hk)
  have l1 : ∀ (q j : Nat) (g : Int64), j + q = 9 → k (some (.long (hk_dgt s 4 0 (hk_mxR_8 s 4 0 (hk_mxR_6 s n6 0 (hk_mxR_4 s n4 0 (hk_mxf (hk_cnt s) q j g))))))) (s, lm, hk_RH i0 i1 b, al) → hk_Rn (d + 3) none hk_c130 (hk_sfx 6 hk_c130) [some (.ref 0), some (.long g), none, some (.int (nI j)), none] [] (s, lm, hk_RH i0 i1 b, al) k := by
    intro q
    induction q with
    | zero =>
      intro j g hj hk
      have e : j = 9 := by omega
      subst e
      have a2 : s 2 3 ≤ 0 := by rw [hs]; decide
      refine hk_hd (n := 1000) (t := 6) rfl ?_
      refine And.intro (fun _ => ?_) (fun hc => absurd (show (9 : Int32) ≤ nI 9 by decide) hc)
      refine hk_hd (n := 1000) (t := 34) rfl ?_
      refine And.intro (fun _ => ?_) (fun hc => absurd a2 hc)
      refine c_mxRows_4 h4 ?_
      refine c_mxRows_6 h6 ?_
      refine c_mxRows_8 h8 ?_
      exact l4 4 0 _ (by omega) none hk
    | succ q ih =>
      intro j g hj hk
      have a1 : ¬ nI 9 ≤ nI j := hk_nlt (by omega) (by omega)
      refine hk_hd (n := 1000) (t := 6) rfl ?_
      refine And.intro (fun hc => absurd hc a1) (fun _ => ?_)
      refine c_countOf0 hs (by omega) ?_
      refine c_mixed ?_
      exact hk_Rn_cast (by rw [← nI_1]; rfl) (ih (j + 1) _ (by omega) hk)
  refine hk_mth hk_m130 rfl rfl (n := 1000) ?_
  exact l1 9 0 307 (by omega) h1
/-- the reference's digest with no ship -/
def hk_mgt (s : Nat → Nat → Int32) : Nat → Nat → Int64 → Int64
  | 0, _, h => h
  | m + 1, i, h => hk_mgt s m (i + 1) (hk_mxf (fun j => s 41 (1422 + 61 * i + j)) (1 + (s 41 (1422 + 61 * i)).toNatClampNeg) 0 h)
def hk_mg0 (s : Nat → Nat → Int32) (n4 n6 : Nat) : Int64 := hk_mgt s 4 0 (hk_mxf (fun j => s 41 (1410 + j)) 12 0 (hk_mxf (fun j => s 41 (660 + j)) (5 * n6) 0 (hk_mxf (fun j => s 41 (80 + j)) (6 * n4) 0 (hk_mxf (fun j => if j = 8 then 0 else s 41 j) 9 0 307))))
theorem m_digest0 {n4 n6 : Nat} (hs : s 41 0 = 0) (h4 : s 41 1 = nI n4) (h4b : n4 ≤ 96) (h6 : s 41 2 = nI n6) (h6b : n6 ≤ 150) (hl : ∀ j, j < 4 → ∃ m, m ≤ 60 ∧ s 41 (1422 + 61 * j) = nI m) (h1 : k (some (.long (hk_mg0 s n4 n6))) (s, lm, hk_RH i0 i1 b, al)) : hk_Cl (d + 4) 221 [.ref 40] (s, lm, hk_RH i0 i1 b, al) k := by
  have l4 : ∀ (q j : Nat) (g : Int64), j + q = 4 → ∀ L4, k (some (.long (hk_mgt s q j g))) (s, lm, hk_RH i0 i1 b, al) → hk_Rn (d + 3) none hk_c221 (hk_sfx 141 hk_c221) [some (.ref 40), some (.long g), none, some (.int (nI j)), L4] [] (s, lm, hk_RH i0 i1 b, al) k := by
    intro q
    induction q with
    | zero =>
      intro j g hj L4 hk
      have e : j = 4 := by omega
      subst e
      refine hk_hd (n := 1000) (t := 141) rfl ?_
      refine And.intro (fun _ => ?_) (fun hc => absurd (show (4 : Int32) ≤ nI 4 by decide) hc)
      exact hk
    | succ q ih =>
      intro j g hj L4 hk
      have a1 : ¬ nI 4 ≤ nI j := hk_nlt (by omega) (by omega)
      obtain ⟨m, hm, e⟩ := hl j (by omega)
      refine hk_hd (n := 1000) (t := 141) rfl ?_
      refine And.intro (fun hc => absurd hc a1) (fun _ => ?_)
      refine hk_ldi (i := 1422 + 61 * nI j) (j := 1422 + 61 * j) (by simp only [hk_lit, pk_mul, nI_add]) (by omega) (by decide) e ?_
      rw [hk_mgt, e, nI_clamp (by omega)] at hk
      have e1 : [Value.ref 40, .long g, .int (1422 + 61 * nI j), .int (1 + nI m)] = [Value.ref 40, .long g, .int (nI (1422 + 61 * j)), .int (nI (1 + m))] := by
        simp only [hk_lit, pk_mul, nI_add]
      refine hk_Cl_arg e1 ?_
      refine m_mixed (by omega) ?_
      exact hk_Rn_cast (by rw [← nI_1]; rfl) (ih (j + 1) _ (by omega) L4 hk)
  have l1 : ∀ (q j : Nat) (g : Int64), j + q = 9 → k (some (.long (hk_mgt s 4 0 (hk_mxf (fun j => s 41 (1410 + j)) 12 0 (hk_mxf (fun j => s 41 (660 + j)) (5 * n6) 0 (hk_mxf (fun j => s 41 (80 + j)) (6 * n4) 0 (hk_mxf (fun j => if j = 8 then 0 else s 41 j) q j g))))))) (s, lm, hk_RH i0 i1 b, al) → hk_Rn (d + 3) none hk_c221 (hk_sfx 6 hk_c221) [some (.ref 40), some (.long g), none, some (.int (nI j)), none] [] (s, lm, hk_RH i0 i1 b, al) k := by
    intro q
    induction q with
    | zero =>
      intro j g hj hk
      have e : j = 9 := by omega
      subst e
      refine hk_hd (n := 1000) (t := 6) rfl ?_
      refine And.intro (fun _ => ?_) (fun hc => absurd (show (9 : Int32) ≤ nI 9 by decide) hc)
      refine hk_hd (n := 1000) (t := 33) rfl ?_
      refine hk_ldi (i := nI 0) (j := 0) (by simp only [hk_lit, pk_mul, nI_add]) (by omega) (by decide) hs ?_
      refine And.intro (fun _ => ?_) (fun hc => absurd (by decide) hc)
      refine hk_ldi (i := nI 1) (j := 1) (by simp only [hk_lit, pk_mul, nI_add]) (by omega) (by decide) h4 ?_
      have e1 : ∀ g : Int64, [Value.ref 40, .long g, .int 80, .int (6 * nI n4)] = [Value.ref 40, .long g, .int (nI 80), .int (nI (6 * n4))] := fun g => by
        simp only [hk_lit, pk_mul]
      refine hk_Cl_arg (e1 _) ?_
      refine m_mixed (by omega) ?_
      refine hk_ldi (i := nI 2) (j := 2) (by simp only [hk_lit, pk_mul, nI_add]) (by omega) (by decide) h6 ?_
      have e2 : ∀ g : Int64, [Value.ref 40, .long g, .int 660, .int (5 * nI n6)] = [Value.ref 40, .long g, .int (nI 660), .int (nI (5 * n6))] := fun g => by
        simp only [hk_lit, pk_mul]
      refine hk_Cl_arg (e2 _) ?_
      refine m_mixed (by omega) ?_
      refine m_mixed (a := 1410) (m := 12) (by omega) ?_
      exact l4 4 0 _ (by omega) none hk
    | succ q ih =>
      intro j g hj hk
      have a1 : ¬ nI 9 ≤ nI j := hk_nlt (by omega) (by omega)
      refine hk_hd (n := 1000) (t := 6) rfl ?_
      refine And.intro (fun hc => absurd hc a1) (fun _ => ?_)
      refine m_countOf0 hs (by omega) ?_
      exact hk_Rn_cast (by rw [← nI_1]; rfl) (ih (j + 1) _ (by omega) hk)
  refine hk_mth hk_m221 rfl rfl (n := 1000) ?_
  exact l1 9 0 307 (by omega) h1
/-- tests: none told -/
theorem hk_allb (x : Int32) : x &&& (0 ^^^ -1) = x := by
  apply Int32.toBitVec_inj.mp
  show x.toBitVec &&& _ = _
  have : ((0 : Int32) ^^^ -1).toBitVec = BitVec.allOnes 32 := by decide
  rw [this, BitVec.and_allOnes]
theorem c_likely0 (hs : s 14 3 = 0) (h1 : k (some (.int (0 &&& (0 ^^^ -1)))) (s, lm, hk_RH i0 i1 b, al)) : hk_Cl (d + 1) 105 [.ref 14] (s, lm, hk_RH i0 i1 b, al) k := by
  have a1 : s 14 3 ≤ 0 := by rw [hs]; decide
  refine hk_mth hk_m105 rfl rfl (n := 1000) ?_
  refine hk_hd (n := 1000) (t := 6) rfl ?_
  refine And.intro (fun _ => ?_) (fun hc => absurd a1 hc)
  exact h1
theorem c_fits0 (hs : s 14 3 = 0) (h1 : k (some (.int 1)) (s, lm, hk_RH i0 i1 b, al)) : hk_Cl (d + 1) 107 [.ref 14, .int v] (s, lm, hk_RH i0 i1 b, al) k := by
  have a1 : s 14 3 ≤ 0 := by rw [hs]; decide
  refine hk_mth hk_m107 rfl rfl (n := 1000) ?_
  refine hk_hd (n := 1000) (t := 2) rfl ?_
  refine And.intro (fun _ => ?_) (fun hc => absurd a1 hc)
  exact And.intro (Or.inr rfl) h1
theorem c_nolarger0 (hs : s 36 0 = -1) (h1 : k (some (.int 1)) (s, lm, hk_RH i0 i1 b, al)) : hk_Cl (d + 1) 106 [.ref 36, .int v] (s, lm, hk_RH i0 i1 b, al) k := by
  refine hk_mth hk_m106 rfl rfl (n := 1000) ?_
  refine And.intro (fun _ => ?_) (fun hc => absurd hs hc)
  exact And.intro (Or.inr rfl) h1
theorem c_find0 (hs : s 14 3 = 0) (h1 : k none (hk_u2 (hk_u2 (hk_u2 (hk_u2 s 36 0 (-1)) 36 1 (-1)) 36 0 0) 36 1 0, lm, hk_RH i0 i1 b, al)) : hk_Cl (d + 2) 104 [.ref 36, .ref 14] (s, lm, hk_RH i0 i1 b, al) k := by
  have loop : ∀ (q j : Nat) (s2 : Nat → Nat → Int32), j + q = 4096 → 0 < j → k none (s2, lm, hk_RH i0 i1 b, al) → hk_Rn (d + 1) none hk_c104 (hk_sfx 17 hk_c104) [some (.ref 36), some (.ref 14), some (.int (0 &&& (0 ^^^ -1))), some (.int (nI j))] [] (s2, lm, hk_RH i0 i1 b, al) k := by
    intro q
    induction q with
    | zero =>
      intro j s2 hj _ hk
      have e : j = 4096 := by omega
      subst e
      refine hk_hd (n := 1000) (t := 17) rfl ?_
      refine And.intro (fun _ => ?_) (fun hc => absurd (show (4095 : Int32) < nI 4096 by decide) hc)
      exact hk
    | succ q ih =>
      intro j s2 hj h0 hk
      have a1 : ¬ nI 4095 < nI j := by rw [nI_ltI (by omega) (by omega)]; omega
      have a2 : ¬ nI j &&& (0 &&& (0 ^^^ -1) ^^^ -1) = 0 := by
        rw [show (0 &&& (0 ^^^ -1) : Int32) = 0 by decide, hk_allb]
        exact nI_ne0 h0 (by omega)
      refine hk_hd (n := 1000) (t := 17) rfl ?_
      refine And.intro (fun hc => absurd hc a1) (fun _ => ?_)
      refine And.intro (fun _ => ?_) (fun hc => absurd a2 hc)
      exact hk_Rn_cast (by rw [← nI_1]; rfl) (ih (j + 1) s2 (by omega) (by omega) hk)
  refine hk_mth hk_m104 rfl rfl (n := 1000) ?_
  refine c_likely0 (show hk_u2 (hk_u2 s 36 0 (-1)) 36 1 (-1) 14 3 = 0 by rw [hk_u2o (by omega), hk_u2o (by omega)]; exact hs) ?_
  refine hk_hd (n := 1000) (t := 17) rfl ?_
  refine And.intro (fun hc => absurd hc (show ¬ (4095 : Int32) < 0 by decide)) (fun _ => ?_)
  refine And.intro (fun hc => absurd hc (show ¬ ¬ (0 : Int32) &&& (0 &&& (0 ^^^ -1) ^^^ -1) = 0 by decide)) (fun _ => ?_)
  refine c_nolarger0 (show hk_u2 (hk_u2 s 36 0 (-1)) 36 1 (-1) 36 0 = -1 by rw [hk_u2o (by omega), hk_u2s]) ?_
  refine And.intro (fun hc => absurd hc (by decide)) (fun _ => ?_)
  refine c_fits0 (show hk_u2 (hk_u2 s 36 0 (-1)) 36 1 (-1) 14 3 = 0 by rw [hk_u2o (by omega), hk_u2o (by omega)]; exact hs) ?_
  refine And.intro (fun hc => absurd hc (by decide)) (fun _ => ?_)
  refine And.intro (fun _ => ?_) (fun hc => absurd (show hk_u2 (hk_u2 s 36 0 (-1)) 36 1 (-1) 36 0 = -1 by rw [hk_u2o (by omega), hk_u2s]) hc)
  exact loop 4095 1 _ (by omega) (by omega) h1
theorem c_leaks0 (hs : s 14 3 = 0) (hb : ¬ hk_rg z 0 1 → k (some (.int (-2))) (s, lm, hk_RH i0 i1 b, al)) (hg : hk_rg z 0 1 → ∀ s2, (∀ p q, p ≠ 36 → s2 p q = s p q) → k (some (.int 0)) (s2, lm, hk_RH i0 i1 b, al)) : hk_Cl (d + 3) 103 [.ref 0, .int z] (s, lm, hk_RH i0 i1 b, al) k := by
  refine hk_mth hk_m103 rfl rfl (n := 1000) ?_
  refine c_within0 (fun (a : z < 0 ∨ 1 < z) => ?_) (fun (p0 : ¬ z < 0) (q0 : ¬ 1 < z) => ?_)
  · refine And.intro (fun hc => absurd hc (by decide)) (fun _ => ?_)
    exact hb (fun q => a.elim q.1 q.2)
  refine And.intro (fun _ => ?_) (fun hc => absurd (by decide) hc)
  refine c_find0 hs ?_
  have fin := hg ⟨p0, q0⟩ (hk_u2 (hk_u2 (hk_u2 (hk_u2 s 36 0 (-1)) 36 1 (-1)) 36 0 0) 36 1 0) (fun p q hp => by
    rw [hk_u2o (by omega), hk_u2o (by omega), hk_u2o (by omega), hk_u2o (by omega)])
  refine And.intro (fun c1 => ?_) (fun c1 => ?_)
  · exact fin
  · exact fin
theorem hk_pop0 {j : Nat} (h0 : 0 < j) (hj : j < 2 ^ 31) (h1 : ∀ m, 0 < m → m ≤ 31 → k (some (.int (nI m))) hp) : hk_Cl (d + 1) 200 [.int (nI j)] hp k := by
  have loop : ∀ (q i m : Nat), i < 2 ^ q → m + q ≤ 31 → (0 < m ∨ 0 < i) → hk_Rn d none hk_c200 (hk_sfx 4 hk_c200) [some (.int (nI j)), some (.int (nI m)), some (.int (nI i))] [] hp k := by
    intro q
    induction q with
    | zero =>
      intro i m hi hm hz
      have e : i = 0 := by omega
      subst e
      refine hk_hd (n := 1000) (t := 4) rfl ?_
      refine And.intro (fun _ => ?_) (fun hc => absurd (by decide) hc)
      exact h1 m (by omega) (by omega)
    | succ q ih =>
      intro i m hi hm hz
      have hq : 2 ^ (q + 1) = 2 * 2 ^ q := by rw [Nat.pow_succ]; omega
      have hq2 : 2 ^ (q + 1) ≤ 2 ^ 31 := Nat.pow_le_pow_right (by omega) (by omega)
      by_cases hi0 : i = 0
      · subst hi0
        refine hk_hd (n := 1000) (t := 4) rfl ?_
        refine And.intro (fun _ => ?_) (fun hc => absurd (by decide) hc)
        exact h1 m (by omega) (by omega)
      have a1 : ¬ nI i ≤ 0 := nI_nle (by omega) (by omega)
      have e1 : nI m + (nI i &&& 1) = nI (m + i % 2) := by
        rw [pk_andN (by omega) 1 (by decide), nI_add]
      have e2 : nI i >>> ((1 : Int32) &&& 31) = nI (i / 2) := by
        rw [pk_shrN (by omega) _ 1 (by decide)]
      refine hk_hd (n := 1000) (t := 4) rfl ?_
      refine And.intro (fun hc => absurd hc a1) (fun _ => ?_)
      refine hk_Rn_cast (L2 := [some (.int (nI j)), some (.int (nI (m + i % 2))), some (.int (nI (i / 2)))]) ?_ (ih (i / 2) (m + i % 2) (by omega) (by omega) (by omega))
      show [some (Value.int (nI j)), some (Value.int (nI m + (nI i &&& 1))), some (Value.int (nI i >>> ((1 : Int32) &&& 31)))] = _
      rw [e1, e2]
  refine hk_mth hk_m200 rfl rfl (n := 1000) ?_
  exact loop 31 j 0 (by omega) (by omega) (Or.inr h0)
theorem m_size0 (h1 : k (some (.int 0)) hp) : hk_Cl (d + 1) 200 [.int 0] hp k := by
  refine hk_mth hk_m200 rfl rfl (n := 1000) ?_
  refine hk_hd (n := 1000) (t := 4) rfl ?_
  refine And.intro (fun _ => ?_) (fun hc => absurd (by decide) hc)
  exact h1
theorem m_tells0 (hs : s 41 4 = 0) (h1 : k (some (.int 1)) (s, lm, hk_RH i0 i1 b, al)) : hk_Cl (d + 1) 209 [.ref 40, .int v] (s, lm, hk_RH i0 i1 b, al) k := by
  refine hk_mth hk_m209 rfl rfl (n := 1000) ?_
  refine hk_hd (n := 1000) (t := 2) rfl ?_
  refine hk_ldi (i := nI 4) (j := 4) (by simp only [hk_lit, pk_mul, nI_add]) (by omega) (by decide) hs ?_
  refine And.intro (fun _ => ?_) (fun hc => absurd (by decide) hc)
  exact And.intro (Or.inr rfl) h1
theorem m_leaks0 (hs : s 41 4 = 0) (hb : ¬ hk_rg z 0 1 → k (some (.int (-2))) (s, lm, hk_RH i0 i1 b, al)) (hg : hk_rg z 0 1 → k (some (.int 0)) (s, lm, hk_RH i0 i1 b, al)) : hk_Cl (d + 3) 208 [.ref 40, .int z] (s, lm, hk_RH i0 i1 b, al) k := by
  refine hk_mth hk_m208 rfl rfl (n := 1000) ?_
  refine m_in0 (fun (a : z < 0 ∨ 1 < z) => ?_) (fun (p0 : ¬ z < 0) (q0 : ¬ 1 < z) => ?_)
  · refine And.intro (fun hc => absurd hc (by decide)) (fun _ => ?_)
    exact hb (fun q => a.elim q.1 q.2)
  refine And.intro (fun _ => ?_) (fun hc => absurd (by decide) hc)
  have hg := hg ⟨p0, q0⟩
  have loop : ∀ (q j : Nat) (l5 : Option Value), j + q = 4096 → 0 < j → hk_Rn (d + 2) none hk_c208 (hk_sfx 19 hk_c208) [some (.ref 40), some (.int z), some (.int 0), some (.int 0), some (.int (nI j)), l5] [] (s, lm, hk_RH i0 i1 b, al) k := by
    intro q
    induction q with
    | zero =>
      intro j l5 hj _
      have e : j = 4096 := by omega
      subst e
      refine hk_hd (n := 1000) (t := 19) rfl ?_
      refine And.intro (fun _ => ?_) (fun hc => absurd (show (4096 : Int32) ≤ nI 4096 by decide) hc)
      refine And.intro (fun c1 => ?_) (fun c1 => ?_)
      · exact hg
      refine And.intro (fun _ => ?_) (fun hc => absurd (by decide) hc)
      exact hg
    | succ q ih =>
      intro j l5 hj h0
      have a1 : ¬ nI 4096 ≤ nI j := hk_nlt (by omega) (by omega)
      refine hk_hd (n := 1000) (t := 19) rfl ?_
      refine And.intro (fun hc => absurd hc a1) (fun _ => ?_)
      refine m_tells0 hs ?_
      refine And.intro (fun hc => absurd hc (by decide)) (fun _ => ?_)
      refine And.intro (fun _ => ?_) (fun hc => absurd (by decide) hc)
      refine hk_pop0 h0 (by omega) (fun m hm hm2 => ?_)
      refine m_size0 ?_
      have b1 : (0 : Int32) ≤ nI m - 0 := by
        rw [show nI m - 0 = nI m from pk_sub (a := m) (b := 0) (by omega)]
        exact nI_pos' (by omega)
      have b2 : ¬ nI m - 0 = 0 := by
        rw [show nI m - 0 = nI m from pk_sub (a := m) (b := 0) (by omega)]
        exact nI_ne0 hm (by omega)
      refine And.intro (fun _ => ?_) (fun hc => absurd b1 hc)
      refine And.intro (fun _ => ?_) (fun hc => absurd b2 hc)
      refine And.intro (fun _ => ?_) (fun hc => absurd b1 hc)
      exact hk_Rn_cast (by rw [← nI_1]; rfl) (ih (j + 1) _ (by omega) (by omega))
  refine hk_hd (n := 1000) (t := 19) rfl ?_
  refine And.intro (fun hc => absurd hc (show ¬ (4096 : Int32) ≤ 0 by decide)) (fun _ => ?_)
  refine m_tells0 hs ?_
  refine And.intro (fun hc => absurd hc (by decide)) (fun _ => ?_)
  refine And.intro (fun hc => absurd hc (by decide)) (fun _ => ?_)
  refine And.intro (fun hc => absurd hc (by decide)) (fun _ => ?_)
  refine And.intro (fun hc => absurd hc (by decide)) (fun _ => ?_)
  exact loop 4095 1 _ (by omega) (by omega)
/-- hands, works: none told -/
theorem c_supply0 (hs : s 16 3 = 0) (h1 : ∀ s2, (∀ p q, p ≠ 38 → s2 p q = s p q) → k none (s2, lm, hk_RH i0 i1 b, al)) : hk_Cl (d + 1) 114 [.ref 37, .ref 16] (s, lm, hk_RH i0 i1 b, al) k := by
  have loop : ∀ (q j : Nat) (s2 : Nat → Nat → Int32) (l3 : Option Value), j + q = 32 → (∀ p q, p ≠ 38 → s2 p q = s p q) → hk_Rn d none hk_c114 (hk_sfx 2 hk_c114) [some (.ref 37), some (.ref 16), some (.int (nI j)), l3] [] (s2, lm, hk_RH i0 i1 b, al) k := by
    intro q
    induction q with
    | zero =>
      intro j s2 l3 hj h2
      have e : j = 32 := by omega
      subst e
      refine hk_hd (n := 1000) (t := 2) rfl ?_
      refine And.intro (fun _ => ?_) (fun hc => absurd (show (31 : Int32) < nI 32 by decide) hc)
      exact h1 s2 h2
    | succ q ih =>
      intro j s2 l3 hj h2
      have a1 : ¬ nI 31 < nI j := by rw [nI_ltI (by omega) (by omega)]; omega
      refine hk_hd (n := 1000) (t := 2) rfl ?_
      refine And.intro (fun hc => absurd hc a1) (fun _ => ?_)
      refine hk_stn (i := nI j) (j := j) (by simp only [hk_lit, pk_mul, nI_add]) (by omega) (by decide) (fun s3 (hs3 : s3 = hk_u2 s2 38 (j) 0) => ?_)
      have a2 : s3 16 3 ≤ 0 := by rw [hs3, hk_u2o (by omega), h2 _ _ (by omega), hs]; decide
      refine hk_hd (n := 1000) (t := 17) rfl ?_
      refine And.intro (fun _ => ?_) (fun hc => absurd a2 hc)
      exact hk_Rn_cast (by rw [← nI_1]; rfl) (ih (j + 1) s3 _ (by omega) (fun p q hp => by rw [hs3, hk_u2o (by omega)]; exact h2 p q hp))
  refine hk_mth hk_m114 rfl rfl (n := 1000) ?_
  exact loop 32 0 s _ (by omega) (fun _ _ _ => rfl)
theorem c_worthOf0 (hs : s 18 3 = 0) (h1 : k (some (.int 0)) (s, lm, hk_RH i0 i1 b, al)) : hk_Cl (d + 1) 115 [.ref 18, .int v] (s, lm, hk_RH i0 i1 b, al) k := by
  have a1 : s 18 3 ≤ 0 := by rw [hs]; decide
  refine hk_mth hk_m115 rfl rfl (n := 1000) ?_
  refine hk_hd (n := 1000) (t := 4) rfl ?_
  refine And.intro (fun _ => ?_) (fun hc => absurd a1 hc)
  exact h1
theorem c_choose0 (hs : s 16 3 = 0) (hs2 : s 18 3 = 0) (h1 : ∀ s2, (∀ p q, p ≠ 38 → p ≠ 37 → s2 p q = s p q) → s2 37 2 = 0 → s2 37 3 = 0 → k none (s2, lm, hk_RH i0 i1 b, al)) : hk_Cl (d + 2) 113 [.ref 37, .ref 1] (s, lm, hk_RH i0 i1 b, al) k := by
  refine hk_mth hk_m113 rfl rfl (n := 1000) ?_
  refine c_supply0 hs (fun s2 h2 => ?_)
  have e1 : hk_u2 (hk_u2 s2 37 2 0) 37 3 0 18 3 = 0 := by rw [hk_u2o (by omega), hk_u2o (by omega), h2 _ _ (by omega), hs2]
  refine hk_hd (n := 1000) (t := 20) rfl ?_
  refine And.intro (fun hc => absurd hc (show ¬ (1 : Int32) <<< ((hk_u2 (hk_u2 s2 37 2 0) 37 3 0 18 3) &&& 31) ≤ 0 by rw [e1]; decide)) (fun _ => ?_)
  refine c_worthOf0 e1 ?_
  refine And.intro (fun _ => ?_) (fun hc => absurd (show (0 : Int32) ≤ hk_u2 (hk_u2 s2 37 2 0) 37 3 0 37 3 by rw [hk_u2s]; decide) hc)
  refine hk_hd (n := 1000) (t := 20) rfl ?_
  refine And.intro (fun _ => ?_) (fun hc => absurd (show (1 : Int32) <<< ((hk_u2 (hk_u2 s2 37 2 0) 37 3 0 18 3) &&& 31) ≤ 0 + 1 by rw [e1]; decide) hc)
  exact h1 (hk_u2 (hk_u2 s2 37 2 0) 37 3 0) (fun p q a1 a2 => by rw [hk_u2o (by omega), hk_u2o (by omega)]; exact h2 p q a1) (by rw [hk_u2o (by omega), hk_u2s]) hk_u2s
theorem c_done0 (hs : s 16 3 = 0) (hs2 : s 18 3 = 0) (hb : ¬ hk_rg z 0 1 → k (some (.int (-2))) (s, lm, hk_RH i0 i1 b, al)) (hg : hk_rg z 0 1 → ∀ s2, (∀ p q, p ≠ 38 → p ≠ 37 → s2 p q = s p q) → k (some (.int 0)) (s2, lm, hk_RH i0 i1 b, al)) : hk_Cl (d + 3) 112 [.ref 0, .int z] (s, lm, hk_RH i0 i1 b, al) k := by
  refine hk_mth hk_m112 rfl rfl (n := 1000) ?_
  refine c_within0 (fun (a : z < 0 ∨ 1 < z) => ?_) (fun (p0 : ¬ z < 0) (q0 : ¬ 1 < z) => ?_)
  · refine And.intro (fun hc => absurd hc (by decide)) (fun _ => ?_)
    exact hb (fun q => a.elim q.1 q.2)
  refine And.intro (fun _ => ?_) (fun hc => absurd (by decide) hc)
  refine c_choose0 hs hs2 (fun s2 h2 h3 h4 => ?_)
  have fin := hg ⟨p0, q0⟩ s2 h2
  refine And.intro (fun c1 => ?_) (fun c1 => ?_)
  · rw [← h4] at fin
    exact fin
  · rw [← h3] at fin
    exact fin
theorem m_done0 (hs : s 41 6 = 0) (hb : ¬ hk_rg z 0 1 → k (some (.int (-2))) (s, lm, hk_RH i0 i1 b, al)) (hg : hk_rg z 0 1 → k (some (.int 0)) (s, lm, hk_RH i0 i1 b, al)) : hk_Cl (d + 3) 214 [.ref 40, .int z] (s, lm, hk_RH i0 i1 b, al) k := by
  refine hk_mth hk_m214 rfl rfl (n := 1000) ?_
  refine m_in0 (fun (a : z < 0 ∨ 1 < z) => ?_) (fun (p0 : ¬ z < 0) (q0 : ¬ 1 < z) => ?_)
  · refine And.intro (fun hc => absurd hc (by decide)) (fun _ => ?_)
    exact hb (fun q => a.elim q.1 q.2)
  refine And.intro (fun _ => ?_) (fun hc => absurd (by decide) hc)
  have hg := hg ⟨p0, q0⟩
  refine hk_hd (n := 1000) (t := 19) rfl ?_
  refine hk_ldi (i := nI 6) (j := 6) (by simp only [hk_lit, pk_mul, nI_add]) (by omega) (by decide) hs ?_
  refine And.intro (fun _ => ?_) (fun hc => absurd (by decide) hc)
  refine And.intro (fun c1 => ?_) (fun c1 => ?_)
  · exact hg
  · exact hg
end HKR
section HKP5
variable {v w x z y : Int32}
theorem p_from : hk_P2 126 218 [.int z] :=
  c_from0 (d := 998) (fun hb => ⟨_, rfl, m_from0 (d := 998) (fun _ => ⟨rfl, hk_rmo0⟩) (fun j _ => rfl) (fun hg => absurd hg hb)⟩) ⟨rfl, rfl⟩ (fun hg => ⟨_, rfl, m_from0 (d := 998) (fun hb => absurd hg hb) (fun j _ => rfl) (fun _ => ⟨rfl, hk_rmo0⟩)⟩)
theorem hk_cn9 {j : Nat} (hj : j < 9) : (if j = 8 then 0 else hk_F0s 41 j) = hk_cnt hk_F0s j := by
  match j, hj with
  | 0, _ => rfl
  | 1, _ => rfl
  | 2, _ => rfl
  | 3, _ => rfl
  | 4, _ => rfl
  | 5, _ => rfl
  | 6, _ => rfl
  | 7, _ => rfl
  | 8, _ => rfl
theorem p_count : hk_P2 127 219 [.int z] :=
  c_count0 (d := 997) rfl (fun hb => ⟨_, rfl, m_count0 (d := 997) rfl (fun _ => ⟨rfl, hk_rmo0⟩) (fun _ _ _ hg => absurd hg hb)⟩) (fun j ej hj hg => ⟨_, rfl, m_count0 (d := 997) rfl (fun hb => absurd hg hb) (fun i ei hi _ => ⟨by
    have e : i = j := by
      rw [ej] at ei
      exact ((nI_eq (by omega) (by omega)).mp ei).symm
    subst e
    rw [hk_cn9 hi], hk_rmo0⟩)⟩)
theorem p_leaks : hk_P2 103 208 [.int z] :=
  c_leaks0 (d := 997) rfl (fun hb => ⟨_, rfl, m_leaks0 (d := 997) rfl (fun _ => ⟨rfl, hk_rmo0⟩) (fun hg => absurd hg hb)⟩) (fun hg s2 h2 => ⟨_, rfl, m_leaks0 (d := 997) (by rw [h2 41 4 (by omega)]; rfl) (fun hb => absurd hg hb) (fun _ => ⟨rfl, hk_rmo0⟩)⟩)
theorem p_done : hk_P2 112 214 [.int z] :=
  c_done0 (d := 997) rfl rfl (fun hb => ⟨_, rfl, m_done0 (d := 997) rfl (fun _ => ⟨rfl, hk_rmo0⟩) (fun hg => absurd hg hb)⟩) (fun hg s2 h2 => ⟨_, rfl, m_done0 (d := 997) (by rw [h2 41 6 (by omega) (by omega)]; rfl) (fun hb => absurd hg hb) (fun _ => ⟨rfl, hk_rmo0⟩)⟩)
set_option maxRecDepth 100000 in
theorem hk_dge : hk_mg0 hk_F0s 0 0 = hk_dg0 hk_F0s 0 0 := by decide +kernel
theorem p_digest : hk_PJ 130 221 [] :=
  c_digest0 (d := 996) (n4 := 0) (n6 := 0) rfl ⟨rfl, rfl, rfl, by decide⟩ ⟨rfl, rfl, rfl, by decide⟩ ⟨rfl, rfl, rfl, by decide⟩ ⟨rfl, rfl, rfl, by decide⟩ (fun j hj => ⟨0, by omega, hk_f11 hj⟩) ⟨_, rfl, m_digest0 (d := 996) (n4 := 0) (n6 := 0) rfl rfl (by omega) rfl (by omega) (fun j hj => ⟨0, by omega, hk_ft hj⟩) ⟨by rw [hk_dge], hk_rmo0⟩⟩
end HKP5
