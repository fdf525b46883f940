/-! ===== tow; months with no ship ===== -/
/-- the first day of n calm ones, from day d on, m days left -/
def hk_twf (f : Nat → Int32) (n st : Int32) : Nat → Nat → Int32 → Int32
  | 0, _, _ => -1
  | m + 1, d, calm => if (if f d ≤ st then calm + 1 else 0) = n then nI d - n + 1 else hk_twf f n st m (d + 1) (if f d ≤ st then calm + 1 else 0)
section HKS3
variable {d t c n : Nat} {r v w x y z : Int32} {s : Nat → Nat → Int32} {lm : Nat → Nat → Int64} {i0 i1 b : Nat} {al : List Nat} {k : Option Value → hk_H → Prop}
theorem c_tow (hb : ¬ (hk_rg v 1 30 ∧ hk_rg w 0 100 ∧ hk_rg x 0 89) → k (some (.int (-2))) (s, lm, hk_RH i0 i1 b, al)) (hg : ∀ j, x = nI j → j < 90 → hk_rg v 1 30 ∧ hk_rg w 0 100 ∧ hk_rg x 0 89 → k (some (.int (hk_twf (fun i => s 22 i) v w (90 - j) j 0))) (s, lm, hk_RH i0 i1 b, al)) : hk_Cl (d + 2) 109 [.ref 0, .int v, .int w, .int x] (s, lm, hk_RH i0 i1 b, al) k := by
  refine hk_mth hk_m109 rfl rfl (n := 1000) ?_
  refine c_within0 (fun (a : v < 1 ∨ 30 < v) => ?_) (fun (p0 : ¬ v < 1) (q0 : ¬ 30 < v) => ?_)
  · refine And.intro (fun _ => ?_) (fun hc => absurd (by decide) hc)
    exact hb (fun q => a.elim q.1.1 q.1.2)
  refine And.intro (fun hc => absurd hc (by decide)) (fun _ => ?_)
  refine c_within0 (fun (a : w < 0 ∨ 100 < w) => ?_) (fun (p1 : ¬ w < 0) (q1 : ¬ 100 < w) => ?_)
  · refine And.intro (fun _ => ?_) (fun hc => absurd (by decide) hc)
    exact hb (fun q => a.elim q.2.1.1 q.2.1.2)
  refine And.intro (fun hc => absurd hc (by decide)) (fun _ => ?_)
  refine c_within0 (fun (a : x < 0 ∨ 89 < x) => ?_) (fun (p2 : ¬ x < 0) (q2 : ¬ 89 < x) => ?_)
  · refine And.intro (fun hc => absurd hc (by decide)) (fun _ => ?_)
    exact hb (fun q => a.elim q.2.2.1 q.2.2.2)
  refine And.intro (fun _ => ?_) (fun hc => absurd (by decide) hc)
  obtain ⟨j, hj, rfl⟩ := hk_rng (n := 89) (by decide) p2 q2
  have hg := hg j rfl (by omega) ⟨⟨p0, q0⟩, ⟨p1, q1⟩, ⟨p2, q2⟩⟩
  have loop : ∀ (m i : Nat) (calm : Int32), i + m = 90 → k (some (.int (hk_twf (fun i => s 22 i) v w m i calm))) (s, lm, hk_RH i0 i1 b, al) → hk_Rn (d + 1) none hk_c109 (hk_sfx 39 hk_c109) [some (.ref 0), some (.int v), some (.int w), some (.int (nI j)), some (.int calm), some (.int (nI i))] [] (s, lm, hk_RH i0 i1 b, al) k := by
    intro m
    induction m with
    | zero =>
      intro i calm hi hk
      have e : i = 90 := by omega
      subst e
      refine hk_hd (n := 1000) (t := 39) rfl ?_
      refine And.intro (fun _ => ?_) (fun hc => absurd (show (90 : Int32) ≤ nI 90 by decide) hc)
      exact hk
    | succ m ih =>
      intro i calm hi hk
      have a1 : ¬ nI 90 ≤ nI i := hk_nlt (by omega) (by omega)
      refine hk_hd (n := 1000) (t := 39) rfl ?_
      refine And.intro (fun hc => absurd hc a1) (fun _ => ?_)
      refine hk_ldi (i := nI i) (j := i) (by simp only [hk_lit, pk_mul, nI_add]) (by omega) (by decide) rfl ?_
      rw [hk_twf] at hk
      refine And.intro (fun c1 => ?_) (fun c1 => ?_)
      · have c1 : s 22 i ≤ w := c1
        rw [if_pos c1] at hk
        refine And.intro (fun c2 => ?_) (fun c2 => ?_)
        · have c2 : ¬ calm + 1 = v := c2
          rw [if_neg c2] at hk
          exact hk_Rn_cast (by rw [← nI_1]; rfl) (ih (i + 1) (calm + 1) (by omega) hk)
        · have c2 : calm + 1 = v := Classical.not_not.mp c2
          rw [if_pos c2] at hk
          exact hk
      · have c1 : ¬ s 22 i ≤ w := c1
        rw [if_neg c1] at hk
        refine And.intro (fun c2 => ?_) (fun c2 => ?_)
        · have c2 : ¬ (0 : Int32) = v := c2
          rw [if_neg c2] at hk
          exact hk_Rn_cast (by rw [← nI_1]; rfl) (ih (i + 1) 0 (by omega) hk)
        · have c2 : (0 : Int32) = v := Classical.not_not.mp c2
          rw [if_pos c2] at hk
          exact hk
  exact loop (90 - j) j 0 (by omega) hg
theorem m_tow (hb : ¬ (hk_rg v 1 30 ∧ hk_rg w 0 100 ∧ hk_rg x 0 89) → k (some (.int (-2))) (s, lm, hk_RH i0 i1 b, al)) (hg : ∀ j, x = nI j → j < 90 → hk_rg v 1 30 ∧ hk_rg w 0 100 ∧ hk_rg x 0 89 → k (some (.int (hk_twf (fun i => s 41 (1718 + i)) v w (90 - j) j 0))) (s, lm, hk_RH i0 i1 b, al)) : hk_Cl (d + 2) 211 [.ref 40, .int v, .int w, .int x] (s, lm, hk_RH i0 i1 b, al) k := by
  refine hk_mth hk_m211 rfl rfl (n := 1000) ?_
  refine m_in0 (fun (a : v < 1 ∨ 30 < v) => ?_) (fun (p0 : ¬ v < 1) (q0 : ¬ 30 < v) => ?_)
  · refine And.intro (fun _ => ?_) (fun hc => absurd (by decide) hc)
    exact hb (fun q => a.elim q.1.1 q.1.2)
  refine And.intro (fun hc => absurd hc (by decide)) (fun _ => ?_)
  refine m_in0 (fun (a : w < 0 ∨ 100 < w) => ?_) (fun (p1 : ¬ w < 0) (q1 : ¬ 100 < w) => ?_)
  · refine And.intro (fun _ => ?_) (fun hc => absurd (by decide) hc)
    exact hb (fun q => a.elim q.2.1.1 q.2.1.2)
  refine And.intro (fun hc => absurd hc (by decide)) (fun _ => ?_)
  refine m_in0 (fun (a : x < 0 ∨ 89 < x) => ?_) (fun (p2 : ¬ x < 0) (q2 : ¬ 89 < x) => ?_)
  · refine And.intro (fun hc => absurd hc (by decide)) (fun _ => ?_)
    exact hb (fun q => a.elim q.2.2.1 q.2.2.2)
  refine And.intro (fun _ => ?_) (fun hc => absurd (by decide) hc)
  obtain ⟨j, hj, rfl⟩ := hk_rng (n := 89) (by decide) p2 q2
  have hg := hg j rfl (by omega) ⟨⟨p0, q0⟩, ⟨p1, q1⟩, ⟨p2, q2⟩⟩
  have loop : ∀ (m i : Nat) (calm : Int32), i + m = 90 → k (some (.int (hk_twf (fun i => s 41 (1718 + i)) v w m i calm))) (s, lm, hk_RH i0 i1 b, al) → hk_Rn (d + 1) none hk_c211 (hk_sfx 39 hk_c211) [some (.ref 40), some (.int v), some (.int w), some (.int (nI j)), some (.int calm), some (.int (nI i))] [] (s, lm, hk_RH i0 i1 b, al) k := by
    intro m
    induction m with
    | zero =>
      intro i calm hi hk
      have e : i = 90 := by omega
      subst e
      refine hk_hd (n := 1000) (t := 39) rfl ?_
      refine And.intro (fun _ => ?_) (fun hc => absurd (show (90 : Int32) ≤ nI 90 by decide) hc)
      exact hk
    | succ m ih =>
      intro i calm hi hk
      have a1 : ¬ nI 90 ≤ nI i := hk_nlt (by omega) (by omega)
      refine hk_hd (n := 1000) (t := 39) rfl ?_
      refine And.intro (fun hc => absurd hc a1) (fun _ => ?_)
      refine hk_ldi (i := 1718 + nI i) (j := 1718 + i) (by simp only [hk_lit, pk_mul, nI_add]) (by omega) (by decide) rfl ?_
      rw [hk_twf] at hk
      refine And.intro (fun c1 => ?_) (fun c1 => ?_)
      · have c1 : s 41 (1718 + i) ≤ w := c1
        rw [if_pos c1] at hk
        refine And.intro (fun c2 => ?_) (fun c2 => ?_)
        · have c2 : ¬ calm + 1 = v := c2
          rw [if_neg c2] at hk
          exact hk_Rn_cast (by rw [← nI_1]; rfl) (ih (i + 1) (calm + 1) (by omega) hk)
        · have c2 : calm + 1 = v := Classical.not_not.mp c2
          rw [if_pos c2] at hk
          exact hk
      · have c1 : ¬ s 41 (1718 + i) ≤ w := c1
        rw [if_neg c1] at hk
        refine And.intro (fun c2 => ?_) (fun c2 => ?_)
        · have c2 : ¬ (0 : Int32) = v := c2
          rw [if_neg c2] at hk
          exact hk_Rn_cast (by rw [← nI_1]; rfl) (ih (i + 1) 0 (by omega) hk)
        · have c2 : (0 : Int32) = v := Classical.not_not.mp c2
          rw [if_pos c2] at hk
          exact hk
  exact loop (90 - j) j 0 (by omega) hg
theorem c_mayPass (h0 : ¬ (hk_rg v 1 60 ∧ ¬ 599 < s 1 12 + v) → k (some (.int 0)) (s, lm, hk_RH i0 i1 b, al)) (h1 : hk_rg v 1 60 ∧ ¬ 599 < s 1 12 + v → k (some (.int 1)) (s, lm, hk_RH i0 i1 b, al)) : hk_Cl (d + 2) 27 [.ref 0, .int v] (s, lm, hk_RH i0 i1 b, al) k := by
  refine hk_mth hk_m27 rfl rfl (n := 1000) ?_
  refine c_within (fun p q => ?_) (fun a => ?_)
  rotate_left
  · refine And.intro (fun _ => ?_) (fun hc => absurd (by decide) hc)
    exact And.intro (Or.inl rfl) (h0 fun q => a.elim q.1.1 q.1.2)
  refine And.intro (fun hc => absurd hc (by decide)) (fun _ => ?_)
  refine And.intro (fun c1 => ?_) (fun c1 => ?_)
  · exact And.intro (Or.inl rfl) (h0 fun q => q.2 c1)
  · exact And.intro (Or.inr rfl) (h1 ⟨⟨p, q⟩, c1⟩)
theorem m_isAhead (h0 : ¬ (hk_rg v 1 60 ∧ ¬ 599 < s 41 7 + v) → k (some (.int 0)) (s, lm, hk_RH i0 i1 b, al)) (h1 : hk_rg v 1 60 ∧ ¬ 599 < s 41 7 + v → k (some (.int 1)) (s, lm, hk_RH i0 i1 b, al)) : hk_Cl (d + 2) 150 [.ref 40, .int v] (s, lm, hk_RH i0 i1 b, al) k := by
  refine hk_mth hk_m150 rfl rfl (n := 1000) ?_
  refine m_in (fun p q => ?_) (fun a => ?_)
  rotate_left
  · refine And.intro (fun _ => ?_) (fun hc => absurd (by decide) hc)
    exact And.intro (Or.inl rfl) (h0 fun q => a.elim q.1.1 q.1.2)
  refine And.intro (fun hc => absurd hc (by decide)) (fun _ => ?_)
  refine hk_ldi (i := nI 7) (j := 7) (by simp only [hk_lit, pk_mul, nI_add]) (by omega) (by decide) rfl ?_
  refine And.intro (fun c1 => ?_) (fun c1 => ?_)
  · exact And.intro (Or.inl rfl) (h0 fun q => q.2 c1)
  · exact And.intro (Or.inr rfl) (h1 ⟨⟨p, q⟩, c1⟩)
/-- a month with no ship -/
theorem c_pass0 (hs : s 2 3 = 0) (h1 : k (some (.int 0)) (hk_u2 s 1 12 (s 1 12 + 1), lm, hk_RH i0 i1 b, al)) : hk_Cl (d + 1) 29 [.ref 1] (s, lm, hk_RH i0 i1 b, al) k := by
  have loop : ∀ a : Int32, hk_Rn d none hk_c29 (hk_sfx 41 hk_c29) [some (.ref 1), some (.int a), some (.int (s 1 14)), some (.int 0), some (.int 0), none, none] [] (s, lm, hk_RH i0 i1 b, al) k := by
    intro a
    have a1 : s 2 3 ≤ 0 := by rw [hs]; decide
    refine hk_hd (n := 1000) (t := 41) rfl ?_
    refine And.intro (fun _ => ?_) (fun hc => absurd a1 hc)
    exact h1
  refine hk_mth hk_m29 rfl rfl (n := 1000) ?_
  refine And.intro (fun c1 => ?_) (fun c1 => ?_)
  · exact loop 0
  refine And.intro (fun c2 => ?_) (fun c2 => ?_)
  · exact loop 0
  have c1 : ¬ s 1 12 < 0 := c1
  have c2 : ¬ nI 600 ≤ s 1 12 := c2
  obtain ⟨j, hj, e⟩ := nI_of c1
  have hj2 : j < 600 := by
    rw [e, nI_leI (by omega) hj] at c2
    omega
  refine hk_ldi (i := s 1 12) (j := j) e hj2 (by decide) rfl ?_
  exact loop (s 21 j)
theorem c_passMs (hs : s 2 3 = 0) {m : Nat} (hm : m ≤ 60) (h1 : ∀ s2, (∀ p q, ¬ (p = 1 ∧ q = 12) → s2 p q = s p q) → k (some (.int 0)) (s2, lm, hk_RH i0 i1 b, al)) : hk_Cl (d + 2) 28 [.ref 1, .int (nI m)] (s, lm, hk_RH i0 i1 b, al) k := by
  have loop : ∀ (q i : Nat), i + q = m → ∀ s1, (∀ p q, ¬ (p = 1 ∧ q = 12) → s1 p q = s p q) → hk_Rn (d + 1) none hk_c28 (hk_sfx 4 hk_c28) [some (.ref 1), some (.int (nI m)), some (.int 0), some (.int (nI i))] [] (s1, lm, hk_RH i0 i1 b, al) k := by
    intro q
    induction q with
    | zero =>
      intro i hi s1 h
      have e : i = m := by omega
      subst e
      refine hk_hd (n := 1000) (t := 4) rfl ?_
      refine And.intro (fun _ => ?_) (fun hc => absurd (Int32.le_refl _) hc)
      exact h1 s1 h
    | succ q ih =>
      intro i hi s1 h
      have a1 : ¬ nI m ≤ nI i := hk_nlt (by omega) (by omega)
      refine hk_hd (n := 1000) (t := 4) rfl ?_
      refine And.intro (fun hc => absurd hc a1) (fun _ => ?_)
      refine c_pass0 (by rw [h 2 3 (by omega)]; exact hs) ?_
      refine hk_Rn_cast (by rw [← nI_1]; rfl) (ih (i + 1) (by omega) (hk_u2 s1 1 12 (s1 1 12 + 1)) (fun p q hp => ?_))
      rw [hk_u2o hp]
      exact h p q hp
  refine hk_mth hk_m28 rfl rfl (n := 1000) ?_
  exact loop m 0 (by omega) s (fun _ _ _ => rfl)
theorem hk_rg1 {m : Nat} (hm : m < 2 ^ 31) (h : hk_rg v 1 (nI m)) : ∃ j, j ≤ m ∧ v = nI j := hk_rng hm (fun q => h.1 (Int32.lt_trans q (by decide))) h.2
theorem c_months0 (hs : s 2 3 = 0) (hb : ¬ (hk_rg v 1 60 ∧ ¬ 599 < s 1 12 + v) → k (some (.int (-2))) (s, lm, hk_RH i0 i1 b, al)) (hg : hk_rg v 1 60 ∧ ¬ 599 < s 1 12 + v → ∀ s2, (∀ p q, ¬ (p = 1 ∧ q = 12) → s2 p q = s p q) → k (some (.int 0)) (s2, lm, hk_RH i0 i1 b, al)) : hk_Cl (d + 3) 26 [.ref 0, .int v] (s, lm, hk_RH i0 i1 b, al) k := by
  refine hk_mth hk_m26 rfl rfl (n := 1000) ?_
  refine c_mayPass (fun a => ?_) (fun a => ?_)
  · refine And.intro (fun _ => ?_) (fun hc => absurd (by decide) hc)
    exact hb a
  refine And.intro (fun hc => absurd hc (by decide)) (fun _ => ?_)
  obtain ⟨m, hm, rfl⟩ := hk_rg1 (m := 60) (by decide) a.1
  exact c_passMs hs hm (hg a)
/-- a month of the reference with no ship, no plate -/
theorem m_goes0 (h0 : s 41 0 = 0) (h1 : s 41 1 = 0) (hk : k (some (.int 0)) (hk_u2 s 41 7 (s 41 7 + 1), lm, hk_RH i0 i1 b, al)) : hk_Cl (d + 1) 151 [.ref 40] (s, lm, hk_RH i0 i1 b, al) k := by
  refine hk_mth hk_m151 rfl rfl (n := 1000) ?_
  refine hk_hd (n := 1000) (t := 2) rfl ?_
  refine hk_ldi (i := nI 1) (j := 1) (by simp only [hk_lit, pk_mul, nI_add]) (by omega) (by decide) h1 ?_
  refine And.intro (fun _ => ?_) (fun hc => absurd (by decide) hc)
  refine hk_ldi (i := nI 9) (j := 9) (by simp only [hk_lit, pk_mul, nI_add]) (by omega) (by decide) rfl ?_
  refine hk_hd (n := 1000) (t := 90) rfl ?_
  refine hk_ldi (i := nI 0) (j := 0) (by simp only [hk_lit, pk_mul, nI_add]) (by omega) (by decide) h0 ?_
  refine And.intro (fun _ => ?_) (fun hc => absurd (by decide) hc)
  refine hk_ldi (i := nI 7) (j := 7) (by simp only [hk_lit, pk_mul, nI_add]) (by omega) (by decide) rfl ?_
  refine hk_sti (i := nI 7) (j := 7) rfl (by omega) (by decide) ?_
  exact hk
theorem m_months0 (h0 : s 41 0 = 0) (h1 : s 41 1 = 0) (hb : ¬ (hk_rg v 1 60 ∧ ¬ 599 < s 41 7 + v) → k (some (.int (-2))) (s, lm, hk_RH i0 i1 b, al)) (hg : hk_rg v 1 60 ∧ ¬ 599 < s 41 7 + v → ∀ s2, (∀ p q, ¬ (p = 41 ∧ q = 7) → s2 p q = s p q) → k (some (.int 0)) (s2, lm, hk_RH i0 i1 b, al)) : hk_Cl (d + 3) 149 [.ref 40, .int v] (s, lm, hk_RH i0 i1 b, al) k := by
  refine hk_mth hk_m149 rfl rfl (n := 1000) ?_
  refine m_isAhead (fun a => ?_) (fun a => ?_)
  · refine And.intro (fun hc => absurd hc (by decide)) (fun _ => ?_)
    exact hb a
  refine And.intro (fun _ => ?_) (fun hc => absurd (by decide) hc)
  obtain ⟨m, hm, rfl⟩ := hk_rg1 (m := 60) (by decide) a.1
  have loop : ∀ (q i : Nat), i + q = m → ∀ s1, (∀ p q, ¬ (p = 41 ∧ q = 7) → s1 p q = s p q) → hk_Rn (d + 2) none hk_c149 (hk_sfx 15 hk_c149) [some (.ref 40), some (.int (nI m)), some (.int 0), some (.int (nI i))] [] (s1, lm, hk_RH i0 i1 b, al) k := by
    intro q
    induction q with
    | zero =>
      intro i hi s1 h
      have e : i = m := by omega
      subst e
      refine hk_hd (n := 1000) (t := 15) rfl ?_
      refine And.intro (fun _ => ?_) (fun hc => absurd (Int32.le_refl _) hc)
      exact hg a s1 h
    | succ q ih =>
      intro i hi s1 h
      have a1 : ¬ nI m ≤ nI i := hk_nlt (by omega) (by omega)
      refine hk_hd (n := 1000) (t := 15) rfl ?_
      refine And.intro (fun hc => absurd hc a1) (fun _ => ?_)
      refine m_goes0 (by rw [h 41 0 (by omega)]; exact h0) (by rw [h 41 1 (by omega)]; exact h1) ?_
      refine hk_Rn_cast (by rw [← nI_1]; rfl) (ih (i + 1) (by omega) (hk_u2 s1 41 7 (s1 41 7 + 1)) (fun p q hp => ?_))
      rw [hk_u2o hp]
      exact h p q hp
  exact loop m 0 (by omega) s (fun _ _ _ => rfl)
end HKS3
section HKP4
variable {v w x z y : Int32}
theorem p_months : hk_P2 26 149 [.int v] :=
  c_months0 (d := 997) rfl (fun hb => ⟨_, rfl, m_months0 (d := 997) rfl rfl (fun _ => ⟨rfl, hk_rmo0⟩) (fun hg => absurd hg hb)⟩) (fun hg s2 h2 => ⟨_, rfl, m_months0 (d := 997) (by rw [h2 41 0 (by omega)]; rfl) (by rw [h2 41 1 (by omega)]; rfl) (fun hb => absurd ⟨hg.1, by rw [h2 41 7 (by omega)]; exact hg.2⟩ hb) (fun _ _ _ => ⟨rfl, hk_rmo0⟩)⟩)
theorem hk_wv {j : Nat} (hj : j < 90) : hk_F0s 22 j = 0 := by
  unfold hk_F0s
  rw [hk_st0_o (by omega)]
  rfl
theorem hk_twe {f g : Nat → Int32} {n st : Int32} : ∀ (m d : Nat) (calm : Int32), d + m = 90 → (∀ i, i < 90 → f i = g i) → hk_twf f n st m d calm = hk_twf g n st m d calm
  | 0, _, _, _, _ => rfl
  | m + 1, d, calm, h, e => by
    rw [hk_twf, hk_twf, e d (by omega), hk_twe m (d + 1) _ (by omega) e]
theorem p_tow : hk_P2 109 211 [.int v, .int w, .int x] :=
  c_tow (d := 998) (fun hb => ⟨_, rfl, m_tow (d := 998) (fun _ => ⟨rfl, hk_rmo0⟩) (fun _ _ _ hg => absurd hg hb)⟩) (fun j ej hj hg => ⟨_, rfl, m_tow (d := 998) (fun hb => absurd hg hb) (fun i ei hi _ => ⟨by
    have e : i = j := by
      rw [ej] at ei
      exact ((nI_eq (by omega) (by omega)).mp ei).symm
    subst e
    rw [hk_twe (g := fun i => hk_F0s 22 i) (90 - i) i 0 (by omega) (fun q hq => by rw [hk_st0_z (by omega), hk_wv hq])], hk_rmo0⟩)⟩)
end HKP4
