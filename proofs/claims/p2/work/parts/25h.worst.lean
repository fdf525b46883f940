/-! ===== worst with no ship ===== -/
section HKW1
variable {d t c n : Nat} {r v w x y z : Int32} {s : Nat → Nat → Int32} {lm : Nat → Nat → Int64} {i0 i1 b : Nat} {al : List Nat} {k : Option Value → hk_H → Prop} {hp : hk_H}
theorem c_spass0 (hs : s 2 3 = 0) (h1 : k (some (.int 0)) (s, lm, hk_RH i0 i1 b, al)) : hk_Cl (d + 1) 122 [.ref 25, .ref 1, .int v, .int w] (s, lm, hk_RH i0 i1 b, al) k := by
  have a1 : (if (6 : Int32) < s 2 3 then 6 else s 2 3) ≤ 0 := by rw [hs]; decide
  refine hk_mth hk_m122 rfl rfl (n := 1000) ?_
  refine hk_hd (n := 1000) (t := 26) rfl ?_
  refine And.intro (fun _ => ?_) (fun hc => absurd a1 hc)
  exact h1
theorem c_sinkW0 (hs : s 2 3 = 0) {m : Nat} (hm : m ≤ 60) (h1 : ∀ s2, (∀ p q, p ≠ 27 → p ≠ 28 → s2 p q = s p q) → k (some (.int 0)) (s2, lm, hk_RH i0 i1 b, al)) : hk_Cl (d + 2) 121 [.ref 25, .ref 1, .int v, .int w, .int (nI m)] (s, lm, hk_RH i0 i1 b, al) k := by
  have ht : hk_tb 2 := by simp [hk_tb]
  have loop2 : ∀ (q j : Nat) (s2 : Nat → Nat → Int32) (l7 l8 : Option Value), j + q = m → (∀ p q, p ≠ 27 → p ≠ 28 → s2 p q = s p q) → hk_Rn (d + 1) none hk_c121 (hk_sfx 57 hk_c121) [some (.ref 25), some (.ref 1), some (.int v), some (.int w), some (.int (nI m)), some (.int 0), some (.int (nI j)), l7, l8] [] (s2, lm, hk_RH i0 i1 b, al) k := by
    intro q
    induction q with
    | zero =>
      intro j s2 l7 l8 hj h2
      have e : j = m := by omega
      subst e
      refine hk_hd (n := 1000) (t := 57) rfl ?_
      refine And.intro (fun _ => ?_) (fun hc => absurd (Int32.le_refl _) hc)
      exact h1 s2 h2
    | succ q ih =>
      intro j s2 l7 l8 hj h2
      have a1 : ¬ nI m ≤ nI j := hk_nlt (by omega) (by omega)
      have a2 : s2 2 3 = 0 := by rw [h2 _ _ (by omega) (by omega)]; exact hs
      have nx : ∀ v7 v8 : Int32, hk_Rn (d + 1) none hk_c121 (hk_sfx 57 hk_c121) [some (.ref 25), some (.ref 1), some (.int v), some (.int w), some (.int (nI m)), some (.int (0 + 0)), some (.int (nI j + 1)), some (.int v7), some (.int v8)] [] (s2, lm, hk_RH i0 i1 b, al) k := fun v7 v8 => hk_Rn_cast (by rw [← nI_1]; rfl) (ih (j + 1) s2 (some (.int v7)) (some (.int v8)) (by omega) h2)
      refine hk_hd (n := 1000) (t := 57) rfl ?_
      refine And.intro (fun hc => absurd hc a1) (fun _ => ?_)
      refine And.intro (fun c1 => ?_) (fun c1 => ?_)
      · refine And.intro (fun c3 => ?_) (fun c3 => ?_)
        · exact c_spass0 a2 (nx _ _)
        · exact c_spass0 a2 (nx _ _)
      refine And.intro (fun c2 => ?_) (fun c2 => ?_)
      · refine And.intro (fun c3 => ?_) (fun c3 => ?_)
        · exact c_spass0 a2 (nx _ _)
        · exact c_spass0 a2 (nx _ _)
      have c1 : ¬ s2 1 12 + nI j < 0 := c1
      have c2 : ¬ nI 600 ≤ s2 1 12 + nI j := c2
      obtain ⟨a, ha, e⟩ := nI_of c1
      have ha2 : a < 600 := by
        rw [e, nI_leI (by omega) ha] at c2
        omega
      refine hk_ldi (i := s2 1 12 + nI j) (j := a) e ha2 (by decide) rfl ?_
      refine And.intro (fun c3 => ?_) (fun c3 => ?_)
      · exact c_spass0 a2 (nx _ _)
      · exact c_spass0 a2 (nx _ _)
  have loop1 : ∀ (q j : Nat) (s2 : Nat → Nat → Int32), j + q = 6 → (∀ p q, p ≠ 27 → p ≠ 28 → s2 p q = s p q) → hk_Rn (d + 1) none hk_c121 (hk_sfx 3 hk_c121) [some (.ref 25), some (.ref 1), some (.int v), some (.int w), some (.int (nI m)), some (.int (nI j)), none, none, none] [] (s2, lm, hk_RH i0 i1 b, al) k := by
    intro q
    induction q with
    | zero =>
      intro j s2 hj h2
      have e : j = 6 := by omega
      subst e
      refine hk_hd (n := 1000) (t := 3) rfl ?_
      refine And.intro (fun _ => ?_) (fun hc => absurd (show (6 : Int32) ≤ nI 6 by decide) hc)
      exact loop2 m 0 s2 none none (by omega) h2
    | succ q ih =>
      intro j s2 hj h2
      have a1 : ¬ nI 6 ≤ nI j := hk_nlt (by omega) (by omega)
      have a2 : s2 2 3 = 0 := by rw [h2 _ _ (by omega) (by omega)]; exact hs
      refine hk_hd (n := 1000) (t := 3) rfl ?_
      refine And.intro (fun hc => absurd hc a1) (fun _ => ?_)
      refine c_get_out ht (Or.inr (by rw [a2]; exact nI_pos' (by omega))) ?_
      refine hk_stn (i := nI j) (j := j) (by simp only [hk_lit, pk_mul, nI_add]) (by omega) (by decide) (fun s3 (hs3 : s3 = hk_u2 s2 27 (j) 0) => ?_)
      have a3 : s3 2 3 = 0 := by rw [hs3, hk_u2o (by omega)]; exact a2
      refine c_get_out ht (Or.inr (by rw [a3]; exact nI_pos' (by omega))) ?_
      refine hk_stn (i := nI j) (j := j) (by simp only [hk_lit, pk_mul, nI_add]) (by omega) (by decide) (fun s4 (hs4 : s4 = hk_u2 s3 28 (j) 0) => ?_)
      exact hk_Rn_cast (by rw [← nI_1]; rfl) (ih (j + 1) s4 (by omega) (fun p q h1 h3 => by rw [hs4, hk_u2o (by omega), hs3, hk_u2o (by omega)]; exact h2 p q h1 h3))
  refine hk_mth hk_m121 rfl rfl (n := 1000) ?_
  exact loop1 6 0 s (by omega) (fun _ _ _ _ => rfl)
theorem c_seek0 (hs : s 2 3 = 0) {m : Nat} (hm : m ≤ 60) (h1 : ∀ s2, (∀ p q, p ≠ 25 → p ≠ 27 → p ≠ 28 → s2 p q = s p q) → s2 25 3 = s 1 12 → s2 25 4 = 0 → k none (s2, lm, hk_RH i0 i1 b, al)) : hk_Cl (d + 3) 120 [.ref 25, .ref 1, .int v, .int (nI m)] (s, lm, hk_RH i0 i1 b, al) k := by
  have em : (if (60 : Int32) < nI m then 60 else nI m) = nI m := by
    rw [if_neg]
    intro h
    have h : nI 60 < nI m := h
    rw [nI_ltI (by omega) (by omega)] at h
    omega
  have ez : (if (6 : Int32) < s 2 3 then 6 else s 2 3) = 0 := by rw [hs]; decide
  have loop2 : ∀ (q j : Nat) (s2 : Nat → Nat → Int32) (l7 : Option Value), j + q = m → (∀ p q, p ≠ 25 → p ≠ 27 → p ≠ 28 → s2 p q = s p q) → s2 25 3 = s 1 12 → s2 25 4 = 0 → hk_Rn (d + 2) none hk_c120 (hk_sfx 93 hk_c120) [some (.ref 25), some (.ref 1), some (.int v), some (.int (nI m)), some (.int (nI m)), some (.int 0), some (.int (nI j)), l7] [] (s2, lm, hk_RH i0 i1 b, al) k := by
    intro q
    induction q with
    | zero =>
      intro j s2 l7 hj h2 h3 h4
      have e : j = m := by omega
      subst e
      refine hk_hd (n := 1000) (t := 93) rfl ?_
      refine And.intro (fun _ => ?_) (fun hc => absurd (Int32.le_refl _) hc)
      exact h1 s2 h2 h3 h4
    | succ q ih =>
      intro j s2 l7 hj h2 h3 h4
      have a1 : ¬ nI m ≤ nI j := hk_nlt (by omega) (by omega)
      refine hk_hd (n := 1000) (t := 93) rfl ?_
      refine And.intro (fun hc => absurd hc a1) (fun _ => ?_)
      refine c_sinkW0 (by rw [h2 _ _ (by omega) (by omega) (by omega)]; exact hs) hm (fun s3 h5 => ?_)
      refine And.intro (fun _ => ?_) (fun hc => absurd (show (0 : Int32) ≤ s3 25 4 by rw [h5 _ _ (by omega) (by omega), h4]; decide) hc)
      exact hk_Rn_cast (by rw [← nI_1]; rfl) (ih (j + 1) s3 _ (by omega) (fun p q a b c => by rw [h5 p q b c]; exact h2 p q a b c) (by rw [h5 _ _ (by omega) (by omega)]; exact h3) (by rw [h5 _ _ (by omega) (by omega)]; exact h4))
  have loop1 : ∀ (q j : Nat) (l7 : Option Value), j + q = m → hk_Rn (d + 2) none hk_c120 (hk_sfx 25 hk_c120) [some (.ref 25), some (.ref 1), some (.int v), some (.int (nI m)), some (.int (nI m)), some (.int 0), some (.int (nI j)), l7] [] (s, lm, hk_RH i0 i1 b, al) k := by
    intro q
    induction q with
    | zero =>
      intro j l7 hj
      have e : j = m := by omega
      subst e
      refine hk_hd (n := 1000) (t := 25) rfl ?_
      refine And.intro (fun _ => ?_) (fun hc => absurd (Int32.le_refl _) hc)
      exact loop2 j 0 (hk_u2 (hk_u2 s 25 3 (s 1 12)) 25 4 0) l7 (by omega) (fun p q a _ _ => by rw [hk_u2o (by omega), hk_u2o (by omega)]) (by rw [hk_u2o (by omega), hk_u2s]) hk_u2s
    | succ q ih =>
      intro j l7 hj
      have a1 : ¬ nI m ≤ nI j := hk_nlt (by omega) (by omega)
      refine hk_hd (n := 1000) (t := 25) rfl ?_
      refine And.intro (fun hc => absurd hc a1) (fun _ => ?_)
      refine hk_hd (n := 1000) (t := 35) rfl ?_
      refine And.intro (fun _ => ?_) (fun hc => absurd (show (0 : Int32) ≤ 0 by decide) hc)
      exact hk_Rn_cast (by rw [← nI_1]; rfl) (ih (j + 1) _ (by omega))
  refine hk_mth hk_m120 rfl rfl (n := 1000) ?_
  refine hk_Rn_cast (L2 := [some (.ref 25), some (.ref 1), some (.int v), some (.int (nI m)), some (.int (nI m)), some (.int 0), some (.int (nI 0)), none]) ?_ (loop1 m 0 none (by omega))
  show [some (Value.ref 25), some (.ref 1), some (.int v), some (.int (nI m)), some (.int (if (60 : Int32) < nI m then 60 else nI m)), some (.int (if (6 : Int32) < s 2 3 then 6 else s 2 3)), some (.int 0), none] = _
  rw [em, ez]
  rfl
theorem c_worst0 (hs : s 2 3 = 0) (hb : ¬ (hk_rg v 1 100000 ∧ (hk_rg w 1 60 ∧ ¬ 599 < s 1 12 + w) ∧ hk_rg x 0 1) → k (some (.int (-2))) (s, lm, hk_RH i0 i1 b, al)) (hg : hk_rg v 1 100000 ∧ (hk_rg w 1 60 ∧ ¬ 599 < s 1 12 + w) ∧ hk_rg x 0 1 → ∀ s2, (∀ p q, p ≠ 25 → p ≠ 27 → p ≠ 28 → s2 p q = s p q) → k (some (.int (if x = 0 then s 1 12 else 0))) (s2, lm, hk_RH i0 i1 b, al)) : hk_Cl (d + 4) 119 [.ref 0, .int v, .int w, .int x] (s, lm, hk_RH i0 i1 b, al) k := by
  refine hk_mth hk_m119 rfl rfl (n := 1000) ?_
  refine c_within0 (fun (a : v < 1 ∨ 100000 < v) => ?_) (fun (p0 : ¬ v < 1) (q0 : ¬ 100000 < v) => ?_)
  · refine And.intro (fun _ => ?_) (fun hc => absurd (by decide) hc)
    exact hb (fun q => a.elim q.1.1 q.1.2)
  refine And.intro (fun hc => absurd hc (by decide)) (fun _ => ?_)
  refine c_mayPass (fun a => ?_) (fun a => ?_)
  · refine And.intro (fun _ => ?_) (fun hc => absurd (by decide) hc)
    exact hb (fun q => a q.2.1)
  refine And.intro (fun hc => absurd hc (by decide)) (fun _ => ?_)
  refine c_within0 (fun (a : x < 0 ∨ 1 < x) => ?_) (fun (p2 : ¬ x < 0) (q2 : ¬ 1 < x) => ?_)
  · refine And.intro (fun hc => absurd hc (by decide)) (fun _ => ?_)
    exact hb (fun q => a.elim q.2.2.1 q.2.2.2)
  refine And.intro (fun _ => ?_) (fun hc => absurd (by decide) hc)
  have hg2 := hg ⟨⟨p0, q0⟩, a, ⟨p2, q2⟩⟩
  clear hg
  obtain ⟨m, hm, rfl⟩ := hk_rg1 (m := 60) (by decide) a.1
  refine c_seek0 hs hm (fun s2 h2 h3 h4 => ?_)
  have fin := hg2 s2 h2
  refine And.intro (fun c1 => ?_) (fun c1 => ?_)
  · have c1 : ¬ x = 0 := c1
    rw [if_neg c1, ← h4] at fin
    exact fin
  · have c1 : x = 0 := Classical.not_not.mp c1
    rw [if_pos c1, ← h3] at fin
    exact fin
/-- the reference's row is kept -/
def hk_kp (s s2 : Nat → Nat → Int32) : Prop := (∀ j, j < 2448 → s2 42 j = s 41 j) ∧ s2 41 0 = 0 ∧ s2 41 1 = 0
theorem m_worst0 (h0 : s 41 0 = 0) (hp1 : s 41 1 = 0) {q : Nat} (hq : s 41 7 = nI q) (hq2 : q < 600) (hb : ¬ (hk_rg v 1 100000 ∧ (hk_rg w 1 60 ∧ ¬ 599 < s 41 7 + w) ∧ hk_rg x 0 1) → k (some (.int (-2))) (s, lm, hk_RH i0 i1 b, al)) (hg : hk_rg v 1 100000 ∧ (hk_rg w 1 60 ∧ ¬ 599 < s 41 7 + w) ∧ hk_rg x 0 1 → ∀ s2, k (some (.int (if x = 0 then s 41 7 else 0))) (s2, lm, hk_RH i0 i1 b, al)) : hk_Cl (d + 4) 216 [.ref 40, .int v, .int w, .int x] (s, lm, hk_RH i0 i1 b, al) k := by
  refine hk_mth hk_m216 rfl rfl (n := 1000) ?_
  refine m_in0 (fun (a : v < 1 ∨ 100000 < v) => ?_) (fun (p0 : ¬ v < 1) (q0 : ¬ 100000 < v) => ?_)
  · refine And.intro (fun _ => ?_) (fun hc => absurd (by decide) hc)
    exact hb (fun q => a.elim q.1.1 q.1.2)
  refine And.intro (fun hc => absurd hc (by decide)) (fun _ => ?_)
  refine m_isAhead (fun a => ?_) (fun a => ?_)
  · refine And.intro (fun _ => ?_) (fun hc => absurd (by decide) hc)
    exact hb (fun q => a q.2.1)
  refine And.intro (fun hc => absurd hc (by decide)) (fun _ => ?_)
  refine m_in0 (fun (a : x < 0 ∨ 1 < x) => ?_) (fun (p2 : ¬ x < 0) (q2 : ¬ 1 < x) => ?_)
  · refine And.intro (fun hc => absurd hc (by decide)) (fun _ => ?_)
    exact hb (fun q => a.elim q.2.2.1 q.2.2.2)
  refine And.intro (fun _ => ?_) (fun hc => absurd (by decide) hc)
  have hg2 := hg ⟨⟨p0, q0⟩, a, ⟨p2, q2⟩⟩
  clear hg
  obtain ⟨m, hm, rfl⟩ := hk_rg1 (m := 60) (by decide) a.1
  have hm1 : 1 ≤ m := by
    have h := a.1.1
    have h : ¬ nI m < nI 1 := h
    rw [nI_ltI (by omega) (by omega)] at h
    omega
  have hqm : q + m ≤ 599 := by
    have h := a.2
    rw [hq, nI_add] at h
    have h : ¬ nI 599 < nI (q + m) := h
    rw [nI_ltI (by omega) (by omega)] at h
    omega
  rw [hq] at hg2
  have loop : ∀ (r j : Nat) (W : Int32) (s2 : Nat → Nat → Int32) (l8 l9 : Option Value), j + r = q + m → ((W = -1 ∧ j = q) ∨ W = nI q) → hk_kp s s2 → hk_Rn (d + 3) none hk_c216 (hk_sfx 80 hk_c216) [some (.ref 40), some (.int v), some (.int (nI m)), some (.int x), some (.int (nI q)), some (.int W), some (.int 0), some (.int (nI j)), l8, l9] [] (s2, lm, hk_RH i0 i1 b, al) k := by
    intro r
    induction r with
    | zero =>
      intro j W s2 l8 l9 hj hW hJ
      have eW : W = nI q := hW.elim (fun h => by omega) id
      subst eW
      have a1 : nI q + nI m ≤ nI j := by rw [nI_add]; exact nI_le (by omega) (by omega)
      have fin := hg2 s2
      refine hk_hd (n := 1000) (t := 80) rfl ?_
      refine And.intro (fun _ => ?_) (fun hc => absurd a1 hc)
      refine And.intro (fun c1 => ?_) (fun c1 => ?_)
      · have c1 : ¬ x = 0 := c1
        rw [if_neg c1] at fin
        exact fin
      · have c1 : x = 0 := Classical.not_not.mp c1
        rw [if_pos c1] at fin
        exact fin
    | succ r ih =>
      intro j W s2 l8 l9 hj hW hJ
      have a1 : ¬ nI q + nI m ≤ nI j := by rw [nI_add]; exact hk_nlt (by omega) (by omega)
      have l155 : ∀ (g i : Nat) (s3 : Nat → Nat → Int32), i + g = 2448 → hk_kp s s3 → hk_Rn (d + 3) none hk_c216 (hk_sfx 155 hk_c216) [some (.ref 40), some (.int v), some (.int (nI m)), some (.int x), some (.int (nI q)), some (.int (nI q)), some (.int 0), some (.int (nI j)), some (.int 0), some (.int (nI i))] [] (s3, lm, hk_RH i0 i1 b, al) k := by
        intro g
        induction g with
        | zero =>
          intro i s3 hi hJ3
          have e : i = 2448 := by omega
          subst e
          refine hk_hd (n := 1000) (t := 155) rfl ?_
          refine And.intro (fun _ => ?_) (fun hc => absurd (show (2448 : Int32) ≤ nI 2448 by decide) hc)
          exact hk_Rn_cast (by rw [← nI_1 j]; rfl) (ih (j + 1) (nI q) s3 (some (.int 0)) (some (.int (nI 2448))) (by omega) (Or.inr rfl) hJ3)
        | succ g ih2 =>
          intro i s3 hi hJ3
          have b1 : ¬ nI 2448 ≤ nI i := hk_nlt (by omega) (by omega)
          refine hk_hd (n := 1000) (t := 155) rfl ?_
          refine And.intro (fun hc => absurd hc b1) (fun _ => ?_)
          refine hk_ldi (i := nI i) (j := i) (by simp only [hk_lit, pk_mul, nI_add]) (by omega) (by decide) (hJ3.1 i (by omega)) ?_
          refine hk_stn (i := nI i) (j := i) (by simp only [hk_lit, pk_mul, nI_add]) (by omega) (by decide) (fun s4 (hs4 : s4 = hk_u2 s3 41 (i) (s 41 i)) => ?_)
          refine hk_Rn_cast (by rw [← nI_1]; rfl) (ih2 (i + 1) s4 (by omega) ⟨fun z hz => ?_, ?_, ?_⟩)
          · rw [hs4, hk_u2o (by omega)]
            exact hJ3.1 z hz
          · rw [hs4]
            by_cases e : i = 0
            · subst e; rw [hk_u2s]; exact h0
            · rw [hk_u2o (by omega)]; exact hJ3.2.1
          · rw [hs4]
            by_cases e : i = 1
            · subst e; rw [hk_u2s]; exact hp1
            · rw [hk_u2o (by omega)]; exact hJ3.2.2
      have l110 : ∀ (g i : Nat) (s3 : Nat → Nat → Int32), i + g = m → hk_kp s s3 → hk_Rn (d + 3) none hk_c216 (hk_sfx 110 hk_c216) [some (.ref 40), some (.int v), some (.int (nI m)), some (.int x), some (.int (nI q)), some (.int W), some (.int 0), some (.int (nI j)), some (.int 0), some (.int (nI i))] [] (s3, lm, hk_RH i0 i1 b, al) k := by
        intro g
        induction g with
        | zero =>
          intro i s3 hi hJ3
          have e : i = m := by omega
          subst e
          refine hk_hd (n := 1000) (t := 110) rfl ?_
          refine And.intro (fun _ => ?_) (fun hc => absurd (Int32.le_refl _) hc)
          refine And.intro (fun c1 => ?_) (fun c1 => ?_)
          · have c1 : W = -1 := c1
            have ej : j = q := hW.elim (fun h => h.2) (fun h => by
              rw [c1] at h
              exact absurd (show (-1 : Int32) < 0 by decide) (by rw [h]; exact nI_pos (by omega)))
            subst ej
            exact l155 2448 0 s3 (by omega) hJ3
          · have c1 : ¬ W = -1 := c1
            have eW : W = nI q := hW.elim (fun h => absurd h.1 c1) id
            refine And.intro (fun _ => ?_) (fun hc => absurd (show (0 : Int32) ≤ 0 by decide) hc)
            rw [eW]
            exact l155 2448 0 s3 (by omega) hJ3
        | succ g ih2 =>
          intro i s3 hi hJ3
          have b1 : ¬ nI m ≤ nI i := hk_nlt (by omega) (by omega)
          refine hk_hd (n := 1000) (t := 110) rfl ?_
          refine And.intro (fun hc => absurd hc b1) (fun _ => ?_)
          refine m_goes0 hJ3.2.1 hJ3.2.2 ?_
          refine hk_Rn_cast (by rw [← nI_1]; rfl) (ih2 (i + 1) (hk_u2 s3 41 7 (s3 41 7 + 1)) (by omega) ⟨fun z hz => ?_, ?_, ?_⟩)
          · rw [hk_u2o (by omega)]; exact hJ3.1 z hz
          · rw [hk_u2o (by omega)]; exact hJ3.2.1
          · rw [hk_u2o (by omega)]; exact hJ3.2.2
      refine hk_hd (n := 1000) (t := 80) rfl ?_
      refine And.intro (fun hc => absurd hc a1) (fun _ => ?_)
      refine hk_ldi (i := 1848 + nI j) (j := 1848 + j) (by simp only [hk_lit, pk_mul, nI_add]) (by omega) (by decide) rfl ?_
      refine hk_stn (i := 1848 + nI j) (j := 1848 + j) (by simp only [hk_lit, pk_mul, nI_add]) (by omega) (by decide) (fun s3 (hs3 : s3 = hk_u2 s2 41 (1848 + j) (s2 41 (1848 + j) + v)) => ?_)
      refine l110 m 0 s3 (by omega) ⟨fun z hz => ?_, ?_, ?_⟩
      · rw [hs3, hk_u2o (by omega)]; exact hJ.1 z hz
      · rw [hs3, hk_u2o (by omega)]; exact hJ.2.1
      · rw [hs3, hk_u2o (by omega)]; exact hJ.2.2
  have l33 : ∀ (g i : Nat) (s3 : Nat → Nat → Int32), i + g = 2448 → (∀ z, z < i → s3 42 z = s 41 z) → (∀ p z, p ≠ 42 → s3 p z = s p z) → hk_Rn (d + 3) none hk_c216 (hk_sfx 33 hk_c216) [some (.ref 40), some (.int v), some (.int (nI m)), some (.int x), some (.int (nI i)), none, none, none, none, none] [] (s3, lm, hk_RH i0 i1 b, al) k := by
    intro g
    induction g with
    | zero =>
      intro i s3 hi hz h3
      have e : i = 2448 := by omega
      subst e
      refine hk_hd (n := 1000) (t := 33) rfl ?_
      refine And.intro (fun _ => ?_) (fun hc => absurd (show (2448 : Int32) ≤ nI 2448 by decide) hc)
      refine hk_ldi (i := nI 7) (j := 7) (by simp only [hk_lit, pk_mul, nI_add]) (by omega) (by decide) ((h3 41 7 (by omega)).trans hq) ?_
      exact loop m q (-1) s3 none none (by omega) (Or.inl ⟨rfl, rfl⟩) ⟨hz, by rw [h3 _ _ (by omega)]; exact h0, by rw [h3 _ _ (by omega)]; exact hp1⟩
    | succ g ih =>
      intro i s3 hi hz h3
      have b1 : ¬ nI 2448 ≤ nI i := hk_nlt (by omega) (by omega)
      refine hk_hd (n := 1000) (t := 33) rfl ?_
      refine And.intro (fun hc => absurd hc b1) (fun _ => ?_)
      refine hk_ldi (i := nI i) (j := i) (by simp only [hk_lit, pk_mul, nI_add]) (by omega) (by decide) (h3 41 i (by omega)) ?_
      refine hk_stn (i := nI i) (j := i) (by simp only [hk_lit, pk_mul, nI_add]) (by omega) (by decide) (fun s4 (hs4 : s4 = hk_u2 s3 42 (i) (s 41 i)) => ?_)
      refine hk_Rn_cast (by rw [← nI_1]; rfl) (ih (i + 1) s4 (by omega) (fun z hz2 => ?_) (fun p z hp => ?_))
      · rw [hs4]
        by_cases e : z = i
        · subst e; rw [hk_u2s]
        · rw [hk_u2o (by omega)]; exact hz z (by omega)
      · rw [hs4, hk_u2o (by omega)]; exact h3 p z hp
  exact l33 2448 0 s (by omega) (fun z hz => by omega) (fun _ _ _ => rfl)
theorem p_worst : hk_P2 119 216 [.int v, .int w, .int x] :=
  c_worst0 (d := 996) rfl (fun hb => ⟨_, rfl, m_worst0 (d := 996) rfl rfl (q := 0) rfl (by omega) (fun _ => ⟨rfl, hk_rmo0⟩) (fun hg => absurd hg hb)⟩) (fun hg s2 h2 => ⟨_, rfl, m_worst0 (d := 996) (by rw [h2 _ _ (by omega) (by omega) (by omega)]; rfl) (by rw [h2 _ _ (by omega) (by omega) (by omega)]; rfl) (q := 0) (by rw [h2 _ _ (by omega) (by omega) (by omega)]; rfl) (by omega) (fun hb => absurd ⟨hg.1, ⟨hg.2.1.1, by rw [h2 _ _ (by omega) (by omega) (by omega)]; exact hg.2.1.2⟩, hg.2.2⟩ hb) (fun _ _ => ⟨by rw [h2 _ _ (by omega) (by omega) (by omega)]; rfl, hk_rmo0⟩)⟩)
end HKW1
