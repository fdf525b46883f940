/-! ===== lay agrees ===== -/
def hk_lyS (f : Nat → Int32) (v : Int32) : Nat → Int32
  | 0 => 0
  | p + 1 => if f (80 + 6 * p) = v then hk_lyS f v p + f (80 + 6 * p + 3) else hk_lyS f v p
/-- the first j plates of v are first stuff -/
def hk_ly (f : Nat → Int32) (v : Int32) (j : Nat) : Nat → Int32 := fun q => if 80 ≤ q ∧ q < 80 + 6 * j ∧ q % 6 = 1 ∧ f (q - 5) = v then 1 else f q
def hk_lyF (f : Nat → Int32) (i bb : Nat) : Nat → Int32 := hk_ly (hk_ud f (20 + 10 * i + 7) (hk_lyS f (nI i) bb)) (nI i) bb
theorem hk_ly_o {f : Nat → Int32} {v : Int32} {j q : Nat} (h : ¬ (80 ≤ q ∧ q % 6 = 1)) : hk_ly f v j q = f q := if_neg (fun e => h ⟨e.1, e.2.2.1⟩)
theorem hk_ly_n {f : Nat → Int32} {v : Int32} {j : Nat} (h : ¬ f (80 + 6 * j) = v) : hk_ly f v (j + 1) = hk_ly f v j := by
  funext q
  unfold hk_ly
  by_cases c : 80 ≤ q ∧ q < 80 + 6 * j ∧ q % 6 = 1 ∧ f (q - 5) = v
  · rw [if_pos c, if_pos ⟨c.1, by omega, c.2.2⟩]
  · rw [if_neg c, if_neg (fun e => ?_)]
    by_cases c2 : q < 80 + 6 * j
    · exact c ⟨e.1, c2, e.2.2⟩
    · have : q - 5 = 80 + 6 * j := by omega
      rw [this] at e
      exact h e.2.2.2
theorem hk_ly_y {f : Nat → Int32} {v : Int32} {j : Nat} (h : f (80 + 6 * j) = v) : hk_ly f v (j + 1) = hk_ud (hk_ly f v j) (80 + 6 * j + 5) 1 := by
  funext q
  by_cases c0 : q = 80 + 6 * j + 5
  · subst c0
    rw [hk_ud_s]
    unfold hk_ly
    rw [if_pos ⟨by omega, by omega, by omega, by rw [show 80 + 6 * j + 5 - 5 = 80 + 6 * j by omega]; exact h⟩]
  · rw [hk_ud_o c0]
    unfold hk_ly
    by_cases c : 80 ≤ q ∧ q < 80 + 6 * j ∧ q % 6 = 1 ∧ f (q - 5) = v
    · rw [if_pos c, if_pos ⟨c.1, by omega, c.2.2⟩]
    · rw [if_neg c, if_neg (fun e => c ⟨e.1, by omega, e.2.2⟩)]
theorem hk_ly_0 {f : Nat → Int32} {v : Int32} : hk_ly f v 0 = f := by
  funext q
  unfold hk_ly
  rw [if_neg (by omega)]
theorem hk_lyF_e {f : Nat → Int32} {i bb : Nat} (hi : i < 6) : hk_lyF f i bb = hk_ud (hk_ly f (nI i) bb) (20 + 10 * i + 7) (hk_lyS f (nI i) bb) := by
  funext q
  unfold hk_lyF
  by_cases c0 : q = 20 + 10 * i + 7
  · subst c0
    rw [hk_ud_s, hk_ly_o (by omega), hk_ud_s]
  · rw [hk_ud_o c0]
    unfold hk_ly
    rw [hk_ud_o c0]
    by_cases c : 80 ≤ q ∧ q % 6 = 1
    · rw [hk_ud_o (by omega)]
    · rw [if_neg (fun e => c ⟨e.1, e.2.2.1⟩), if_neg (fun e => c ⟨e.1, e.2.2.1⟩)]
theorem hk_lyS_le {f : Nat → Int32} {v : Int32} {n : Nat} (hn : n ≤ 96) (h : ∀ p, p < n → ∃ m, m ≤ 1000 ∧ f (80 + 6 * p + 3) = nI m) : ∀ j, j ≤ n → ∃ m, m ≤ 1000 * j ∧ hk_lyS f v j = nI m
  | 0, _ => ⟨0, by omega, rfl⟩
  | j + 1, hj => by
    obtain ⟨m, hm, em⟩ := hk_lyS_le (v := v) hn h j (by omega)
    rw [hk_lyS]
    by_cases c : f (80 + 6 * j) = v
    · obtain ⟨m2, hm2, em2⟩ := h j (by omega)
      rw [if_pos c, em, em2]
      exact ⟨m + m2, by omega, nI_add m m2⟩
    · rw [if_neg c, em]
      exact ⟨m, by omega, rfl⟩
theorem hk_RI_ly {f : Nat → Int32} {a b r i : Nat} (h : hk_RI f a b r) (hi : i < a) : hk_RI (hk_lyF f i b) a b r := by
  have ha := h.1.1
  have hb := h.1.2.1
  obtain ⟨p1, p2, p3⟩ := hk_RI_P h
  have o : ∀ q, q ≠ 20 + 10 * i + 7 → ¬ (80 ≤ q ∧ q % 6 = 1) → hk_lyF f i b q = f q := fun q h1 h2 => by
    unfold hk_lyF
    rw [hk_ly_o h2, hk_ud_o h1]
  obtain ⟨n7, hn7, e7⟩ := h.2.2.2.2.2.2.1
  refine hk_RI_x h (fun q h1 h2 h3 h4 => ?_) ⟨n7, hn7, by rw [o 7 (by omega) (by omega)]; exact e7⟩ ?_
  · by_cases c : q < 656
    · exact o q (by omega) (by omega)
    · unfold hk_lyF hk_ly
      rw [if_neg (by omega), hk_ud_o (by omega)]
  · refine ⟨fun z hz => ?_, fun n hn en j hj => ?_, fun n hn en p hp => ?_⟩
    · rw [o _ (by omega) (by omega)]
      exact p1 z hz
    · rw [o 0 (by omega) (by omega)] at en
      obtain ⟨a1, a2, a3⟩ := p2 n hn en j hj
      refine ⟨?_, ?_, ?_⟩
      · clear a2 a3
        rw [o _ (by omega) (by omega)]
        exact a1
      · clear a1 a3
        rw [o _ (by omega) (by omega)]
        exact a2
      · by_cases c : j = i
        · subst c
          rw [hk_lyF_e (by omega), hk_ud_s]
          obtain ⟨m, hm, em⟩ := hk_lyS_le (v := nI j) hb (fun p hp => (p3 b hb h.2.1.2.1 p hp).2) b (Nat.le_refl _)
          exact ⟨m, by omega, em⟩
        · clear a1 a2
          rw [o _ (by omega) (by omega)]
          exact a3
    · rw [o 1 (by omega) (by omega)] at en
      rw [o _ (by omega) (by omega), o _ (by omega) (by omega)]
      exact p3 n hn en p hp
section HKEN
variable {d n a bb r : Nat} {v w x y z : Int32} {s : Nat → Nat → Int32} {lm : Nat → Nat → Int64} {i0 i1 b : Nat} {al : List Nat} {k : Option Value → hk_H → Prop} {f : Nat → Int32}
theorem c_layShipX (hw2 : hk_tw s 2 a) (hw : hk_tw s 4 bb) (hR : hk_Rel s 1 f) {i : Nat} (hi : i < a) (h1 : ∀ s2, (∀ p q, p ≠ 3 → p ≠ 5 → s2 p q = s p q) → hk_Rel s2 1 (hk_lyF f i bb) → k (some (.int (hk_poS f (nI i) bb))) (s2, lm, hk_RH i0 i1 b, al)) : hk_Cl (d + 2) 18 [.ref 1, .int (nI i)] (s, lm, hk_RH i0 i1 b, al) k := by
  have hm : bb ≤ 96 := hw.2.2.2
  have ha : a ≤ 6 := hw2.2.2.2
  have loop : ∀ (q j : Nat) (s3 : Nat → Nat → Int32), j + q = bb → (∀ p q, p ≠ 5 → s3 p q = s p q) → hk_Rel s3 1 (hk_ly f (nI i) j) → hk_Rn (d + 1) none hk_c18 (hk_sfx 7 hk_c18) [some (.ref 1), some (.int (nI i)), some (.int (hk_poS f (nI i) j)), some (.int (hk_lyS f (nI i) j)), some (.int (nI j))] [] (s3, lm, hk_RH i0 i1 b, al) k := by
    intro q
    induction q with
    | zero =>
      intro j s3 hj h3 hR3
      have e : j = bb := by omega
      subst e
      refine hk_hd (n := 1000) (t := 7) rfl ?_
      refine And.intro (fun _ => ?_) (fun hc => absurd (show s3 4 3 ≤ nI j by rw [h3 _ _ (by omega), hw.2.2.1]; exact Int32.le_refl _) hc)
      refine c_put_in (n := a) (by simp [hk_tb]) (hk_tw_f hw2 (fun q => h3 2 q (by omega))) (i := i) (by show i < 6; omega) (j := 7) (by decide) ?_
      refine h1 _ (fun p q c1 c2 => by rw [hk_u2o (by omega)]; exact h3 p q c2) ?_
      rw [hk_lyF_e (by omega)]
      exact hk_Rel_d (a := 2) hR3 (hk_lp16 (by omega) (by omega))
    | succ q ih =>
      intro j s3 hj h3 hR3
      have hw3 : hk_tw s3 4 bb := hk_tw_f hw (fun q => h3 4 q (by omega))
      refine hk_hd (n := 1000) (t := 7) rfl ?_
      refine And.intro (fun hc => absurd hc (show ¬ s3 4 3 ≤ nI j by rw [h3 _ _ (by omega), hw.2.2.1]; exact hk_nlt (by omega) (by omega))) (fun _ => ?_)
      refine c_gP (c := 0) hw3 hR3 (by omega) (by omega) ?_
      have e0 : hk_ly f (nI i) j (80 + 6 * j + 0) = f (80 + 6 * j) := hk_ly_o (by omega)
      rw [e0]
      refine And.intro (fun c1 => ?_) (fun c1 => ?_)
      · have c1 : ¬ f (80 + 6 * j) = nI i := c1
        refine hk_Rn_cast ?_ (ih (j + 1) s3 (by omega) h3 (by rw [hk_ly_n c1]; exact hR3))
        rw [hk_poS, if_neg c1, hk_lyS, if_neg c1, ← nI_1]
        rfl
      have c1 : ¬ ¬ f (80 + 6 * j) = nI i := c1
      have c1 := Classical.not_not.mp c1
      refine c_put_in (n := bb) (by simp [hk_tb]) hw3 (i := j) (by show j < 96; omega) (j := 5) (by decide) ?_
      have R1 : hk_Rel (hk_u2 s3 5 (j * 6 + 5) 1) 1 (hk_ly f (nI i) (j + 1)) := by
        rw [hk_ly_y c1]
        exact hk_Rel_d (a := 4) hR3 (hk_lp17 (by omega) (by omega))
      have h4 : ∀ p q, p ≠ 5 → hk_u2 s3 5 (j * 6 + 5) 1 p q = s p q := fun p q c => by
        rw [hk_u2o (by omega)]
        exact h3 p q c
      refine c_gP (c := 3) (hk_tw_f hw (fun q => h4 4 q (by omega))) R1 (by omega) (by omega) ?_
      rw [show hk_ly f (nI i) (j + 1) (80 + 6 * j + 3) = f (80 + 6 * j + 3) from hk_ly_o (by omega)]
      refine hk_Rn_cast ?_ (ih (j + 1) (hk_u2 s3 5 (j * 6 + 5) 1) (by omega) h4 R1)
      rw [hk_poS, if_pos c1, hk_lyS, if_pos c1, ← nI_1]
      rfl
  refine hk_mth hk_m18 rfl rfl (n := 1000) ?_
  exact loop bb 0 s (by omega) (fun _ _ _ => rfl) (by rw [hk_ly_0]; exact hR)
theorem c_layX (hw : hk_TW s) (hR : hk_Rel s 1 f) (h : hk_RI f a bb r) (hb : (∀ i, v = nI i → ¬ i < a) → k (some (.int (-2))) (s, lm, hk_RH i0 i1 b, al)) (hn : ∀ i, v = nI i → i < a → (0 < f (20 + 10 * i + 7) ∨ hk_poS f v bb = 0) → k (some (.int (-3))) (s, lm, hk_RH i0 i1 b, al)) (hg : ∀ i s2, v = nI i → i < a → ¬ (0 < f (20 + 10 * i + 7) ∨ hk_poS f v bb = 0) → (∀ p q, p ≠ 3 → p ≠ 5 → s2 p q = s p q) → hk_Rel s2 1 (hk_lyF f i bb) → k (some (.int (hk_poS f v bb))) (s2, lm, hk_RH i0 i1 b, al)) : hk_Cl (d + 3) 15 [.ref 0, .int v] (s, lm, hk_RH i0 i1 b, al) k := by
  have hS := hk_tw2 hw hR h
  have hP := hk_tw4 hw hR h
  have hbb := h.1.2.1
  have ha := h.1.1
  refine hk_mth hk_m15 rfl rfl (n := 1000) ?_
  refine c_hasn (by simp [hk_tb]) hS (fun i e hi => ?_) (fun a => ?_)
  rotate_left
  · refine And.intro (fun hc => absurd hc (by decide)) (fun _ => ?_)
    exact hb a
  refine And.intro (fun _ => ?_) (fun hc => absurd (by decide) hc)
  have hn2 := hn i e hi
  have hg2 := fun s2 => hg i s2 e hi
  subst e
  refine c_gS (c := 7) hS hR hi (by omega) ?_
  refine And.intro (fun c1 => ?_) (fun c1 => ?_)
  · have c1 : 0 < f (20 + 10 * i + 7) := c1
    exact hn2 (Or.inl c1)
  have c1 : ¬ 0 < f (20 + 10 * i + 7) := c1
  refine c_platesOfX hP hR ?_
  refine And.intro (fun c2 => ?_) (fun c2 => ?_)
  · have c2 : ¬ hk_poS f (nI i) bb = 0 := c2
    refine c_layShipX hS hP hR hi (fun s2 h2 hR2 => ?_)
    exact hg2 s2 (fun q => q.elim c1 c2) h2 hR2
  · have c2 : ¬ ¬ hk_poS f (nI i) bb = 0 := c2
    exact hn2 (Or.inr (Classical.not_not.mp c2))
theorem m_layX (h : hk_RI (s 41) a bb r) (hb : (∀ i, v = nI i → ¬ i < a) → k (some (.int (-2))) (s, lm, hk_RH i0 i1 b, al)) (hn : ∀ i, v = nI i → i < a → (0 < s 41 (20 + 10 * i + 7) ∨ hk_poS (s 41) v bb = 0) → k (some (.int (-3))) (s, lm, hk_RH i0 i1 b, al)) (hg : ∀ i s2, v = nI i → i < a → ¬ (0 < s 41 (20 + 10 * i + 7) ∨ hk_poS (s 41) v bb = 0) → (∀ p q, p ≠ 41 → s2 p q = s p q) → s2 41 = hk_lyF (s 41) i bb → k (some (.int (hk_poS (s 41) v bb))) (s2, lm, hk_RH i0 i1 b, al)) : hk_Cl (d + 3) 140 [.ref 40, .int v] (s, lm, hk_RH i0 i1 b, al) k := by
  have ha := h.1.1
  have hbb := h.1.2.1
  refine hk_mth hk_m140 rfl rfl (n := 1000) ?_
  refine m_is (c := 0) (by omega) h.2.1.1 (by omega) (fun i e hi => ?_) (fun a0 => ?_)
  rotate_left
  · refine And.intro (fun hc => absurd hc (by decide)) (fun _ => ?_)
    refine hb (fun i q1 hi => ?_)
    rw [q1, nI_leI (by omega) (by omega)] at a0
    exact a0.elim (nI_pos (by omega)) (fun q => by omega)
  refine And.intro (fun _ => ?_) (fun hc => absurd (by decide) hc)
  have hn2 := hn i e hi
  have hg2 := fun s2 => hg i s2 e hi
  subst e
  have l96 : ∀ (q j : Nat) (s3 : Nat → Nat → Int32), j + q = bb → (∀ p q, p ≠ 41 → s3 p q = s p q) → s3 41 = hk_ly (hk_ud (s 41) (20 + 10 * i + 7) (hk_lyS (s 41) (nI i) bb)) (nI i) j → ¬ (0 < s 41 (20 + 10 * i + 7) ∨ hk_poS (s 41) (nI i) bb = 0) → hk_Rn (d + 2) none hk_c140 (hk_sfx 96 hk_c140) [some (.ref 40), some (.int (nI i)), some (.int (hk_poS (s 41) (nI i) bb)), some (.int (hk_lyS (s 41) (nI i) bb)), some (.int (nI j))] [] (s3, lm, hk_RH i0 i1 b, al) k := by
    intro q
    induction q with
    | zero =>
      intro j s3 hj h3 e3 hc
      have e1 : j = bb := by omega
      subst e1
      have eb : s3 41 1 = nI j := by
        rw [e3, hk_ly_o (by omega), hk_ud_o (by omega)]
        exact h.2.1.2.1
      refine hk_hd (n := 1000) (t := 96) rfl ?_
      refine hk_ldi (i := nI 1) (j := 1) (by simp only [hk_lit, pk_mul, nI_add]) (by omega) (by decide) eb ?_
      refine And.intro (fun _ => ?_) (fun hc => absurd (Int32.le_refl _) hc)
      exact hg2 s3 hc h3 e3
    | succ q ih =>
      intro j s3 hj h3 e3 hc
      have a1 : ¬ nI bb ≤ nI j := hk_nlt (by omega) (by omega)
      have eb : s3 41 1 = nI bb := by
        rw [e3, hk_ly_o (by omega), hk_ud_o (by omega)]
        exact h.2.1.2.1
      have es : s3 41 (80 + 6 * j + 0) = s 41 (80 + 6 * j) := by
        rw [e3, hk_ly_o (by omega), hk_ud_o (by omega)]
        rfl
      have ef : s3 41 (80 + 6 * j + 5) = s 41 (80 + 6 * j + 5) := by
        rw [e3]
        unfold hk_ly
        rw [if_neg (by omega), hk_ud_o (by omega)]
      have e0 : hk_ud (s 41) (20 + 10 * i + 7) (hk_lyS (s 41) (nI i) bb) (80 + 6 * j) = s 41 (80 + 6 * j) := hk_ud_o (by omega)
      have nx : ∀ (s4 : Nat → Nat → Int32) (u : Int32), s4 = hk_u2 s3 41 (80 + 6 * j + 5) u → (s 41 (80 + 6 * j) = nI i → u = 1) → (¬ s 41 (80 + 6 * j) = nI i → u = s3 41 (80 + 6 * j + 5)) → hk_Rn (d + 2) none hk_c140 (hk_sfx 96 hk_c140) [some (.ref 40), some (.int (nI i)), some (.int (hk_poS (s 41) (nI i) bb)), some (.int (hk_lyS (s 41) (nI i) bb)), some (.int (nI j + 1))] [] (s4, lm, hk_RH i0 i1 b, al) k := fun s4 u e4 u1 u0 => hk_Rn_cast (by rw [nI_1]) (ih (j + 1) s4 (by omega) (fun p q hp => by rw [e4, hk_u2o (by omega)]; exact h3 p q hp) (by
        have e5 : s4 41 = hk_ud (s3 41) (80 + 6 * j + 5) u := by rw [e4]; exact hk_u2f
        rw [e5]
        by_cases c : s 41 (80 + 6 * j) = nI i
        · rw [hk_ly_y (e0.trans c), ← e3, u1 c]
        · rw [hk_ly_n (fun q => c (e0.symm.trans q)), ← e3, u0 c]
          funext q
          by_cases cq : q = 80 + 6 * j + 5
          · rw [cq, hk_ud_s]
          · rw [hk_ud_o cq]) hc)
      refine hk_hd (n := 1000) (t := 96) rfl ?_
      refine hk_ldi (i := nI 1) (j := 1) (by simp only [hk_lit, pk_mul, nI_add]) (by omega) (by decide) eb ?_
      refine And.intro (fun hc => absurd hc a1) (fun _ => ?_)
      refine m_plateOf (c := 0) (by omega) ?_
      refine And.intro (fun c1 => ?_) (fun c1 => ?_)
      · have c1 : ¬ s3 41 (80 + 6 * j + 0) = nI i := c1
        rw [es] at c1
        refine m_plateOf (c := 5) (by omega) ?_
        refine hk_stn (i := 80 + 6 * nI j + 5) (j := 80 + 6 * j + 5) (by simp only [hk_lit, pk_mul, nI_add]) (by omega) (by decide) (fun s4 (hs4 : s4 = hk_u2 s3 41 (80 + 6 * j + 5) (s3 41 (80 + 6 * j + 5))) => ?_)
        exact nx s4 _ hs4 (fun q => absurd q c1) (fun _ => rfl)
      · have c1 : ¬ ¬ s3 41 (80 + 6 * j + 0) = nI i := c1
        rw [es] at c1
        refine hk_stn (i := 80 + 6 * nI j + 5) (j := 80 + 6 * j + 5) (by simp only [hk_lit, pk_mul, nI_add]) (by omega) (by decide) (fun s4 (hs4 : s4 = hk_u2 s3 41 (80 + 6 * j + 5) 1) => ?_)
        exact nx s4 _ hs4 (fun _ => rfl) (fun q => absurd q c1)
  have l19 : ∀ (q j : Nat), j + q = bb → hk_Rn (d + 2) none hk_c140 (hk_sfx 19 hk_c140) [some (.ref 40), some (.int (nI i)), some (.int (hk_poS (s 41) (nI i) j)), some (.int (hk_lyS (s 41) (nI i) j)), some (.int (nI j))] [] (s, lm, hk_RH i0 i1 b, al) k := by
    intro q
    induction q with
    | zero =>
      intro j hj
      have e1 : j = bb := by omega
      subst e1
      refine hk_hd (n := 1000) (t := 19) rfl ?_
      refine hk_ldi (i := nI 1) (j := 1) (by simp only [hk_lit, pk_mul, nI_add]) (by omega) (by decide) h.2.1.2.1 ?_
      refine And.intro (fun _ => ?_) (fun hc => absurd (Int32.le_refl _) hc)
      refine m_shipOf (c := 7) (by omega) ?_
      refine And.intro (fun c1 => ?_) (fun c1 => ?_)
      · have c1 : 0 < s 41 (20 + 10 * i + 7) := c1
        exact hn2 (Or.inl c1)
      have c1 : ¬ 0 < s 41 (20 + 10 * i + 7) := c1
      refine And.intro (fun c2 => ?_) (fun c2 => ?_)
      rotate_left
      · have c2 : ¬ ¬ hk_poS (s 41) (nI i) j = 0 := c2
        exact hn2 (Or.inr (Classical.not_not.mp c2))
      have c2 : ¬ hk_poS (s 41) (nI i) j = 0 := c2
      refine hk_stn (i := 20 + 10 * nI i + 7) (j := 20 + 10 * i + 7) (by simp only [hk_lit, pk_mul, nI_add]) (by omega) (by decide) (fun s4 (hs4 : s4 = hk_u2 s 41 (20 + 10 * i + 7) (hk_lyS (s 41) (nI i) j)) => ?_)
      exact l96 j 0 s4 (by omega) (fun p q hp => by rw [hs4, hk_u2o (by omega)]) (by rw [hk_ly_0, hs4]; exact hk_u2f) (fun q => q.elim c1 c2)
    | succ q ih =>
      intro j hj
      have a1 : ¬ nI bb ≤ nI j := hk_nlt (by omega) (by omega)
      refine hk_hd (n := 1000) (t := 19) rfl ?_
      refine hk_ldi (i := nI 1) (j := 1) (by simp only [hk_lit, pk_mul, nI_add]) (by omega) (by decide) h.2.1.2.1 ?_
      refine And.intro (fun hc => absurd hc a1) (fun _ => ?_)
      refine m_plateOf (c := 0) (by omega) ?_
      refine And.intro (fun c1 => ?_) (fun c1 => ?_)
      · have c1 : ¬ s 41 (80 + 6 * j) = nI i := c1
        refine hk_Rn_cast ?_ (ih (j + 1) (by omega))
        rw [hk_poS, if_neg c1, hk_lyS, if_neg c1, ← nI_1 j]
        rfl
      have c1 : ¬ ¬ s 41 (80 + 6 * j) = nI i := c1
      have c1 := Classical.not_not.mp c1
      refine m_plateOf (c := 3) (by omega) ?_
      refine hk_Rn_cast ?_ (ih (j + 1) (by omega))
      rw [hk_poS, if_pos c1, hk_lyS, if_pos c1, ← nI_1 j]
      rfl
  exact l19 bb 0 (by omega)
theorem q_layE : hk_SI 15 140 [.int v] True := by
  rintro h ⟨s, lm, i0, i1, b, al, rfl, hc, hi⟩
  obtain ⟨a, bb, r, hr⟩ := hi.2.2.1
  have hb4 := hr.1.2.1
  have ha4 := hr.1.1
  refine c_layX (d := 997) hi.1 hi.2.1 hr (fun hb => ⟨_, rfl, m_layX (d := 997) hr (fun _ => ⟨_, rfl, fun _ => rfl, hk_Inv_mk hc hi⟩) (fun i q1 q2 _ => absurd q2 (hb i q1)) (fun i s2 q1 q2 _ _ _ => absurd q2 (hb i q1))⟩) (fun i q1 q2 hm => ⟨_, rfl, ?_⟩) (fun i s2 q1 q2 hm f2 hR2 => ⟨_, rfl, ?_⟩)
  · refine m_layX (d := 997) (a := a) (bb := bb) (r := r) hr (fun hb => absurd q2 (hb i q1)) (fun j r1 r2 _ => ⟨_, rfl, fun _ => rfl, hk_Inv_mk hc hi⟩) (fun j s2 r1 r2 hm2 _ _ => ?_)
    have e1 := hk_same q1 r1 (by omega) (by omega)
    subst e1
    exact absurd hm hm2
  · have e41 : s2 41 = s 41 := funext fun q => f2 41 q (by omega) (by omega)
    refine m_layX (d := 997) (a := a) (bb := bb) (r := r) (by rw [e41]; exact hr) (fun hb => absurd q2 (hb i q1)) (fun j r1 r2 hm2 => ?_) (fun j s3 r1 r2 hm2 f3 e3 => ⟨_, rfl, fun _ => by rw [e41], hk_Inv_mk hc ?_⟩)
    · have e1 := hk_same q1 r1 (by omega) (by omega)
      subst e1
      rw [e41] at hm2
      exact absurd hm2 hm
    · have e1 := hk_same q1 r1 (by omega) (by omega)
      subst e1
      rw [e41] at e3
      exact hk_IS_fin hi (hk_TW_fr hi.1 (fun t q ht => f2 t q (by have := hk_tb35 ht; omega) (by have := hk_tb35 ht; omega))) hR2 (fun p q h1 h2 => f2 p q (by omega) (by omega)) (fun p q hp => f3 p q (by omega)) (fun q _ => by rw [e3]) ⟨_, _, _, hk_RI_ly hr q2⟩
end HKEN
