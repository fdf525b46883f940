/-! ===== the class ends on any contents: months, lay, storms ===== -/
/-- only plates' cells and a ship's water, end, laid mass change -/
def hk_F35 (s s2 : Nat → Nat → Int32) : Prop := (∀ p q, p ≠ 3 → p ≠ 5 → s2 p q = s p q) ∧ (∀ i c, i < 6 → c < 9 → c ≠ 5 → c ≠ 6 → c ≠ 7 → s2 3 (i * 9 + c) = s 3 (i * 9 + c))
theorem hk_F35_r (s : Nat → Nat → Int32) : hk_F35 s s := ⟨fun _ _ _ _ => rfl, fun _ _ _ _ _ _ _ => rfl⟩
theorem hk_F35_5 {s s2 s3 : Nat → Nat → Int32} (a : hk_F35 s s2) (c : ∀ p q, p ≠ 5 → s3 p q = s2 p q) : hk_F35 s s3 := ⟨fun p q h1 h2 => (c p q h2).trans (a.1 p q h1 h2), fun i j h1 h2 h3 h4 h5 => (c _ _ (by omega)).trans (a.2 i j h1 h2 h3 h4 h5)⟩
theorem hk_F35_3 {s s2 : Nat → Nat → Int32} {j c : Nat} {v : Int32} (a : hk_F35 s s2) (hc : c = 5 ∨ c = 6 ∨ c = 7) : hk_F35 s (hk_u2 s2 3 (j * 9 + c) v) := ⟨fun p q h1 h2 => by rw [hk_u2o (by omega)]; exact a.1 p q h1 h2, fun i j h1 h2 h3 h4 h5 => by rw [hk_u2o (by omega)]; exact a.2 i j h1 h2 h3 h4 h5⟩
theorem hk_tb35 {t : Nat} (h : hk_tb t) : t ≠ 3 ∧ t ≠ 5 ∧ t < 20 := by
  rcases h with rfl | rfl | rfl | rfl | rfl | rfl | rfl | rfl | rfl <;> decide
theorem hk_F35_TW {s s2 : Nat → Nat → Int32} (a : hk_F35 s s2) (h : hk_TW s) : hk_TW s2 := hk_TW_fr h (fun t q ht => a.1 t q (hk_tb35 ht).1 (hk_tb35 ht).2.1)
theorem hk_F35_tw {s s2 : Nat → Nat → Int32} {t n : Nat} (a : hk_F35 s s2) (ht : hk_tb t) (h : hk_tw s t n) : hk_tw s2 t n := by
  obtain ⟨h1, h2, _⟩ := hk_tb35 ht
  obtain ⟨a1, a2, a3, a4⟩ := h
  exact ⟨by rw [a.1 _ _ h1 h2]; exact a1, by rw [a.1 _ _ h1 h2]; exact a2, by rw [a.1 _ _ h1 h2]; exact a3, a4⟩
section HKA4
variable {d n : Nat} {v w x z : Int32} {s : Nat → Nat → Int32} {lm : Nat → Nat → Int64} {i0 i1 b : Nat} {al : List Nat} {k : Option Value → hk_H → Prop}
theorem c_wearPlates (hw : hk_TW s) (h1 : ∀ s2, (∀ p q, p ≠ 5 → s2 p q = s p q) → k none (s2, lm, hk_RH i0 i1 b, al)) : hk_Cl (d + 4) 35 [.ref 1, .int v] (s, lm, hk_RH i0 i1 b, al) k := by
  obtain ⟨n, hn, hn2, hr⟩ := hk_rows hw (t := 4) (by simp [hk_tb])
  have loop : ∀ (q j : Nat) (s3 : Nat → Nat → Int32), j + q = n → (∀ p q, p ≠ 5 → s3 p q = s p q) → hk_Rn (d + 3) none hk_c35 (hk_sfx 2 hk_c35) [some (.ref 1), some (.int v), some (.int (nI j))] [] (s3, lm, hk_RH i0 i1 b, al) k := by
    intro q
    induction q with
    | zero =>
      intro j s3 hj h3
      have a1 : s3 4 3 ≤ nI j := by rw [h3 _ _ (by omega)]; exact (hr j (by omega)).mpr (by omega)
      refine hk_hd (n := 1000) (t := 2) rfl ?_
      refine And.intro (fun _ => ?_) (fun hc => absurd a1 hc)
      exact h1 s3 h3
    | succ q ih =>
      intro j s3 hj h3
      have a1 : ¬ s3 4 3 ≤ nI j := by rw [h3 _ _ (by omega)]; exact fun q => absurd ((hr j (by omega)).mp q) (by omega)
      have hw3 : hk_TW s3 := hk_TW_fr hw (fun t q ht => h3 t q (hk_tb35 ht).2.1)
      refine hk_hd (n := 1000) (t := 2) rfl ?_
      refine And.intro (fun hc => absurd hc a1) (fun _ => ?_)
      refine c_g4 hw3 (fun x => ?_)
      refine And.intro (fun c1 => ?_) (fun c1 => ?_)
      · exact hk_Rn_cast (by rw [← nI_1]; rfl) (ih (j + 1) s3 (by omega) h3)
      refine c_thickAfter hw3 (fun x => ?_)
      obtain ⟨m, hm⟩ := hw3.1 4 (by simp [hk_tb])
      refine c_put_any (by simp [hk_tb]) hm (fun s4 h4 => ?_)
      exact hk_Rn_cast (by rw [← nI_1]; rfl) (ih (j + 1) s4 (by omega) (fun p q hp => (h4 p q hp).trans (h3 p q hp)))
  refine hk_mth hk_m35 rfl rfl (n := 1000) ?_
  exact loop n 0 s (by omega) (fun _ _ _ => rfl)
theorem c_layShip (hw : hk_tw s 2 n) (hw2 : hk_TW s) {i : Nat} (hi : i < n) (h1 : ∀ s2 x, hk_F35 s s2 → k (some (.int x)) (s2, lm, hk_RH i0 i1 b, al)) : hk_Cl (d + 2) 18 [.ref 1, .int (nI i)] (s, lm, hk_RH i0 i1 b, al) k := by
  obtain ⟨m, hm, hm2, hr⟩ := hk_rows hw2 (t := 4) (by simp [hk_tb])
  have loop : ∀ (q j : Nat) (s3 : Nat → Nat → Int32) (a e : Int32), j + q = m → (∀ p q, p ≠ 5 → s3 p q = s p q) → hk_Rn (d + 1) none hk_c18 (hk_sfx 7 hk_c18) [some (.ref 1), some (.int (nI i)), some (.int a), some (.int e), some (.int (nI j))] [] (s3, lm, hk_RH i0 i1 b, al) k := by
    intro q
    induction q with
    | zero =>
      intro j s3 a e hj h3
      have a1 : s3 4 3 ≤ nI j := by rw [h3 _ _ (by omega)]; exact (hr j (by omega)).mpr (by omega)
      have hf : hk_F35 s s3 := hk_F35_5 (hk_F35_r s) h3
      refine hk_hd (n := 1000) (t := 7) rfl ?_
      refine And.intro (fun _ => ?_) (fun hc => absurd a1 hc)
      refine c_put_in (n := n) (by simp [hk_tb]) (hk_F35_tw hf (by simp [hk_tb]) hw) (i := i) (by have := hw.2.2.2; omega) (j := 7) (by decide) ?_
      exact h1 _ _ (hk_F35_3 (c := 7) hf (by omega))
    | succ q ih =>
      intro j s3 a e hj h3
      have a1 : ¬ s3 4 3 ≤ nI j := by rw [h3 _ _ (by omega)]; exact fun q => absurd ((hr j (by omega)).mp q) (by omega)
      have hw3 : hk_TW s3 := hk_TW_fr hw2 (fun t q ht => h3 t q (hk_tb35 ht).2.1)
      refine hk_hd (n := 1000) (t := 7) rfl ?_
      refine And.intro (fun hc => absurd hc a1) (fun _ => ?_)
      refine c_g4 hw3 (fun x => ?_)
      refine And.intro (fun c1 => ?_) (fun c1 => ?_)
      · exact hk_Rn_cast (by rw [← nI_1]; rfl) (ih (j + 1) s3 _ _ (by omega) h3)
      obtain ⟨m, hm⟩ := hw3.1 4 (by simp [hk_tb])
      refine c_put_any (by simp [hk_tb]) hm (fun s4 h4 => ?_)
      have hw4 : hk_TW s4 := hk_TW_fr hw3 (fun t q ht => h4 t q (hk_tb35 ht).2.1)
      refine c_g4 hw4 (fun x => ?_)
      exact hk_Rn_cast (by rw [← nI_1]; rfl) (ih (j + 1) s4 _ _ (by omega) (fun p q hp => (h4 p q hp).trans (h3 p q hp)))
  refine hk_mth hk_m18 rfl rfl (n := 1000) ?_
  exact loop m 0 s 0 0 (by omega) (fun _ _ _ => rfl)
theorem c_passMonth (hw : hk_tw s 2 n) (hw2 : hk_TW s) (h1 : ∀ s2 x, hk_F35 s s2 → k (some (.int x)) (hk_u2 s2 1 12 (s 1 12 + 1), lm, hk_RH i0 i1 b, al)) : hk_Cl (d + 6) 29 [.ref 1] (s, lm, hk_RH i0 i1 b, al) k := by
  have hn : n ≤ 6 := hw.2.2.2
  have loop : ∀ (q j : Nat) (s3 : Nat → Nat → Int32) (a e f : Int32) (l5 l6 : Option Value), j + q = n → hk_F35 s s3 → hk_Rn (d + 5) none hk_c29 (hk_sfx 41 hk_c29) [some (.ref 1), some (.int a), some (.int e), some (.int f), some (.int (nI j)), l5, l6] [] (s3, lm, hk_RH i0 i1 b, al) k := by
    intro q
    induction q with
    | zero =>
      intro j s3 a e f l5 l6 hj h3
      have a1 : s3 2 3 ≤ nI j := by rw [h3.1 _ _ (by omega) (by omega), hw.2.2.1]; exact nI_le (by omega) (by omega)
      have e1 : s3 1 12 = s 1 12 := h3.1 _ _ (by omega) (by omega)
      have fin := h1 s3 f h3
      rw [← e1] at fin
      refine hk_hd (n := 1000) (t := 41) rfl ?_
      refine And.intro (fun _ => ?_) (fun hc => absurd a1 hc)
      exact fin
    | succ q ih =>
      intro j s3 a e f l5 l6 hj h3
      have a1 : ¬ s3 2 3 ≤ nI j := by rw [h3.1 _ _ (by omega) (by omega), hw.2.2.1]; exact hk_nlt (by omega) (by omega)
      have hw3 := hk_F35_TW h3 hw2
      refine hk_hd (n := 1000) (t := 41) rfl ?_
      refine And.intro (fun hc => absurd hc a1) (fun _ => ?_)
      refine c_floats hw3 (fun x hx => ?_)
      refine And.intro (fun c1 => ?_) (fun c1 => ?_)
      · exact hk_Rn_cast (by rw [← nI_1]; rfl) (ih (j + 1) s3 _ _ _ _ _ (by omega) h3)
      refine c_g2 hw3 (fun x => ?_)
      refine c_leaksAfter hw3 (fun x => ?_)
      refine c_pumped hw3 (fun x => ?_)
      refine c_put_in (n := n) (by simp [hk_tb]) (hk_F35_tw h3 (by simp [hk_tb]) hw) (i := j) (by show j < 6; omega) (j := 5) (by decide) ?_
      have h4 := fun v => hk_F35_3 (v := v) (j := j) (c := 5) h3 (by omega)
      refine c_wearPlates (hk_F35_TW (h4 _) hw2) (fun s5 h5 => ?_)
      have h6 := hk_F35_5 (h4 _) h5
      have hw6 := hk_F35_TW h6 hw2
      refine c_sinksWith hw6 (fun x hx => ?_)
      refine And.intro (fun c2 => ?_) (fun c2 => ?_)
      · exact hk_Rn_cast (by rw [← nI_1]; rfl) (ih (j + 1) s5 _ _ _ _ _ (by omega) h6)
      refine c_put_in (n := n) (by simp [hk_tb]) (hk_F35_tw h6 (by simp [hk_tb]) hw) (i := j) (by show j < 6; omega) (j := 6) (by decide) ?_
      exact hk_Rn_cast (by rw [← nI_1]; rfl) (ih (j + 1) _ _ _ _ _ _ (by omega) (hk_F35_3 (c := 6) h6 (by omega)))
  refine hk_mth hk_m29 rfl rfl (n := 1000) ?_
  refine And.intro (fun c1 => ?_) (fun c1 => ?_)
  · exact loop n 0 s _ _ _ none none (by omega) (hk_F35_r s)
  refine And.intro (fun c2 => ?_) (fun c2 => ?_)
  · exact loop n 0 s _ _ _ none none (by omega) (hk_F35_r s)
  have c1 : ¬ s 1 12 < 0 := c1
  have c2 : ¬ nI 600 ≤ s 1 12 := c2
  obtain ⟨j, hj, e⟩ := nI_of c1
  have hj2 : j < 600 := by
    rw [e, nI_leI (by omega) hj] at c2
    omega
  refine hk_ldi (i := s 1 12) (j := j) e hj2 (by decide) rfl ?_
  exact loop n 0 s _ _ _ none none (by omega) (hk_F35_r s)
/-- months go: besides, the month -/
def hk_F35n (s s2 : Nat → Nat → Int32) : Prop := (∀ p q, p ≠ 3 → p ≠ 5 → ¬ (p = 1 ∧ q = 12) → s2 p q = s p q) ∧ (∀ i c, i < 6 → c < 9 → c ≠ 5 → c ≠ 6 → c ≠ 7 → s2 3 (i * 9 + c) = s 3 (i * 9 + c))
theorem c_passMonths {m : Nat} (hw : hk_tw s 2 n) (hw2 : hk_TW s) (hm : m ≤ 60) (h1 : ∀ s2 x, hk_F35n s s2 → s2 1 12 = s 1 12 + nI m → k (some (.int x)) (s2, lm, hk_RH i0 i1 b, al)) : hk_Cl (d + 7) 28 [.ref 1, .int (nI m)] (s, lm, hk_RH i0 i1 b, al) k := by
  have loop : ∀ (q j : Nat) (s3 : Nat → Nat → Int32) (a : Int32), j + q = m → hk_F35n s s3 → s3 1 12 = s 1 12 + nI j → hk_Rn (d + 6) none hk_c28 (hk_sfx 4 hk_c28) [some (.ref 1), some (.int (nI m)), some (.int a), some (.int (nI j))] [] (s3, lm, hk_RH i0 i1 b, al) k := by
    intro q
    induction q with
    | zero =>
      intro j s3 a hj h3 h4
      have e : j = m := by omega
      subst e
      refine hk_hd (n := 1000) (t := 4) rfl ?_
      refine And.intro (fun _ => ?_) (fun hc => absurd (Int32.le_refl _) hc)
      exact h1 s3 a h3 h4
    | succ q ih =>
      intro j s3 a hj h3 h4
      have a1 : ¬ nI m ≤ nI j := hk_nlt (by omega) (by omega)
      have g : ∀ t, hk_tb t → ∀ q, s3 t q = s t q := fun t ht q => by
        obtain ⟨b1, b2, b3⟩ := hk_tb35 ht
        refine h3.1 t q b1 b2 (fun e => ?_)
        rw [e.1] at ht
        simp [hk_tb] at ht
      have ht2 : hk_tb 2 := by simp [hk_tb]
      have hwt : hk_tw s3 2 n := ⟨by rw [g 2 ht2]; exact hw.1, by rw [g 2 ht2]; exact hw.2.1, by rw [g 2 ht2]; exact hw.2.2.1, hw.2.2.2⟩
      refine hk_hd (n := 1000) (t := 4) rfl ?_
      refine And.intro (fun hc => absurd hc a1) (fun _ => ?_)
      refine c_passMonth hwt (hk_TW_fr hw2 (fun t q ht => g t ht q)) (fun s4 x h5 => ?_)
      refine hk_Rn_cast (by rw [← nI_1]; rfl) (ih (j + 1) (hk_u2 s4 1 12 (s3 1 12 + 1)) _ (by omega) ⟨fun p q b1 b2 b3 => ?_, fun i c b1 b2 b3 b4 b5 => ?_⟩ ?_)
      · rw [hk_u2o b3, h5.1 p q b1 b2]; exact h3.1 p q b1 b2 b3
      · rw [hk_u2o (by omega), h5.2 i c b1 b2 b3 b4 b5]; exact h3.2 i c b1 b2 b3 b4 b5
      · rw [hk_u2s, h4, ← nI_1, Int32.add_assoc]
  refine hk_mth hk_m28 rfl rfl (n := 1000) ?_
  exact loop m 0 s 0 (by omega) ⟨fun _ _ _ _ _ => rfl, fun _ _ _ _ _ _ _ => rfl⟩ (by rw [show nI 0 = 0 from rfl, Int32.add_zero])
/-! storms -/
def hk_F25 (s s2 : Nat → Nat → Int32) : Prop := ∀ p q, ¬ (25 ≤ p ∧ p ≤ 28) → s2 p q = s p q
theorem hk_F25_TW {s s2 : Nat → Nat → Int32} (a : hk_F25 s s2) (h : hk_TW s) : hk_TW s2 := hk_TW_fr h (fun t q ht => a t q (by have := hk_tb35 ht; omega))
theorem c_spass (hw : hk_tw s 2 n) (hw2 : hk_TW s) {i : Nat} (hi : i < 60) (h1 : ∀ s2 x, hk_F25 s s2 → k (some (.int x)) (s2, lm, hk_RH i0 i1 b, al)) : hk_Cl (d + 4) 122 [.ref 25, .ref 1, .int (nI i), .int w] (s, lm, hk_RH i0 i1 b, al) k := by
  have hn : n ≤ 6 := hw.2.2.2
  have em : (if (6 : Int32) < s 2 3 then 6 else s 2 3) = nI n := by rw [hw.2.2.1]; exact hk_minI (m := 6) hn (by omega)
  have loop : ∀ (q j : Nat) (s3 : Nat → Nat → Int32) (a e : Int32) (l8 l9 : Option Value), j + q = n → hk_F25 s s3 → hk_Rn (d + 3) none hk_c122 (hk_sfx 26 hk_c122) [some (.ref 25), some (.ref 1), some (.int (nI i)), some (.int w), some (.int a), some (.int e), some (.int (nI n)), some (.int (nI j)), l8, l9] [] (s3, lm, hk_RH i0 i1 b, al) k := by
    intro q
    induction q with
    | zero =>
      intro j s3 a e l8 l9 hj h3
      have ej : j = n := by omega
      subst ej
      refine hk_hd (n := 1000) (t := 26) rfl ?_
      refine And.intro (fun _ => ?_) (fun hc => absurd (Int32.le_refl _) hc)
      exact h1 s3 _ h3
    | succ q ih =>
      intro j s3 a e l8 l9 hj h3
      have a1 : ¬ nI n ≤ nI j := hk_nlt (by omega) (by omega)
      have hw3 := hk_F25_TW h3 hw2
      refine hk_hd (n := 1000) (t := 26) rfl ?_
      refine And.intro (fun hc => absurd hc a1) (fun _ => ?_)
      refine hk_ldi (i := nI j) (j := j) (by simp only [hk_lit, pk_mul, nI_add]) (by omega) (by decide) rfl ?_
      refine And.intro (fun c1 => ?_) (fun c1 => ?_)
      · exact hk_Rn_cast (by rw [← nI_1]; rfl) (ih (j + 1) s3 _ _ _ _ (by omega) h3)
      refine hk_ldi (i := nI j) (j := j) (by simp only [hk_lit, pk_mul, nI_add]) (by omega) (by decide) rfl ?_
      refine hk_ldi (i := nI i * 6 + nI j) (j := i * 6 + j) (by simp only [hk_lit, pk_mul, nI_add]) (by omega) (by decide) rfl ?_
      refine c_pumped hw3 (fun y => ?_)
      refine hk_stn (i := nI j) (j := j) (by simp only [hk_lit, pk_mul, nI_add]) (by omega) (by decide) (fun s4 (hs4 : s4 = hk_u2 s3 27 (j) (s3 27 j + s3 26 (i * 6 + j) + w - y)) => ?_)
      have h4 : hk_F25 s s4 := fun p q hp => by rw [hs4, hk_u2o (by omega)]; exact h3 p q hp
      have hw4 := hk_F25_TW h4 hw2
      refine hk_ldi (i := nI j) (j := j) (by simp only [hk_lit, pk_mul, nI_add]) (by omega) (by decide) rfl ?_
      refine c_sinksWith hw4 (fun y hy => ?_)
      refine And.intro (fun c2 => ?_) (fun c2 => ?_)
      · exact hk_Rn_cast (by rw [← nI_1]; rfl) (ih (j + 1) s4 _ _ _ _ (by omega) h4)
      refine hk_stn (i := nI j) (j := j) (by simp only [hk_lit, pk_mul, nI_add]) (by omega) (by decide) (fun s5 (hs5 : s5 = hk_u2 s4 28 (j) 1) => ?_)
      exact hk_Rn_cast (by rw [← nI_1]; rfl) (ih (j + 1) s5 _ _ _ _ (by omega) (fun p q hp => by rw [hs5, hk_u2o (by omega)]; exact h4 p q hp))
  refine hk_mth hk_m122 rfl rfl (n := 1000) ?_
  refine hk_Rn_cast (L2 := [some (.ref 25), some (.ref 1), some (.int (nI i)), some (.int w), some (.int (s 1 14)), some (.int 0), some (.int (nI n)), some (.int (nI 0)), none, none]) ?_ (loop n 0 s _ _ none none (by omega) (fun _ _ _ => rfl))
  show [some (Value.ref 25), some (.ref 1), some (.int (nI i)), some (.int w), some (.int (s 1 14)), some (.int 0), some (.int (if (6 : Int32) < s 2 3 then 6 else s 2 3)), some (.int 0), none, none] = _
  rw [em]
  rfl
theorem hk_F25_tw {s s2 : Nat → Nat → Int32} (a : hk_F25 s s2) (h : hk_tw s 2 n) : hk_tw s2 2 n := by
  obtain ⟨a1, a2, a3, a4⟩ := h
  exact ⟨by rw [a _ _ (by omega)]; exact a1, by rw [a _ _ (by omega)]; exact a2, by rw [a _ _ (by omega)]; exact a3, a4⟩
theorem c_sinkW (hw : hk_tw s 2 n) (hw2 : hk_TW s) {m : Nat} (hm : m ≤ 60) (h1 : ∀ s2 x, hk_F25 s s2 → k (some (.int x)) (s2, lm, hk_RH i0 i1 b, al)) : hk_Cl (d + 5) 121 [.ref 25, .ref 1, .int v, .int w, .int (nI m)] (s, lm, hk_RH i0 i1 b, al) k := by
  have loop2 : ∀ (q j : Nat) (s2 : Nat → Nat → Int32) (a : Int32) (l7 l8 : Option Value), j + q = m → hk_F25 s s2 → hk_Rn (d + 4) none hk_c121 (hk_sfx 57 hk_c121) [some (.ref 25), some (.ref 1), some (.int v), some (.int w), some (.int (nI m)), some (.int a), some (.int (nI j)), l7, l8] [] (s2, lm, hk_RH i0 i1 b, al) k := by
    intro q
    induction q with
    | zero =>
      intro j s2 a l7 l8 hj h2
      have e : j = m := by omega
      subst e
      refine hk_hd (n := 1000) (t := 57) rfl ?_
      refine And.intro (fun _ => ?_) (fun hc => absurd (Int32.le_refl _) hc)
      exact h1 s2 _ h2
    | succ q ih =>
      intro j s2 a l7 l8 hj h2
      have a1 : ¬ nI m ≤ nI j := hk_nlt (by omega) (by omega)
      have hw3 := hk_F25_TW h2 hw2
      have hwt := hk_F25_tw h2 hw
      have nx : ∀ (s3 : Nat → Nat → Int32) (y v7 v8 : Int32), hk_F25 s2 s3 → hk_Rn (d + 4) none hk_c121 (hk_sfx 57 hk_c121) [some (.ref 25), some (.ref 1), some (.int v), some (.int w), some (.int (nI m)), some (.int (a + y)), some (.int (nI j + 1)), some (.int v7), some (.int v8)] [] (s3, lm, hk_RH i0 i1 b, al) k := fun s3 y v7 v8 h3 => hk_Rn_cast (by rw [nI_1]) (ih (j + 1) s3 _ (some (.int v7)) (some (.int v8)) (by omega) (fun p q hp => (h3 p q hp).trans (h2 p q hp)))
      refine hk_hd (n := 1000) (t := 57) rfl ?_
      refine And.intro (fun hc => absurd hc a1) (fun _ => ?_)
      refine And.intro (fun c1 => ?_) (fun c1 => ?_)
      · refine And.intro (fun c3 => ?_) (fun c3 => ?_)
        · exact c_spass hwt hw3 (by omega) (fun s3 y h3 => nx s3 y _ _ h3)
        · exact c_spass hwt hw3 (by omega) (fun s3 y h3 => nx s3 y _ _ h3)
      refine And.intro (fun c2 => ?_) (fun c2 => ?_)
      · refine And.intro (fun c3 => ?_) (fun c3 => ?_)
        · exact c_spass hwt hw3 (by omega) (fun s3 y h3 => nx s3 y _ _ h3)
        · exact c_spass hwt hw3 (by omega) (fun s3 y h3 => nx s3 y _ _ h3)
      have c1 : ¬ s2 1 12 + nI j < 0 := c1
      have c2 : ¬ nI 600 ≤ s2 1 12 + nI j := c2
      obtain ⟨a, ha, e⟩ := nI_of c1
      have ha2 : a < 600 := by
        rw [e, nI_leI (by omega) ha] at c2
        omega
      refine hk_ldi (i := s2 1 12 + nI j) (j := a) e ha2 (by decide) rfl ?_
      refine And.intro (fun c3 => ?_) (fun c3 => ?_)
      · exact c_spass hwt hw3 (by omega) (fun s3 y h3 => nx s3 y _ _ h3)
      · exact c_spass hwt hw3 (by omega) (fun s3 y h3 => nx s3 y _ _ h3)
  have loop1 : ∀ (q j : Nat) (s2 : Nat → Nat → Int32), j + q = 6 → hk_F25 s s2 → hk_Rn (d + 4) none hk_c121 (hk_sfx 3 hk_c121) [some (.ref 25), some (.ref 1), some (.int v), some (.int w), some (.int (nI m)), some (.int (nI j)), none, none, none] [] (s2, lm, hk_RH i0 i1 b, al) k := by
    intro q
    induction q with
    | zero =>
      intro j s2 hj h2
      have e : j = 6 := by omega
      subst e
      refine hk_hd (n := 1000) (t := 3) rfl ?_
      refine And.intro (fun _ => ?_) (fun hc => absurd (show (6 : Int32) ≤ nI 6 by decide) hc)
      exact loop2 m 0 s2 0 none none (by omega) h2
    | succ q ih =>
      intro j s2 hj h2
      have a1 : ¬ nI 6 ≤ nI j := hk_nlt (by omega) (by omega)
      refine hk_hd (n := 1000) (t := 3) rfl ?_
      refine And.intro (fun hc => absurd hc a1) (fun _ => ?_)
      refine c_g2 (hk_F25_TW h2 hw2) (fun x => ?_)
      refine hk_stn (i := nI j) (j := j) (by simp only [hk_lit, pk_mul, nI_add]) (by omega) (by decide) (fun s3 (hs3 : s3 = hk_u2 s2 27 (j) x) => ?_)
      have h3 : hk_F25 s s3 := fun p q hp => by rw [hs3, hk_u2o (by omega)]; exact h2 p q hp
      refine c_g2 (hk_F25_TW h3 hw2) (fun y => ?_)
      refine hk_stn (i := nI j) (j := j) (by simp only [hk_lit, pk_mul, nI_add]) (by omega) (by decide) (fun s4 (hs4 : s4 = hk_u2 s3 28 (j) y) => ?_)
      exact hk_Rn_cast (by rw [← nI_1]; rfl) (ih (j + 1) s4 (by omega) (fun p q hp => by rw [hs4, hk_u2o (by omega)]; exact h3 p q hp))
  refine hk_mth hk_m121 rfl rfl (n := 1000) ?_
  exact loop1 6 0 s (by omega) (fun _ _ _ => rfl)
theorem c_seek (hw : hk_tw s 2 n) (hw2 : hk_TW s) {m : Nat} (hm : m ≤ 60) (h1 : ∀ s2, hk_F25 s s2 → k none (s2, lm, hk_RH i0 i1 b, al)) : hk_Cl (d + 6) 120 [.ref 25, .ref 1, .int v, .int (nI m)] (s, lm, hk_RH i0 i1 b, al) k := by
  have hn : n ≤ 6 := hw.2.2.2
  have em : (if (60 : Int32) < nI m then 60 else nI m) = nI m := hk_minI (m := 60) hm (by omega)
  have ez : (if (6 : Int32) < s 2 3 then 6 else s 2 3) = nI n := by rw [hw.2.2.1]; exact hk_minI (m := 6) hn (by omega)
  have l93 : ∀ (q j : Nat) (s2 : Nat → Nat → Int32) (l7 : Option Value), j + q = m → hk_F25 s s2 → hk_Rn (d + 5) none hk_c120 (hk_sfx 93 hk_c120) [some (.ref 25), some (.ref 1), some (.int v), some (.int (nI m)), some (.int (nI m)), some (.int (nI n)), some (.int (nI j)), l7] [] (s2, lm, hk_RH i0 i1 b, al) k := by
    intro q
    induction q with
    | zero =>
      intro j s2 l7 hj h2
      have e : j = m := by omega
      subst e
      refine hk_hd (n := 1000) (t := 93) rfl ?_
      refine And.intro (fun _ => ?_) (fun hc => absurd (Int32.le_refl _) hc)
      exact h1 s2 h2
    | succ q ih =>
      intro j s2 l7 hj h2
      have a1 : ¬ nI m ≤ nI j := hk_nlt (by omega) (by omega)
      refine hk_hd (n := 1000) (t := 93) rfl ?_
      refine And.intro (fun hc => absurd hc a1) (fun _ => ?_)
      refine c_sinkW (hk_F25_tw h2 hw) (hk_F25_TW h2 hw2) hm (fun s3 x h3 => ?_)
      have h4 : hk_F25 s s3 := fun p q hp => (h3 p q hp).trans (h2 p q hp)
      refine And.intro (fun c1 => ?_) (fun c1 => ?_)
      · exact hk_Rn_cast (by rw [← nI_1]; rfl) (ih (j + 1) s3 _ (by omega) h4)
      · exact hk_Rn_cast (by rw [← nI_1]; rfl) (ih (j + 1) (hk_u2 (hk_u2 s3 25 4 x) 25 3 (s3 1 12 + nI j)) _ (by omega) (fun p q hp => by rw [hk_u2o (by omega), hk_u2o (by omega)]; exact h4 p q hp))
  have l25 : ∀ (q j : Nat) (s2 : Nat → Nat → Int32) (l7 : Option Value), j + q = m → hk_F25 s s2 → hk_Rn (d + 5) none hk_c120 (hk_sfx 25 hk_c120) [some (.ref 25), some (.ref 1), some (.int v), some (.int (nI m)), some (.int (nI m)), some (.int (nI n)), some (.int (nI j)), l7] [] (s2, lm, hk_RH i0 i1 b, al) k := by
    intro q
    induction q with
    | zero =>
      intro j s2 l7 hj h2
      have e : j = m := by omega
      subst e
      refine hk_hd (n := 1000) (t := 25) rfl ?_
      refine And.intro (fun _ => ?_) (fun hc => absurd (Int32.le_refl _) hc)
      exact l93 j 0 (hk_u2 (hk_u2 s2 25 3 (s2 1 12)) 25 4 0) l7 (by omega) (fun p q hp => by rw [hk_u2o (by omega), hk_u2o (by omega)]; exact h2 p q hp)
    | succ q ih =>
      intro j s2 l7 hj h2
      have a1 : ¬ nI m ≤ nI j := hk_nlt (by omega) (by omega)
      have l35 : ∀ (g i : Nat) (s3 : Nat → Nat → Int32), i + g = n → hk_F25 s s3 → hk_Rn (d + 5) none hk_c120 (hk_sfx 35 hk_c120) [some (.ref 25), some (.ref 1), some (.int v), some (.int (nI m)), some (.int (nI m)), some (.int (nI n)), some (.int (nI j)), some (.int (nI i))] [] (s3, lm, hk_RH i0 i1 b, al) k := by
        intro g
        induction g with
        | zero =>
          intro i s3 hi h3
          have e : i = n := by omega
          subst e
          refine hk_hd (n := 1000) (t := 35) rfl ?_
          refine And.intro (fun _ => ?_) (fun hc => absurd (Int32.le_refl _) hc)
          exact hk_Rn_cast (by rw [← nI_1]; rfl) (ih (j + 1) s3 _ (by omega) h3)
        | succ g ih2 =>
          intro i s3 hi h3
          have b1 : ¬ nI n ≤ nI i := hk_nlt (by omega) (by omega)
          refine hk_hd (n := 1000) (t := 35) rfl ?_
          refine And.intro (fun hc => absurd hc b1) (fun _ => ?_)
          refine c_leaksAfter (hk_F25_TW h3 hw2) (fun x => ?_)
          refine hk_stn (i := nI j * 6 + nI i) (j := j * 6 + i) (by simp only [hk_lit, pk_mul, nI_add]) (by omega) (by decide) (fun s4 (hs4 : s4 = hk_u2 s3 26 (j * 6 + i) x) => ?_)
          exact hk_Rn_cast (by rw [← nI_1 i]; rfl) (ih2 (i + 1) s4 (by omega) (fun p q hp => by rw [hs4, hk_u2o (by omega)]; exact h3 p q hp))
      refine hk_hd (n := 1000) (t := 25) rfl ?_
      refine And.intro (fun hc => absurd hc a1) (fun _ => ?_)
      exact l35 n 0 s2 (by omega) h2
  refine hk_mth hk_m120 rfl rfl (n := 1000) ?_
  refine hk_Rn_cast (L2 := [some (.ref 25), some (.ref 1), some (.int v), some (.int (nI m)), some (.int (nI m)), some (.int (nI n)), some (.int (nI 0)), none]) ?_ (l25 m 0 s none (by omega) (fun _ _ _ => rfl))
  show [some (Value.ref 25), some (.ref 1), some (.int v), some (.int (nI m)), some (.int (if (60 : Int32) < nI m then 60 else nI m)), some (.int (if (6 : Int32) < s 2 3 then 6 else s 2 3)), some (.int 0), none] = _
  rw [em, ez]
  rfl
end HKA4
