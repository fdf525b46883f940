/-! ===== Table ===== -/
section HKT
variable {d t n : Nat} {r c v : Int32} {s : Nat → Nat → Int32} {lm : Nat → Nat → Int64} {i0 i1 b : Nat} {al : List Nat} {k : Option Value → hk_H → Prop}
/-- a row that is there; one that isn't -/
theorem c_has (ht : hk_tb t) (h1 : ¬ r < 0 → ¬ s t 3 ≤ r → k (some (.int 1)) (s, lm, hk_RH i0 i1 b, al)) (h0 : r < 0 ∨ s t 3 ≤ r → k (some (.int 0)) (s, lm, hk_RH i0 i1 b, al)) : hk_Cl (d + 1) 14 [.ref t, .int r] (s, lm, hk_RH i0 i1 b, al) k := by
  rcases ht with rfl | rfl | rfl | rfl | rfl | rfl | rfl | rfl | rfl
  all_goals
    refine hk_mth hk_m14 rfl rfl (n := 1000) ?_
    refine And.intro (fun c1 => ?_) (fun c1 => ?_)
    · exact And.intro (Or.inl rfl) (h0 (Or.inl c1))
    refine And.intro (fun c2 => ?_) (fun c2 => ?_)
    · exact And.intro (Or.inl rfl) (h0 (Or.inr c2))
    exact And.intro (Or.inr rfl) (h1 c1 c2)
theorem c_full (ht : hk_tb t) (h1 : s t 0 ≤ s t 3 → k (some (.int 1)) (s, lm, hk_RH i0 i1 b, al)) (h0 : s t 3 < s t 0 → k (some (.int 0)) (s, lm, hk_RH i0 i1 b, al)) : hk_Cl (d + 1) 4 [.ref t] (s, lm, hk_RH i0 i1 b, al) k := by
  rcases ht with rfl | rfl | rfl | rfl | rfl | rfl | rfl | rfl | rfl
  all_goals
    refine hk_mth hk_m4 rfl rfl (n := 1000) ?_
    refine And.intro (fun c1 => ?_) (fun c1 => ?_)
    · exact And.intro (Or.inl rfl) (h0 c1)
    · exact And.intro (Or.inr rfl) (h1 (Int32.not_lt.mp c1))
/-- a cell's place -/
theorem hk_cell (ht : hk_tb t) (hw : hk_tw s t n) {i j m : Nat} (hi : i < m) (hm : m ≤ hk_mo t) (hj : j < hk_co t) : vp_in (nI i * s t 1 + nI j) (hk_mo t * hk_co t) ∧ (nI i * s t 1 + nI j).toNatClampNeg = i * hk_co t + j := by
  rw [hw.2.1]
  have h1 : hk_mo t * hk_co t < 2 ^ 30 := by rcases ht with rfl | rfl | rfl | rfl | rfl | rfl | rfl | rfl | rfl <;> decide
  obtain ⟨h2, h3, h4, h5⟩ := hk_ixin hi hm hj h1
  exact ⟨h4, h5⟩
theorem hk_mo31 (ht : hk_tb t) : hk_mo t < 2 ^ 30 ∧ hk_co t < 2 ^ 30 := by
  rcases ht with rfl | rfl | rfl | rfl | rfl | rfl | rfl | rfl | rfl <;> decide
theorem c_get_in (ht : hk_tb t) (hw : hk_tw s t n) {i j : Nat} (hi : i < n) (hj : j < hk_co t) (h1 : k (some (.int (s (t + 1) (i * hk_co t + j)))) (s, lm, hk_RH i0 i1 b, al)) : hk_Cl (d + 1) 16 [.ref t, .int (nI i), .int (nI j)] (s, lm, hk_RH i0 i1 b, al) k := by
  obtain ⟨g1, g2⟩ := hk_cell ht hw hi hw.2.2.2 hj
  obtain ⟨g3, g4⟩ := hk_mo31 ht
  have a1 : ¬ nI i < 0 := nI_pos (by have := hw.2.2.2; omega)
  have a2 : ¬ s t 3 ≤ nI i := by rw [hw.2.2.1]; exact hk_nlt hi (by have := hw.2.2.2; omega)
  have a3 : ¬ nI j < 0 := nI_pos (by omega)
  have a4 : nI j < s t 1 := by rw [hw.2.1]; exact nI_lt hj (by omega)
  rw [← g2] at h1
  rcases ht with rfl | rfl | rfl | rfl | rfl | rfl | rfl | rfl | rfl
  all_goals
    refine hk_mth hk_m16 rfl rfl (n := 1000) ?_
    refine And.intro (fun hc => absurd hc a1) (fun _ => ?_)
    refine And.intro (fun hc => absurd hc a2) (fun _ => ?_)
    refine And.intro (fun hc => absurd hc a3) (fun _ => ?_)
    refine And.intro (fun _ => ?_) (fun hc => absurd a4 hc)
    exact And.intro g1 h1
theorem c_get_out (ht : hk_tb t) (hr : r < 0 ∨ s t 3 ≤ r) (h1 : k (some (.int 0)) (s, lm, hk_RH i0 i1 b, al)) : hk_Cl (d + 1) 16 [.ref t, .int r, .int c] (s, lm, hk_RH i0 i1 b, al) k := by
  rcases ht with rfl | rfl | rfl | rfl | rfl | rfl | rfl | rfl | rfl
  all_goals
    refine hk_mth hk_m16 rfl rfl (n := 1000) ?_
    refine And.intro (fun c1 => ?_) (fun c1 => ?_)
    · exact h1
    refine And.intro (fun c2 => ?_) (fun c2 => ?_)
    · exact h1
    exact absurd hr (fun q => q.elim c1 c2)
theorem c_put_in (ht : hk_tb t) (hw : hk_tw s t n) {i j : Nat} (hi : i < hk_mo t) (hj : j < hk_co t) (h1 : k none (hk_u2 s (t + 1) (i * hk_co t + j) v, lm, hk_RH i0 i1 b, al)) : hk_Cl (d + 1) 5 [.ref t, .int (nI i), .int (nI j), .int v] (s, lm, hk_RH i0 i1 b, al) k := by
  obtain ⟨g1, g2⟩ := hk_cell ht hw hi (Nat.le_refl _) hj
  obtain ⟨g3, g4⟩ := hk_mo31 ht
  have a1 : ¬ nI i < 0 := nI_pos (by omega)
  have a2 : ¬ s t 0 ≤ nI i := by rw [hw.1]; exact hk_nlt hi (by omega)
  have a3 : ¬ nI j < 0 := nI_pos (by omega)
  have a4 : ¬ s t 1 ≤ nI j := by rw [hw.2.1]; exact hk_nlt hj (by omega)
  rw [← g2] at h1
  rcases ht with rfl | rfl | rfl | rfl | rfl | rfl | rfl | rfl | rfl
  all_goals
    refine hk_mth hk_m5 rfl rfl (n := 1000) ?_
    refine And.intro (fun hc => absurd hc a1) (fun _ => ?_)
    refine And.intro (fun hc => absurd hc a2) (fun _ => ?_)
    refine And.intro (fun hc => absurd hc a3) (fun _ => ?_)
    refine And.intro (fun hc => absurd hc a4) (fun _ => ?_)
    exact And.intro g1 h1
theorem c_put_out (ht : hk_tb t) (hw : hk_tw s t n) {i j : Nat} (hi : i < hk_mo t) (hj : ¬ j < hk_co t) (hj2 : j < 2 ^ 30) (h1 : k none (s, lm, hk_RH i0 i1 b, al)) : hk_Cl (d + 1) 5 [.ref t, .int (nI i), .int (nI j), .int v] (s, lm, hk_RH i0 i1 b, al) k := by
  obtain ⟨g3, g4⟩ := hk_mo31 ht
  have a1 : ¬ nI i < 0 := nI_pos (by omega)
  have a2 : ¬ s t 0 ≤ nI i := by rw [hw.1]; exact hk_nlt hi (by omega)
  have a3 : ¬ nI j < 0 := nI_pos (by omega)
  have a4 : s t 1 ≤ nI j := by rw [hw.2.1]; exact nI_le (by omega) (by omega)
  rcases ht with rfl | rfl | rfl | rfl | rfl | rfl | rfl | rfl | rfl
  all_goals
    refine hk_mth hk_m5 rfl rfl (n := 1000) ?_
    refine And.intro (fun hc => absurd hc a1) (fun _ => ?_)
    refine And.intro (fun hc => absurd hc a2) (fun _ => ?_)
    refine And.intro (fun hc => absurd hc a3) (fun _ => ?_)
    refine And.intro (fun _ => ?_) (fun hc => absurd a4 hc)
    exact h1
theorem c_swap_in (ht : hk_tb t) (hw : hk_tw s t n) {i j : Nat} (hi : i < n) (hj : j < hk_co t) (h1 : k (some (.int (s (t + 1) (i * hk_co t + j)))) (hk_u2 s (t + 1) (i * hk_co t + j) v, lm, hk_RH i0 i1 b, al)) : hk_Cl (d + 2) 23 [.ref t, .int (nI i), .int (nI j), .int v] (s, lm, hk_RH i0 i1 b, al) k := by
  have hi2 := Nat.lt_of_lt_of_le hi hw.2.2.2
  rcases ht with rfl | rfl | rfl | rfl | rfl | rfl | rfl | rfl | rfl
  all_goals
    refine hk_mth hk_m23 rfl rfl (n := 1000) ?_
    refine c_get_in (by simp [hk_tb]) hw hi hj ?_
    refine c_put_in (by simp [hk_tb]) hw hi2 hj ?_
    exact h1
theorem c_empty (ht : hk_tb t) (h1 : k (some (.int (s t 3))) (hk_u2 s t 3 0, lm, hk_RH i0 i1 b, al)) : hk_Cl (d + 1) 100 [.ref t] (s, lm, hk_RH i0 i1 b, al) k := by
  rcases ht with rfl | rfl | rfl | rfl | rfl | rfl | rfl | rfl | rfl
  all_goals
    refine hk_mth hk_m100 rfl rfl (n := 1000) ?_
    exact h1
/-- a row more: what changes -/
def hk_add (s s2 : Nat → Nat → Int32) (t n : Nat) (L : List Int32) : Prop := (∀ p q, ¬ (p = t + 1 ∧ n * hk_co t ≤ q ∧ q < n * hk_co t + hk_co t) → ¬ (p = t ∧ q = 3) → s2 p q = s p q) ∧ s2 t 3 = nI (n + 1) ∧ ∀ j, j < hk_co t → s2 (t + 1) (n * hk_co t + j) = L.getD j 0
/-- the cells of the row so far -/
def hk_adc (s s2 : Nat → Nat → Int32) (t n m : Nat) (f : Nat → Int32) : Prop := (∀ p q, ¬ (p = t + 1 ∧ n * hk_co t ≤ q ∧ q < n * hk_co t + hk_co t) → s2 p q = s p q) ∧ ∀ j, j < m → s2 (t + 1) (n * hk_co t + j) = f j
theorem hk_adc_put {s2 : Nat → Nat → Int32} {n m j : Nat} {f : Nat → Int32} {v : Int32} (h : hk_adc s s2 t n m f) (hj : j < hk_co t) (hm : j ≤ m) : hk_adc s (hk_u2 s2 (t + 1) (n * hk_co t + j) v) t n (if j = m then m + 1 else m) (fun z => if z = j then v else f z) := by
  refine ⟨fun p q hp => ?_, fun z hz => ?_⟩
  · unfold hk_u2
    by_cases h1 : p = t + 1
    · rw [if_pos h1]
      subst h1
      have hq : q ≠ n * hk_co t + j := fun e => hp ⟨rfl, by omega, by omega⟩
      rw [pk_un hq]
      exact h.1 _ _ hp
    · rw [if_neg h1]
      exact h.1 _ _ hp
  · unfold hk_u2
    rw [if_pos rfl]
    by_cases h1 : z = j
    · subst h1
      dsimp only
      rw [pk_us, if_pos rfl]
    · dsimp only
      rw [pk_un (by omega), if_neg h1]
      refine h.2 z ?_
      by_cases h2 : j = m
      · rw [if_pos h2] at hz; omega
      · rw [if_neg h2] at hz; exact hz
theorem hk_adc_tw {s2 : Nat → Nat → Int32} {m : Nat} {f : Nat → Int32} (h : hk_adc s s2 t n m f) (hw : hk_tw s t n) : hk_tw s2 t n := by
  refine ⟨?_, ?_, ?_, hw.2.2.2⟩
  · rw [h.1 _ _ (fun q => by omega)]; exact hw.1
  · rw [h.1 _ _ (fun q => by omega)]; exact hw.2.1
  · rw [h.1 _ _ (fun q => by omega)]; exact hw.2.2.1
theorem hk_adc_end {s2 : Nat → Nat → Int32} {f : Nat → Int32} {L : List Int32} (h : hk_adc s s2 t n (hk_co t) f) (hf : ∀ j, j < hk_co t → f j = L.getD j 0) : hk_add s (hk_u2 s2 t 3 (nI (n + 1))) t n L := by
  refine ⟨fun p q h1 h2 => ?_, ?_, fun j hj => ?_⟩
  · unfold hk_u2
    by_cases h3 : p = t
    · rw [if_pos h3]
      subst h3
      rw [pk_un (fun e => h2 ⟨rfl, e⟩)]
      exact h.1 _ _ h1
    · rw [if_neg h3]
      exact h.1 _ _ h1
  · simp [hk_u2, upd]
  · unfold hk_u2
    rw [if_neg (by omega), h.2 j hj]
    exact hf j hj
theorem hk_co2 (ht : hk_tb t) : 2 ≤ hk_co t ∧ hk_co t < 100 := by
  rcases ht with rfl | rfl | rfl | rfl | rfl | rfl | rfl | rfl | rfl <;> decide
/-- one cell of the row, if there is such a column -/
theorem c_put_row {s2 : Nat → Nat → Int32} {f : Nat → Int32} {j : Nat} (ht : hk_tb t) (hw : hk_tw s t n) (hn : n < hk_mo t) (h : hk_adc s s2 t n (hk_co t) f) (hj : j < 5) (h1 : ∀ s3, hk_adc s s3 t n (hk_co t) (fun z => if z = j then v else f z) → k none (s3, lm, hk_RH i0 i1 b, al)) : hk_Cl (d + 1) 5 [.ref t, .int (nI n), .int (nI j), .int v] (s2, lm, hk_RH i0 i1 b, al) k := by
  by_cases hc : j < hk_co t
  · refine c_put_in ht (hk_adc_tw h hw) hn hc (h1 _ ?_)
    have := hk_adc_put (v := v) h hc (by omega)
    rwa [if_neg (by omega)] at this
  · refine c_put_out ht (hk_adc_tw h hw) hn hc (by omega) (h1 _ ⟨h.1, fun z hz => ?_⟩)
    dsimp only
    rw [if_neg (by omega)]
    exact h.2 z hz
theorem hk_add_end {a1 a2 a3 a4 a5 : Int32} (hw : hk_tw s t n) (h1 : ∀ s2, hk_add s s2 t n [a1, a2, a3, a4, a5] → k (some (.int (nI n))) (s2, lm, hk_RH i0 i1 b, al)) (s2 : Nat → Nat → Int32) (h2 : hk_adc s s2 t n (hk_co t) (fun z => if z = 4 then a5 else if z = 3 then a4 else if z = 2 then a3 else if z = 1 then a2 else if z = 0 then a1 else 0)) : k (some (.int (nI n))) (hk_u2 s2 t 3 (s2 t 3 + 1), lm, hk_RH i0 i1 b, al) := by
  have e : s2 t 3 + 1 = nI (n + 1) := by rw [(hk_adc_tw h2 hw).2.2.1, nI_1]
  rw [e]
  refine h1 _ (hk_adc_end h2 fun j hj => ?_)
  match j with
  | 0 => rfl
  | 1 => rfl
  | 2 => rfl
  | 3 => rfl
  | 4 => rfl
  | j + 5 => simp
theorem c_add_2 {a1 a2 a3 a4 a5 : Int32} (ht : hk_tb 2) (hw : hk_tw s 2 n) (hn : n < hk_mo 2) (h1 : ∀ s2, hk_add s s2 2 n [a1, a2, a3, a4, a5] → k (some (.int (nI n))) (s2, lm, hk_RH i0 i1 b, al)) : hk_Cl (d + 2) 3 [.ref 2, .int a1, .int a2, .int a3, .int a4, .int a5] (s, lm, hk_RH i0 i1 b, al) k := by
  have hco := hk_co2 ht
  have hmo := hk_mo31 ht
  have fin := hk_add_end hw h1
  refine hk_mth hk_m3 rfl rfl (n := 1000) ?_
  refine c_full ht (fun hc => absurd hc (by rw [hw.1, hw.2.2.1]; exact hk_nlt hn (by omega))) (fun _ => ?_)
  refine And.intro (fun _ => ?_) (fun hc => absurd (by decide) hc)
  have loop : ∀ (q m : Nat), m + q = hk_co 2 → ∀ s2, hk_adc s s2 2 n m (fun _ => 0) → hk_Rn (d + 1) none hk_c3 (hk_sfx 19 hk_c3) [some (.ref 2), some (.int a1), some (.int a2), some (.int a3), some (.int a4), some (.int a5), some (.int (nI n)), some (.int (nI m))] [] (s2, lm, hk_RH i0 i1 b, al) k := by
    intro q
    induction q with
    | zero =>
      intro m hm s2 h2
      have hc1 : s2 2 1 ≤ nI m := by rw [(hk_adc_tw h2 hw).2.1]; exact nI_le (by omega) (by omega)
      refine hk_hd (n := 1000) (t := 19) rfl ?_
      refine And.intro (fun _ => ?_) (fun hc => absurd hc1 hc)
      rw [show m = hk_co 2 by omega] at h2
      refine c_put_row (j := 0) ht hw hn h2 (by omega) fun s3 h3 => ?_
      refine c_put_row (j := 1) ht hw hn h3 (by omega) fun s4 h4 => ?_
      refine c_put_row (j := 2) ht hw hn h4 (by omega) fun s5 h5 => ?_
      refine c_put_row (j := 3) ht hw hn h5 (by omega) fun s6 h6 => ?_
      refine c_put_row (j := 4) ht hw hn h6 (by omega) fun s7 h7 => ?_
      exact fin s7 h7
    | succ q ih =>
      intro m hm s2 h2
      have hc1 : ¬ s2 2 1 ≤ nI m := by rw [(hk_adc_tw h2 hw).2.1]; exact hk_nlt (by omega) (by omega)
      refine hk_hd (n := 1000) (t := 19) rfl ?_
      refine And.intro (fun hc => absurd hc hc1) (fun _ => ?_)
      refine c_put_in ht (hk_adc_tw h2 hw) hn (j := m) (by omega) ?_
      have h3 := hk_adc_put (v := 0) h2 (j := m) (by omega) (Nat.le_refl m)
      rw [if_pos rfl] at h3
      refine hk_Rn_cast (by rw [← nI_1]; rfl) (ih (m + 1) (by omega) _ ⟨h3.1, fun z hz => ?_⟩)
      rw [h3.2 z hz]
      dsimp only
      split <;> rfl
  have h0 : hk_adc s s 2 n 0 (fun _ => 0) := ⟨fun _ _ _ => rfl, fun j hj => absurd hj (Nat.not_lt_zero j)⟩
  exact hk_Rn_cast (by rw [← hw.2.2.1]; rfl) (loop _ 0 (Nat.zero_add _) s h0)
theorem c_add_4 {a1 a2 a3 a4 a5 : Int32} (ht : hk_tb 4) (hw : hk_tw s 4 n) (hn : n < hk_mo 4) (h1 : ∀ s2, hk_add s s2 4 n [a1, a2, a3, a4, a5] → k (some (.int (nI n))) (s2, lm, hk_RH i0 i1 b, al)) : hk_Cl (d + 2) 3 [.ref 4, .int a1, .int a2, .int a3, .int a4, .int a5] (s, lm, hk_RH i0 i1 b, al) k := by
  have hco := hk_co2 ht
  have hmo := hk_mo31 ht
  have fin := hk_add_end hw h1
  refine hk_mth hk_m3 rfl rfl (n := 1000) ?_
  refine c_full ht (fun hc => absurd hc (by rw [hw.1, hw.2.2.1]; exact hk_nlt hn (by omega))) (fun _ => ?_)
  refine And.intro (fun _ => ?_) (fun hc => absurd (by decide) hc)
  have loop : ∀ (q m : Nat), m + q = hk_co 4 → ∀ s2, hk_adc s s2 4 n m (fun _ => 0) → hk_Rn (d + 1) none hk_c3 (hk_sfx 19 hk_c3) [some (.ref 4), some (.int a1), some (.int a2), some (.int a3), some (.int a4), some (.int a5), some (.int (nI n)), some (.int (nI m))] [] (s2, lm, hk_RH i0 i1 b, al) k := by
    intro q
    induction q with
    | zero =>
      intro m hm s2 h2
      have hc1 : s2 4 1 ≤ nI m := by rw [(hk_adc_tw h2 hw).2.1]; exact nI_le (by omega) (by omega)
      refine hk_hd (n := 1000) (t := 19) rfl ?_
      refine And.intro (fun _ => ?_) (fun hc => absurd hc1 hc)
      rw [show m = hk_co 4 by omega] at h2
      refine c_put_row (j := 0) ht hw hn h2 (by omega) fun s3 h3 => ?_
      refine c_put_row (j := 1) ht hw hn h3 (by omega) fun s4 h4 => ?_
      refine c_put_row (j := 2) ht hw hn h4 (by omega) fun s5 h5 => ?_
      refine c_put_row (j := 3) ht hw hn h5 (by omega) fun s6 h6 => ?_
      refine c_put_row (j := 4) ht hw hn h6 (by omega) fun s7 h7 => ?_
      exact fin s7 h7
    | succ q ih =>
      intro m hm s2 h2
      have hc1 : ¬ s2 4 1 ≤ nI m := by rw [(hk_adc_tw h2 hw).2.1]; exact hk_nlt (by omega) (by omega)
      refine hk_hd (n := 1000) (t := 19) rfl ?_
      refine And.intro (fun hc => absurd hc hc1) (fun _ => ?_)
      refine c_put_in ht (hk_adc_tw h2 hw) hn (j := m) (by omega) ?_
      have h3 := hk_adc_put (v := 0) h2 (j := m) (by omega) (Nat.le_refl m)
      rw [if_pos rfl] at h3
      refine hk_Rn_cast (by rw [← nI_1]; rfl) (ih (m + 1) (by omega) _ ⟨h3.1, fun z hz => ?_⟩)
      rw [h3.2 z hz]
      dsimp only
      split <;> rfl
  have h0 : hk_adc s s 4 n 0 (fun _ => 0) := ⟨fun _ _ _ => rfl, fun j hj => absurd hj (Nat.not_lt_zero j)⟩
  exact hk_Rn_cast (by rw [← hw.2.2.1]; rfl) (loop _ 0 (Nat.zero_add _) s h0)
theorem c_add_6 {a1 a2 a3 a4 a5 : Int32} (ht : hk_tb 6) (hw : hk_tw s 6 n) (hn : n < hk_mo 6) (h1 : ∀ s2, hk_add s s2 6 n [a1, a2, a3, a4, a5] → k (some (.int (nI n))) (s2, lm, hk_RH i0 i1 b, al)) : hk_Cl (d + 2) 3 [.ref 6, .int a1, .int a2, .int a3, .int a4, .int a5] (s, lm, hk_RH i0 i1 b, al) k := by
  have hco := hk_co2 ht
  have hmo := hk_mo31 ht
  have fin := hk_add_end hw h1
  refine hk_mth hk_m3 rfl rfl (n := 1000) ?_
  refine c_full ht (fun hc => absurd hc (by rw [hw.1, hw.2.2.1]; exact hk_nlt hn (by omega))) (fun _ => ?_)
  refine And.intro (fun _ => ?_) (fun hc => absurd (by decide) hc)
  have loop : ∀ (q m : Nat), m + q = hk_co 6 → ∀ s2, hk_adc s s2 6 n m (fun _ => 0) → hk_Rn (d + 1) none hk_c3 (hk_sfx 19 hk_c3) [some (.ref 6), some (.int a1), some (.int a2), some (.int a3), some (.int a4), some (.int a5), some (.int (nI n)), some (.int (nI m))] [] (s2, lm, hk_RH i0 i1 b, al) k := by
    intro q
    induction q with
    | zero =>
      intro m hm s2 h2
      have hc1 : s2 6 1 ≤ nI m := by rw [(hk_adc_tw h2 hw).2.1]; exact nI_le (by omega) (by omega)
      refine hk_hd (n := 1000) (t := 19) rfl ?_
      refine And.intro (fun _ => ?_) (fun hc => absurd hc1 hc)
      rw [show m = hk_co 6 by omega] at h2
      refine c_put_row (j := 0) ht hw hn h2 (by omega) fun s3 h3 => ?_
      refine c_put_row (j := 1) ht hw hn h3 (by omega) fun s4 h4 => ?_
      refine c_put_row (j := 2) ht hw hn h4 (by omega) fun s5 h5 => ?_
      refine c_put_row (j := 3) ht hw hn h5 (by omega) fun s6 h6 => ?_
      refine c_put_row (j := 4) ht hw hn h6 (by omega) fun s7 h7 => ?_
      exact fin s7 h7
    | succ q ih =>
      intro m hm s2 h2
      have hc1 : ¬ s2 6 1 ≤ nI m := by rw [(hk_adc_tw h2 hw).2.1]; exact hk_nlt (by omega) (by omega)
      refine hk_hd (n := 1000) (t := 19) rfl ?_
      refine And.intro (fun hc => absurd hc hc1) (fun _ => ?_)
      refine c_put_in ht (hk_adc_tw h2 hw) hn (j := m) (by omega) ?_
      have h3 := hk_adc_put (v := 0) h2 (j := m) (by omega) (Nat.le_refl m)
      rw [if_pos rfl] at h3
      refine hk_Rn_cast (by rw [← nI_1]; rfl) (ih (m + 1) (by omega) _ ⟨h3.1, fun z hz => ?_⟩)
      rw [h3.2 z hz]
      dsimp only
      split <;> rfl
  have h0 : hk_adc s s 6 n 0 (fun _ => 0) := ⟨fun _ _ _ => rfl, fun j hj => absurd hj (Nat.not_lt_zero j)⟩
  exact hk_Rn_cast (by rw [← hw.2.2.1]; rfl) (loop _ 0 (Nat.zero_add _) s h0)
theorem c_add_8 {a1 a2 a3 a4 a5 : Int32} (ht : hk_tb 8) (hw : hk_tw s 8 n) (hn : n < hk_mo 8) (h1 : ∀ s2, hk_add s s2 8 n [a1, a2, a3, a4, a5] → k (some (.int (nI n))) (s2, lm, hk_RH i0 i1 b, al)) : hk_Cl (d + 2) 3 [.ref 8, .int a1, .int a2, .int a3, .int a4, .int a5] (s, lm, hk_RH i0 i1 b, al) k := by
  have hco := hk_co2 ht
  have hmo := hk_mo31 ht
  have fin := hk_add_end hw h1
  refine hk_mth hk_m3 rfl rfl (n := 1000) ?_
  refine c_full ht (fun hc => absurd hc (by rw [hw.1, hw.2.2.1]; exact hk_nlt hn (by omega))) (fun _ => ?_)
  refine And.intro (fun _ => ?_) (fun hc => absurd (by decide) hc)
  have loop : ∀ (q m : Nat), m + q = hk_co 8 → ∀ s2, hk_adc s s2 8 n m (fun _ => 0) → hk_Rn (d + 1) none hk_c3 (hk_sfx 19 hk_c3) [some (.ref 8), some (.int a1), some (.int a2), some (.int a3), some (.int a4), some (.int a5), some (.int (nI n)), some (.int (nI m))] [] (s2, lm, hk_RH i0 i1 b, al) k := by
    intro q
    induction q with
    | zero =>
      intro m hm s2 h2
      have hc1 : s2 8 1 ≤ nI m := by rw [(hk_adc_tw h2 hw).2.1]; exact nI_le (by omega) (by omega)
      refine hk_hd (n := 1000) (t := 19) rfl ?_
      refine And.intro (fun _ => ?_) (fun hc => absurd hc1 hc)
      rw [show m = hk_co 8 by omega] at h2
      refine c_put_row (j := 0) ht hw hn h2 (by omega) fun s3 h3 => ?_
      refine c_put_row (j := 1) ht hw hn h3 (by omega) fun s4 h4 => ?_
      refine c_put_row (j := 2) ht hw hn h4 (by omega) fun s5 h5 => ?_
      refine c_put_row (j := 3) ht hw hn h5 (by omega) fun s6 h6 => ?_
      refine c_put_row (j := 4) ht hw hn h6 (by omega) fun s7 h7 => ?_
      exact fin s7 h7
    | succ q ih =>
      intro m hm s2 h2
      have hc1 : ¬ s2 8 1 ≤ nI m := by rw [(hk_adc_tw h2 hw).2.1]; exact hk_nlt (by omega) (by omega)
      refine hk_hd (n := 1000) (t := 19) rfl ?_
      refine And.intro (fun hc => absurd hc hc1) (fun _ => ?_)
      refine c_put_in ht (hk_adc_tw h2 hw) hn (j := m) (by omega) ?_
      have h3 := hk_adc_put (v := 0) h2 (j := m) (by omega) (Nat.le_refl m)
      rw [if_pos rfl] at h3
      refine hk_Rn_cast (by rw [← nI_1]; rfl) (ih (m + 1) (by omega) _ ⟨h3.1, fun z hz => ?_⟩)
      rw [h3.2 z hz]
      dsimp only
      split <;> rfl
  have h0 : hk_adc s s 8 n 0 (fun _ => 0) := ⟨fun _ _ _ => rfl, fun j hj => absurd hj (Nat.not_lt_zero j)⟩
  exact hk_Rn_cast (by rw [← hw.2.2.1]; rfl) (loop _ 0 (Nat.zero_add _) s h0)
theorem c_add_10 {a1 a2 a3 a4 a5 : Int32} (ht : hk_tb 10) (hw : hk_tw s 10 n) (hn : n < hk_mo 10) (h1 : ∀ s2, hk_add s s2 10 n [a1, a2, a3, a4, a5] → k (some (.int (nI n))) (s2, lm, hk_RH i0 i1 b, al)) : hk_Cl (d + 2) 3 [.ref 10, .int a1, .int a2, .int a3, .int a4, .int a5] (s, lm, hk_RH i0 i1 b, al) k := by
  have hco := hk_co2 ht
  have hmo := hk_mo31 ht
  have fin := hk_add_end hw h1
  refine hk_mth hk_m3 rfl rfl (n := 1000) ?_
  refine c_full ht (fun hc => absurd hc (by rw [hw.1, hw.2.2.1]; exact hk_nlt hn (by omega))) (fun _ => ?_)
  refine And.intro (fun _ => ?_) (fun hc => absurd (by decide) hc)
  have loop : ∀ (q m : Nat), m + q = hk_co 10 → ∀ s2, hk_adc s s2 10 n m (fun _ => 0) → hk_Rn (d + 1) none hk_c3 (hk_sfx 19 hk_c3) [some (.ref 10), some (.int a1), some (.int a2), some (.int a3), some (.int a4), some (.int a5), some (.int (nI n)), some (.int (nI m))] [] (s2, lm, hk_RH i0 i1 b, al) k := by
    intro q
    induction q with
    | zero =>
      intro m hm s2 h2
      have hc1 : s2 10 1 ≤ nI m := by rw [(hk_adc_tw h2 hw).2.1]; exact nI_le (by omega) (by omega)
      refine hk_hd (n := 1000) (t := 19) rfl ?_
      refine And.intro (fun _ => ?_) (fun hc => absurd hc1 hc)
      rw [show m = hk_co 10 by omega] at h2
      refine c_put_row (j := 0) ht hw hn h2 (by omega) fun s3 h3 => ?_
      refine c_put_row (j := 1) ht hw hn h3 (by omega) fun s4 h4 => ?_
      refine c_put_row (j := 2) ht hw hn h4 (by omega) fun s5 h5 => ?_
      refine c_put_row (j := 3) ht hw hn h5 (by omega) fun s6 h6 => ?_
      refine c_put_row (j := 4) ht hw hn h6 (by omega) fun s7 h7 => ?_
      exact fin s7 h7
    | succ q ih =>
      intro m hm s2 h2
      have hc1 : ¬ s2 10 1 ≤ nI m := by rw [(hk_adc_tw h2 hw).2.1]; exact hk_nlt (by omega) (by omega)
      refine hk_hd (n := 1000) (t := 19) rfl ?_
      refine And.intro (fun hc => absurd hc hc1) (fun _ => ?_)
      refine c_put_in ht (hk_adc_tw h2 hw) hn (j := m) (by omega) ?_
      have h3 := hk_adc_put (v := 0) h2 (j := m) (by omega) (Nat.le_refl m)
      rw [if_pos rfl] at h3
      refine hk_Rn_cast (by rw [← nI_1]; rfl) (ih (m + 1) (by omega) _ ⟨h3.1, fun z hz => ?_⟩)
      rw [h3.2 z hz]
      dsimp only
      split <;> rfl
  have h0 : hk_adc s s 10 n 0 (fun _ => 0) := ⟨fun _ _ _ => rfl, fun j hj => absurd hj (Nat.not_lt_zero j)⟩
  exact hk_Rn_cast (by rw [← hw.2.2.1]; rfl) (loop _ 0 (Nat.zero_add _) s h0)
theorem c_add_12 {a1 a2 a3 a4 a5 : Int32} (ht : hk_tb 12) (hw : hk_tw s 12 n) (hn : n < hk_mo 12) (h1 : ∀ s2, hk_add s s2 12 n [a1, a2, a3, a4, a5] → k (some (.int (nI n))) (s2, lm, hk_RH i0 i1 b, al)) : hk_Cl (d + 2) 3 [.ref 12, .int a1, .int a2, .int a3, .int a4, .int a5] (s, lm, hk_RH i0 i1 b, al) k := by
  have hco := hk_co2 ht
  have hmo := hk_mo31 ht
  have fin := hk_add_end hw h1
  refine hk_mth hk_m3 rfl rfl (n := 1000) ?_
  refine c_full ht (fun hc => absurd hc (by rw [hw.1, hw.2.2.1]; exact hk_nlt hn (by omega))) (fun _ => ?_)
  refine And.intro (fun _ => ?_) (fun hc => absurd (by decide) hc)
  have loop : ∀ (q m : Nat), m + q = hk_co 12 → ∀ s2, hk_adc s s2 12 n m (fun _ => 0) → hk_Rn (d + 1) none hk_c3 (hk_sfx 19 hk_c3) [some (.ref 12), some (.int a1), some (.int a2), some (.int a3), some (.int a4), some (.int a5), some (.int (nI n)), some (.int (nI m))] [] (s2, lm, hk_RH i0 i1 b, al) k := by
    intro q
    induction q with
    | zero =>
      intro m hm s2 h2
      have hc1 : s2 12 1 ≤ nI m := by rw [(hk_adc_tw h2 hw).2.1]; exact nI_le (by omega) (by omega)
      refine hk_hd (n := 1000) (t := 19) rfl ?_
      refine And.intro (fun _ => ?_) (fun hc => absurd hc1 hc)
      rw [show m = hk_co 12 by omega] at h2
      refine c_put_row (j := 0) ht hw hn h2 (by omega) fun s3 h3 => ?_
      refine c_put_row (j := 1) ht hw hn h3 (by omega) fun s4 h4 => ?_
      refine c_put_row (j := 2) ht hw hn h4 (by omega) fun s5 h5 => ?_
      refine c_put_row (j := 3) ht hw hn h5 (by omega) fun s6 h6 => ?_
      refine c_put_row (j := 4) ht hw hn h6 (by omega) fun s7 h7 => ?_
      exact fin s7 h7
    | succ q ih =>
      intro m hm s2 h2
      have hc1 : ¬ s2 12 1 ≤ nI m := by rw [(hk_adc_tw h2 hw).2.1]; exact hk_nlt (by omega) (by omega)
      refine hk_hd (n := 1000) (t := 19) rfl ?_
      refine And.intro (fun hc => absurd hc hc1) (fun _ => ?_)
      refine c_put_in ht (hk_adc_tw h2 hw) hn (j := m) (by omega) ?_
      have h3 := hk_adc_put (v := 0) h2 (j := m) (by omega) (Nat.le_refl m)
      rw [if_pos rfl] at h3
      refine hk_Rn_cast (by rw [← nI_1]; rfl) (ih (m + 1) (by omega) _ ⟨h3.1, fun z hz => ?_⟩)
      rw [h3.2 z hz]
      dsimp only
      split <;> rfl
  have h0 : hk_adc s s 12 n 0 (fun _ => 0) := ⟨fun _ _ _ => rfl, fun j hj => absurd hj (Nat.not_lt_zero j)⟩
  exact hk_Rn_cast (by rw [← hw.2.2.1]; rfl) (loop _ 0 (Nat.zero_add _) s h0)
theorem c_add_14 {a1 a2 a3 a4 a5 : Int32} (ht : hk_tb 14) (hw : hk_tw s 14 n) (hn : n < hk_mo 14) (h1 : ∀ s2, hk_add s s2 14 n [a1, a2, a3, a4, a5] → k (some (.int (nI n))) (s2, lm, hk_RH i0 i1 b, al)) : hk_Cl (d + 2) 3 [.ref 14, .int a1, .int a2, .int a3, .int a4, .int a5] (s, lm, hk_RH i0 i1 b, al) k := by
  have hco := hk_co2 ht
  have hmo := hk_mo31 ht
  have fin := hk_add_end hw h1
  refine hk_mth hk_m3 rfl rfl (n := 1000) ?_
  refine c_full ht (fun hc => absurd hc (by rw [hw.1, hw.2.2.1]; exact hk_nlt hn (by omega))) (fun _ => ?_)
  refine And.intro (fun _ => ?_) (fun hc => absurd (by decide) hc)
  have loop : ∀ (q m : Nat), m + q = hk_co 14 → ∀ s2, hk_adc s s2 14 n m (fun _ => 0) → hk_Rn (d + 1) none hk_c3 (hk_sfx 19 hk_c3) [some (.ref 14), some (.int a1), some (.int a2), some (.int a3), some (.int a4), some (.int a5), some (.int (nI n)), some (.int (nI m))] [] (s2, lm, hk_RH i0 i1 b, al) k := by
    intro q
    induction q with
    | zero =>
      intro m hm s2 h2
      have hc1 : s2 14 1 ≤ nI m := by rw [(hk_adc_tw h2 hw).2.1]; exact nI_le (by omega) (by omega)
      refine hk_hd (n := 1000) (t := 19) rfl ?_
      refine And.intro (fun _ => ?_) (fun hc => absurd hc1 hc)
      rw [show m = hk_co 14 by omega] at h2
      refine c_put_row (j := 0) ht hw hn h2 (by omega) fun s3 h3 => ?_
      refine c_put_row (j := 1) ht hw hn h3 (by omega) fun s4 h4 => ?_
      refine c_put_row (j := 2) ht hw hn h4 (by omega) fun s5 h5 => ?_
      refine c_put_row (j := 3) ht hw hn h5 (by omega) fun s6 h6 => ?_
      refine c_put_row (j := 4) ht hw hn h6 (by omega) fun s7 h7 => ?_
      exact fin s7 h7
    | succ q ih =>
      intro m hm s2 h2
      have hc1 : ¬ s2 14 1 ≤ nI m := by rw [(hk_adc_tw h2 hw).2.1]; exact hk_nlt (by omega) (by omega)
      refine hk_hd (n := 1000) (t := 19) rfl ?_
      refine And.intro (fun hc => absurd hc hc1) (fun _ => ?_)
      refine c_put_in ht (hk_adc_tw h2 hw) hn (j := m) (by omega) ?_
      have h3 := hk_adc_put (v := 0) h2 (j := m) (by omega) (Nat.le_refl m)
      rw [if_pos rfl] at h3
      refine hk_Rn_cast (by rw [← nI_1]; rfl) (ih (m + 1) (by omega) _ ⟨h3.1, fun z hz => ?_⟩)
      rw [h3.2 z hz]
      dsimp only
      split <;> rfl
  have h0 : hk_adc s s 14 n 0 (fun _ => 0) := ⟨fun _ _ _ => rfl, fun j hj => absurd hj (Nat.not_lt_zero j)⟩
  exact hk_Rn_cast (by rw [← hw.2.2.1]; rfl) (loop _ 0 (Nat.zero_add _) s h0)
theorem c_add_16 {a1 a2 a3 a4 a5 : Int32} (ht : hk_tb 16) (hw : hk_tw s 16 n) (hn : n < hk_mo 16) (h1 : ∀ s2, hk_add s s2 16 n [a1, a2, a3, a4, a5] → k (some (.int (nI n))) (s2, lm, hk_RH i0 i1 b, al)) : hk_Cl (d + 2) 3 [.ref 16, .int a1, .int a2, .int a3, .int a4, .int a5] (s, lm, hk_RH i0 i1 b, al) k := by
  have hco := hk_co2 ht
  have hmo := hk_mo31 ht
  have fin := hk_add_end hw h1
  refine hk_mth hk_m3 rfl rfl (n := 1000) ?_
  refine c_full ht (fun hc => absurd hc (by rw [hw.1, hw.2.2.1]; exact hk_nlt hn (by omega))) (fun _ => ?_)
  refine And.intro (fun _ => ?_) (fun hc => absurd (by decide) hc)
  have loop : ∀ (q m : Nat), m + q = hk_co 16 → ∀ s2, hk_adc s s2 16 n m (fun _ => 0) → hk_Rn (d + 1) none hk_c3 (hk_sfx 19 hk_c3) [some (.ref 16), some (.int a1), some (.int a2), some (.int a3), some (.int a4), some (.int a5), some (.int (nI n)), some (.int (nI m))] [] (s2, lm, hk_RH i0 i1 b, al) k := by
    intro q
    induction q with
    | zero =>
      intro m hm s2 h2
      have hc1 : s2 16 1 ≤ nI m := by rw [(hk_adc_tw h2 hw).2.1]; exact nI_le (by omega) (by omega)
      refine hk_hd (n := 1000) (t := 19) rfl ?_
      refine And.intro (fun _ => ?_) (fun hc => absurd hc1 hc)
      rw [show m = hk_co 16 by omega] at h2
      refine c_put_row (j := 0) ht hw hn h2 (by omega) fun s3 h3 => ?_
      refine c_put_row (j := 1) ht hw hn h3 (by omega) fun s4 h4 => ?_
      refine c_put_row (j := 2) ht hw hn h4 (by omega) fun s5 h5 => ?_
      refine c_put_row (j := 3) ht hw hn h5 (by omega) fun s6 h6 => ?_
      refine c_put_row (j := 4) ht hw hn h6 (by omega) fun s7 h7 => ?_
      exact fin s7 h7
    | succ q ih =>
      intro m hm s2 h2
      have hc1 : ¬ s2 16 1 ≤ nI m := by rw [(hk_adc_tw h2 hw).2.1]; exact hk_nlt (by omega) (by omega)
      refine hk_hd (n := 1000) (t := 19) rfl ?_
      refine And.intro (fun hc => absurd hc hc1) (fun _ => ?_)
      refine c_put_in ht (hk_adc_tw h2 hw) hn (j := m) (by omega) ?_
      have h3 := hk_adc_put (v := 0) h2 (j := m) (by omega) (Nat.le_refl m)
      rw [if_pos rfl] at h3
      refine hk_Rn_cast (by rw [← nI_1]; rfl) (ih (m + 1) (by omega) _ ⟨h3.1, fun z hz => ?_⟩)
      rw [h3.2 z hz]
      dsimp only
      split <;> rfl
  have h0 : hk_adc s s 16 n 0 (fun _ => 0) := ⟨fun _ _ _ => rfl, fun j hj => absurd hj (Nat.not_lt_zero j)⟩
  exact hk_Rn_cast (by rw [← hw.2.2.1]; rfl) (loop _ 0 (Nat.zero_add _) s h0)
theorem c_add_18 {a1 a2 a3 a4 a5 : Int32} (ht : hk_tb 18) (hw : hk_tw s 18 n) (hn : n < hk_mo 18) (h1 : ∀ s2, hk_add s s2 18 n [a1, a2, a3, a4, a5] → k (some (.int (nI n))) (s2, lm, hk_RH i0 i1 b, al)) : hk_Cl (d + 2) 3 [.ref 18, .int a1, .int a2, .int a3, .int a4, .int a5] (s, lm, hk_RH i0 i1 b, al) k := by
  have hco := hk_co2 ht
  have hmo := hk_mo31 ht
  have fin := hk_add_end hw h1
  refine hk_mth hk_m3 rfl rfl (n := 1000) ?_
  refine c_full ht (fun hc => absurd hc (by rw [hw.1, hw.2.2.1]; exact hk_nlt hn (by omega))) (fun _ => ?_)
  refine And.intro (fun _ => ?_) (fun hc => absurd (by decide) hc)
  have loop : ∀ (q m : Nat), m + q = hk_co 18 → ∀ s2, hk_adc s s2 18 n m (fun _ => 0) → hk_Rn (d + 1) none hk_c3 (hk_sfx 19 hk_c3) [some (.ref 18), some (.int a1), some (.int a2), some (.int a3), some (.int a4), some (.int a5), some (.int (nI n)), some (.int (nI m))] [] (s2, lm, hk_RH i0 i1 b, al) k := by
    intro q
    induction q with
    | zero =>
      intro m hm s2 h2
      have hc1 : s2 18 1 ≤ nI m := by rw [(hk_adc_tw h2 hw).2.1]; exact nI_le (by omega) (by omega)
      refine hk_hd (n := 1000) (t := 19) rfl ?_
      refine And.intro (fun _ => ?_) (fun hc => absurd hc1 hc)
      rw [show m = hk_co 18 by omega] at h2
      refine c_put_row (j := 0) ht hw hn h2 (by omega) fun s3 h3 => ?_
      refine c_put_row (j := 1) ht hw hn h3 (by omega) fun s4 h4 => ?_
      refine c_put_row (j := 2) ht hw hn h4 (by omega) fun s5 h5 => ?_
      refine c_put_row (j := 3) ht hw hn h5 (by omega) fun s6 h6 => ?_
      refine c_put_row (j := 4) ht hw hn h6 (by omega) fun s7 h7 => ?_
      exact fin s7 h7
    | succ q ih =>
      intro m hm s2 h2
      have hc1 : ¬ s2 18 1 ≤ nI m := by rw [(hk_adc_tw h2 hw).2.1]; exact hk_nlt (by omega) (by omega)
      refine hk_hd (n := 1000) (t := 19) rfl ?_
      refine And.intro (fun hc => absurd hc hc1) (fun _ => ?_)
      refine c_put_in ht (hk_adc_tw h2 hw) hn (j := m) (by omega) ?_
      have h3 := hk_adc_put (v := 0) h2 (j := m) (by omega) (Nat.le_refl m)
      rw [if_pos rfl] at h3
      refine hk_Rn_cast (by rw [← nI_1]; rfl) (ih (m + 1) (by omega) _ ⟨h3.1, fun z hz => ?_⟩)
      rw [h3.2 z hz]
      dsimp only
      split <;> rfl
  have h0 : hk_adc s s 18 n 0 (fun _ => 0) := ⟨fun _ _ _ => rfl, fun j hj => absurd hj (Nat.not_lt_zero j)⟩
  exact hk_Rn_cast (by rw [← hw.2.2.1]; rfl) (loop _ 0 (Nat.zero_add _) s h0)
theorem c_add {a1 a2 a3 a4 a5 : Int32} (ht : hk_tb t) (hw : hk_tw s t n) (hn : n < hk_mo t) (h1 : ∀ s2, hk_add s s2 t n [a1, a2, a3, a4, a5] → k (some (.int (nI n))) (s2, lm, hk_RH i0 i1 b, al)) : hk_Cl (d + 2) 3 [.ref t, .int a1, .int a2, .int a3, .int a4, .int a5] (s, lm, hk_RH i0 i1 b, al) k := by
  have ht2 := ht
  rcases ht with rfl | rfl | rfl | rfl | rfl | rfl | rfl | rfl | rfl
  · exact c_add_2 ht2 hw hn h1
  · exact c_add_4 ht2 hw hn h1
  · exact c_add_6 ht2 hw hn h1
  · exact c_add_8 ht2 hw hn h1
  · exact c_add_10 ht2 hw hn h1
  · exact c_add_12 ht2 hw hn h1
  · exact c_add_14 ht2 hw hn h1
  · exact c_add_16 ht2 hw hn h1
  · exact c_add_18 ht2 hw hn h1
end HKT
