/-! ===== the reference ends on a row in order ===== -/
/-- hands' and works' numbers are as told -/
def hk_RZ (f : Nat → Int32) : Prop := (∀ n, n ≤ 8 → f 5 = nI n → ∀ i, i < n → ∃ t m, t ≤ 31 ∧ 1 ≤ m ∧ m ≤ 60 ∧ f (1808 + 2 * i) = nI t ∧ f (1808 + 2 * i + 1) = nI m) ∧ (∀ n, n ≤ 8 → f 6 = nI n → ∀ i, i < n → ∃ t m w, t ≤ 4 ∧ 1 ≤ m ∧ m ≤ 100 ∧ 1 ≤ w ∧ w ≤ 100 ∧ f (1824 + 3 * i) = nI t ∧ f (1824 + 3 * i + 1) = nI m ∧ f (1824 + 3 * i + 2) = nI w) ∧ ∀ q, 1422 ≤ q → q < 1666 → ¬ f q = -1
theorem hk_RZ_e {f g : Nat → Int32} (h : hk_RZ f) (e : ∀ q, q = 5 ∨ q = 6 ∨ 1808 ≤ q ∧ q < 1848 ∨ 1422 ≤ q ∧ q < 1666 → g q = f q) : hk_RZ g := by
  refine ⟨fun n hn en i hi => ?_, fun n hn en i hi => ?_, fun q q1 q2 => by rw [e q (by omega)]; exact h.2.2 q q1 q2⟩
  · rw [e 5 (by omega)] at en
    rw [e (1808 + 2 * i) (by omega), e (1808 + 2 * i + 1) (by omega)]
    exact h.1 n hn en i hi
  · rw [e 6 (by omega)] at en
    rw [e (1824 + 3 * i) (by omega), e (1824 + 3 * i + 1) (by omega), e (1824 + 3 * i + 2) (by omega)]
    exact h.2.1 n hn en i hi
theorem hk_nm1 {i : Nat} (hi : i < 2 ^ 31) : ¬ nI i = -1 := fun q => nI_pos hi (by rw [q]; decide)
/-- a text changes -/
theorem hk_RZ_t {f g : Nat → Int32} (h : hk_RZ f) (hx : ∀ q, 1422 ≤ q → q < 1666 → ¬ g q = -1) (e : ∀ q, q = 5 ∨ q = 6 ∨ 1808 ≤ q ∧ q < 1848 → g q = f q) : hk_RZ g := by
  refine ⟨fun n hn en i hi => ?_, fun n hn en i hi => ?_, hx⟩
  · rw [e 5 (by omega)] at en
    rw [e (1808 + 2 * i) (by omega), e (1808 + 2 * i + 1) (by omega)]
    exact h.1 n hn en i hi
  · rw [e 6 (by omega)] at en
    rw [e (1824 + 3 * i) (by omega), e (1824 + 3 * i + 1) (by omega), e (1824 + 3 * i + 2) (by omega)]
    exact h.2.1 n hn en i hi
/-- ranges of wears, ships and plates -/
def hk_RP (f : Nat → Int32) : Prop := (∀ z, z < 3 → ∃ m, m ≤ 50 ∧ f (12 + z) = nI m) ∧ (∀ n, n ≤ 6 → f 0 = nI n → ∀ i, i < n → (∃ m, 1 ≤ m ∧ m ≤ 1000 ∧ f (20 + 10 * i) = nI m) ∧ (f (20 + 10 * i + 6) = 0 ∨ f (20 + 10 * i + 6) = 1) ∧ ∃ m, m ≤ 96000 ∧ f (20 + 10 * i + 7) = nI m) ∧ ∀ n, n ≤ 96 → f 1 = nI n → ∀ p, p < n → (∃ m, m ≤ 5000 ∧ f (80 + 6 * p + 2) = nI m) ∧ ∃ m, m ≤ 1000 ∧ f (80 + 6 * p + 3) = nI m
theorem hk_RP_e {f g : Nat → Int32} (h : hk_RP f) (e : ∀ q, q = 0 ∨ q = 1 ∨ 12 ≤ q ∧ q < 15 ∨ (20 ≤ q ∧ q < 80 ∧ (q % 10 = 0 ∨ q % 10 = 6 ∨ q % 10 = 7)) ∨ (80 ≤ q ∧ q < 656 ∧ (q % 6 = 4 ∨ q % 6 = 5)) → g q = f q) : hk_RP g := by
  refine ⟨fun z hz => ?_, fun n hn en i hi => ?_, fun n hn en p hp => ?_⟩
  · rw [e (12 + z) (by omega)]
    exact h.1 z hz
  · rw [e 0 (by omega)] at en
    rw [e (20 + 10 * i) (by omega), e (20 + 10 * i + 6) (by omega), e (20 + 10 * i + 7) (by omega)]
    exact h.2.1 n hn en i hi
  · rw [e 1 (by omega)] at en
    rw [e (80 + 6 * p + 2) (by omega), e (80 + 6 * p + 3) (by omega)]
    exact h.2.2 n hn en p hp
theorem hk_RP_u {f : Nat → Int32} {q : Nat} {v : Int32} (h : hk_RP f) (h0 : q ≠ 0 ∧ q ≠ 1 ∧ ¬ (20 ≤ q ∧ q < 80 ∧ q % 10 = 0)) (h1 : 12 ≤ q → q < 15 → ∃ m, m ≤ 50 ∧ v = nI m) (h2 : 20 ≤ q → q < 80 → q % 10 = 6 → v = 0 ∨ v = 1) (h3 : 20 ≤ q → q < 80 → q % 10 = 7 → ∃ m, m ≤ 96000 ∧ v = nI m) (h4 : 80 ≤ q → q < 656 → q % 6 = 4 → ∃ m, m ≤ 5000 ∧ v = nI m) (h5 : 80 ≤ q → q < 656 → q % 6 = 5 → ∃ m, m ≤ 1000 ∧ v = nI m) : hk_RP (fun j => if j = q then v else f j) := by
  have q0 : ¬ (0 : Nat) = q := fun e => h0.1 e.symm
  have q1 : ¬ (1 : Nat) = q := fun e => h0.2.1 e.symm
  have qa : ∀ i, i < 6 → ¬ 20 + 10 * i = q := fun i hi e => h0.2.2 (by clear h1 h2 h3 h4 h5 h; omega)
  refine ⟨fun z hz => ?_, fun n hn en i hi => ?_, fun n hn en p hp => ?_⟩
  · dsimp only
    by_cases c : 12 + z = q
    · rw [if_pos c]
      exact h1 (by omega) (by omega)
    · rw [if_neg c]
      exact h.1 z hz
  · dsimp only at en ⊢
    rw [if_neg q0] at en
    obtain ⟨a1, a2, a3⟩ := h.2.1 n hn en i hi
    rw [if_neg (qa i (Nat.lt_of_lt_of_le hi hn))]
    refine ⟨a1, ?_, ?_⟩
    · by_cases c : 20 + 10 * i + 6 = q
      · rw [if_pos c]
        clear a1 a2 a3
        exact h2 (by omega) (by omega) (by omega)
      · rw [if_neg c]
        exact a2
    · by_cases c : 20 + 10 * i + 7 = q
      · rw [if_pos c]
        clear a1 a2 a3
        exact h3 (by omega) (by omega) (by omega)
      · rw [if_neg c]
        exact a3
  · dsimp only at en ⊢
    rw [if_neg q1] at en
    obtain ⟨a1, a2⟩ := h.2.2 n hn en p hp
    refine ⟨?_, ?_⟩
    · by_cases c : 80 + 6 * p + 2 = q
      · rw [if_pos c]
        clear a1 a2
        exact h4 (by omega) (by omega) (by omega)
      · rw [if_neg c]
        exact a1
    · by_cases c : 80 + 6 * p + 3 = q
      · rw [if_pos c]
        clear a1 a2
        exact h5 (by omega) (by omega) (by omega)
      · rw [if_neg c]
        exact a2
/-- a row in order: a ships, b plates, r readings -/
def hk_RI (f : Nat → Int32) (a b r : Nat) : Prop := (a ≤ 6 ∧ b ≤ 96 ∧ r ≤ 150) ∧ (f 0 = nI a ∧ f 1 = nI b ∧ f 2 = nI r) ∧ (∀ i, i < a → ¬ f (20 + 10 * i) = 0) ∧ (∀ i, i < a → f (20 + 10 * i + 8) = -1 ∨ ∃ j, j < 4 ∧ f (20 + 10 * i + 8) = nI j) ∧ (∀ p, p < b → (∃ i, i < a ∧ f (80 + 6 * p) = nI i) ∧ ∃ z, z < 3 ∧ f (80 + 6 * p + 1) = nI z) ∧ (∀ j, j < r → (∃ p, p < b ∧ f (660 + 5 * j) = nI p) ∧ (∃ m, m < 600 ∧ f (660 + 5 * j + 1) = nI m) ∧ ∃ g, g < 4 ∧ f (660 + 5 * j + 2) = nI g) ∧ (∃ q, q < 600 ∧ f 7 = nI q) ∧ (∀ t, t < 4 → ∃ m, m ≤ 60 ∧ f (1422 + 61 * t) = nI m) ∧ (∃ h, h ≤ 4 ∧ f 3 = nI h ∧ ∀ i, i < h → ∃ x y z, x ≤ 10 ∧ 1 ≤ y ∧ y ≤ 10 ∧ z ≤ 1000 ∧ f (1666 + 3 * i) = nI x ∧ f (1666 + 3 * i + 1) = nI y ∧ f (1666 + 3 * i + 2) = nI z) ∧ (∃ h, h ≤ 20 ∧ f 4 = nI h) ∧ (∃ h, h ≤ 8 ∧ f 5 = nI h) ∧ (∃ h, h ≤ 8 ∧ f 6 = nI h ∧ hk_RZ f) ∧ (∃ x, x ≤ 3 ∧ f 10 = nI x ∧ hk_RP f) ∧ (∃ x, x ≤ 1000 ∧ f 11 = nI x)
/-- cells that hard calls leave alone -/
def hk_ez (q : Nat) : Prop := q < 2448 ∧ ¬ (660 ≤ q ∧ q < 1410) ∧ q ≠ 2
def hk_Gm (s s2 : Nat → Nat → Int32) : Prop := (∀ p q, p < 40 ∨ 51 ≤ p ∨ p = 42 ∨ p = 43 ∨ p = 44 → s2 p q = s p q) ∧ ∀ q, hk_ez q → s2 41 q = s 41 q
theorem hk_Gm_r (s : Nat → Nat → Int32) : hk_Gm s s := ⟨fun _ _ _ => rfl, fun _ _ => rfl⟩
section HKB1
variable {d n a bb r : Nat} {v w x y z : Int32} {s : Nat → Nat → Int32} {lm : Nat → Nat → Int64} {i0 i1 b : Nat} {al : List Nat} {k : Option Value → hk_H → Prop}
theorem m_shipOf {i c : Nat} (h : 20 + 10 * i + c < 2448) (h1 : k (some (.int (s 41 (20 + 10 * i + c)))) (s, lm, hk_RH i0 i1 b, al)) : hk_Cl (d + 1) 142 [.ref 40, .int (nI i), .int (nI c)] (s, lm, hk_RH i0 i1 b, al) k := by
  refine hk_mth hk_m142 rfl rfl (n := 1000) ?_
  refine hk_ldi (i := 20 + 10 * nI i + nI c) (j := 20 + 10 * i + c) (by simp only [hk_lit, pk_mul, nI_add]) (by omega) (by decide) rfl ?_
  exact h1
theorem m_plateOf {i c : Nat} (h : 80 + 6 * i + c < 2448) (h1 : k (some (.int (s 41 (80 + 6 * i + c)))) (s, lm, hk_RH i0 i1 b, al)) : hk_Cl (d + 1) 141 [.ref 40, .int (nI i), .int (nI c)] (s, lm, hk_RH i0 i1 b, al) k := by
  refine hk_mth hk_m141 rfl rfl (n := 1000) ?_
  refine hk_ldi (i := 80 + 6 * nI i + nI c) (j := 80 + 6 * i + c) (by simp only [hk_lit, pk_mul, nI_add]) (by omega) (by decide) rfl ?_
  exact h1
theorem m_isn {c N : Nat} (hc : c < 7) (hs : s 41 c = nI N) (hn : N < 2 ^ 30) (h0 : k (some (.int 0)) (s, lm, hk_RH i0 i1 b, al)) (h1 : ∀ j, v = nI j → j < N → k (some (.int 1)) (s, lm, hk_RH i0 i1 b, al)) : hk_Cl (d + 2) 139 [.ref 40, .int (nI c), .int v] (s, lm, hk_RH i0 i1 b, al) k := m_is hc hs hn h1 (fun _ => h0)
theorem m_isMonth (h0 : k (some (.int 0)) (s, lm, hk_RH i0 i1 b, al)) (h1 : ∀ j, v = nI j → j < 600 → k (some (.int 1)) (s, lm, hk_RH i0 i1 b, al)) : hk_Cl (d + 2) 179 [.int v] (s, lm, hk_RH i0 i1 b, al) k := by
  refine hk_mth hk_m179 rfl rfl (n := 1000) ?_
  refine m_in (fun (p : ¬ v < 0) (q : ¬ 599 < v) => ?_) (fun _ => ?_)
  · obtain ⟨j, hj, e⟩ := hk_rng (n := 599) (by decide) p q
    exact And.intro (Or.inr rfl) (h1 j e (by omega))
  · exact And.intro (Or.inl rfl) h0
theorem m_leakOf {i : Nat} (hi : i < 96) (h1 : ∀ u, k (some (.int u)) (s, lm, hk_RH i0 i1 b, al)) : hk_Cl (d + 2) 153 [.ref 40, .int (nI i)] (s, lm, hk_RH i0 i1 b, al) k := by
  refine hk_mth hk_m153 rfl rfl (n := 1000) ?_
  refine hk_ldi (i := nI 8) (j := 8) (by simp only [hk_lit, pk_mul, nI_add]) (by omega) (by decide) rfl ?_
  refine m_plateOf (c := 2) (by omega) ?_
  refine And.intro (fun c1 => ?_) (fun c1 => ?_)
  · exact h1 _
  refine m_plateOf (c := 1) (by omega) ?_
  refine And.intro (fun c2 => ?_) (fun c2 => ?_)
  · refine m_plateOf (c := 1) (by omega) ?_
    refine And.intro (fun c3 => ?_) (fun c3 => ?_)
    · exact h1 _
    · exact h1 _
  · exact h1 _
theorem m_leaksOf (hb : s 41 1 = nI bb) (hb2 : bb ≤ 96) (h1 : ∀ u, k (some (.int u)) (s, lm, hk_RH i0 i1 b, al)) : hk_Cl (d + 3) 152 [.ref 40, .int v] (s, lm, hk_RH i0 i1 b, al) k := by
  have loop : ∀ (q j : Nat) (e : Int32), j + q = bb → hk_Rn (d + 2) none hk_c152 (hk_sfx 4 hk_c152) [some (.ref 40), some (.int v), some (.int e), some (.int (nI j))] [] (s, lm, hk_RH i0 i1 b, al) k := by
    intro q
    induction q with
    | zero =>
      intro j e hj
      have e1 : j = bb := by omega
      subst e1
      refine hk_hd (n := 1000) (t := 4) rfl ?_
      refine hk_ldi (i := nI 1) (j := 1) (by simp only [hk_lit, pk_mul, nI_add]) (by omega) (by decide) hb ?_
      refine And.intro (fun _ => ?_) (fun hc => absurd (Int32.le_refl _) hc)
      exact h1 _
    | succ q ih =>
      intro j e hj
      have a1 : ¬ nI bb ≤ nI j := hk_nlt (by omega) (by omega)
      refine hk_hd (n := 1000) (t := 4) rfl ?_
      refine hk_ldi (i := nI 1) (j := 1) (by simp only [hk_lit, pk_mul, nI_add]) (by omega) (by decide) hb ?_
      refine And.intro (fun hc => absurd hc a1) (fun _ => ?_)
      refine m_plateOf (c := 0) (by omega) ?_
      refine And.intro (fun c1 => ?_) (fun c1 => ?_)
      · exact hk_Rn_cast (by rw [← nI_1 j]; rfl) (ih (j + 1) _ (by omega))
      refine m_leakOf (by omega) (fun u => ?_)
      exact hk_Rn_cast (by rw [← nI_1 j]; rfl) (ih (j + 1) _ (by omega))
  refine hk_mth hk_m152 rfl rfl (n := 1000) ?_
  exact loop bb 0 0 (by omega)
theorem m_platesOf (hb : s 41 1 = nI bb) (hb2 : bb ≤ 96) (h1 : ∀ u, k (some (.int u)) (s, lm, hk_RH i0 i1 b, al)) : hk_Cl (d + 2) 157 [.ref 40, .int v] (s, lm, hk_RH i0 i1 b, al) k := by
  have loop : ∀ (q j : Nat) (e : Int32), j + q = bb → hk_Rn (d + 1) none hk_c157 (hk_sfx 4 hk_c157) [some (.ref 40), some (.int v), some (.int e), some (.int (nI j))] [] (s, lm, hk_RH i0 i1 b, al) k := by
    intro q
    induction q with
    | zero =>
      intro j e hj
      have e1 : j = bb := by omega
      subst e1
      refine hk_hd (n := 1000) (t := 4) rfl ?_
      refine hk_ldi (i := nI 1) (j := 1) (by simp only [hk_lit, pk_mul, nI_add]) (by omega) (by decide) hb ?_
      refine And.intro (fun _ => ?_) (fun hc => absurd (Int32.le_refl _) hc)
      exact h1 _
    | succ q ih =>
      intro j e hj
      have a1 : ¬ nI bb ≤ nI j := hk_nlt (by omega) (by omega)
      refine hk_hd (n := 1000) (t := 4) rfl ?_
      refine hk_ldi (i := nI 1) (j := 1) (by simp only [hk_lit, pk_mul, nI_add]) (by omega) (by decide) hb ?_
      refine And.intro (fun hc => absurd hc a1) (fun _ => ?_)
      refine m_plateOf (c := 0) (by omega) ?_
      refine And.intro (fun c1 => ?_) (fun c1 => ?_)
      · exact hk_Rn_cast (by rw [← nI_1 j]; rfl) (ih (j + 1) _ (by omega))
      · exact hk_Rn_cast (by rw [← nI_1 j]; rfl) (ih (j + 1) _ (by omega))
  refine hk_mth hk_m157 rfl rfl (n := 1000) ?_
  exact loop bb 0 0 (by omega)
theorem m_firstStuff (hb : s 41 1 = nI bb) (hb2 : bb ≤ 96) {i : Nat} (hi : i < 6) (h1 : ∀ u, k (some (.int u)) (s, lm, hk_RH i0 i1 b, al)) : hk_Cl (d + 2) 158 [.ref 40, .int (nI i)] (s, lm, hk_RH i0 i1 b, al) k := by
  refine hk_mth hk_m158 rfl rfl (n := 1000) ?_
  refine m_shipOf (c := 7) (by omega) ?_
  refine And.intro (fun c0 => ?_) (fun c0 => ?_)
  rotate_left
  · exact h1 _
  have c0 : ¬ s 41 (20 + 10 * i + 7) = 0 := c0
  have loop : ∀ (q j : Nat) (e : Int32), j + q = bb → hk_Rn (d + 1) none hk_c158 (hk_sfx 16 hk_c158) [some (.ref 40), some (.int (nI i)), some (.int e), some (.int (nI j))] [] (s, lm, hk_RH i0 i1 b, al) k := by
    intro q
    induction q with
    | zero =>
      intro j e hj
      have e1 : j = bb := by omega
      subst e1
      refine hk_hd (n := 1000) (t := 16) rfl ?_
      refine hk_ldi (i := nI 1) (j := 1) (by simp only [hk_lit, pk_mul, nI_add]) (by omega) (by decide) hb ?_
      refine And.intro (fun _ => ?_) (fun hc => absurd (Int32.le_refl _) hc)
      refine m_shipOf (c := 7) (by omega) ?_
      refine And.intro c0 ?_
      exact h1 _
    | succ q ih =>
      intro j e hj
      have a1 : ¬ nI bb ≤ nI j := hk_nlt (by omega) (by omega)
      refine hk_hd (n := 1000) (t := 16) rfl ?_
      refine hk_ldi (i := nI 1) (j := 1) (by simp only [hk_lit, pk_mul, nI_add]) (by omega) (by decide) hb ?_
      refine And.intro (fun hc => absurd hc a1) (fun _ => ?_)
      refine m_plateOf (c := 0) (by omega) ?_
      refine And.intro (fun c1 => ?_) (fun c1 => ?_)
      · exact hk_Rn_cast (by rw [← nI_1 j]; rfl) (ih (j + 1) _ (by omega))
      refine m_plateOf (c := 5) (by omega) ?_
      refine And.intro (fun c2 => ?_) (fun c2 => ?_)
      · exact hk_Rn_cast (by rw [← nI_1 j]; rfl) (ih (j + 1) _ (by omega))
      refine m_plateOf (c := 3) (by omega) ?_
      exact hk_Rn_cast (by rw [← nI_1 j]; rfl) (ih (j + 1) _ (by omega))
  exact loop bb 0 0 (by omega)
theorem m_lies {i : Nat} (hi : i < 6) (h0 : ¬ s 41 (20 + 10 * i) = 0) (h1 : ∀ u, k (some (.int u)) (s, lm, hk_RH i0 i1 b, al)) : hk_Cl (d + 2) 154 [.ref 40, .int (nI i)] (s, lm, hk_RH i0 i1 b, al) k := by
  refine hk_mth hk_m154 rfl rfl (n := 1000) ?_
  refine m_shipOf (c := 2) (by omega) ?_
  refine m_shipOf (c := 5) (by omega) ?_
  refine m_shipOf (c := 4) (by omega) ?_
  refine m_shipOf (c := 0) (by omega) ?_
  refine And.intro h0 ?_
  exact h1 _
theorem m_shipTold (h : hk_RI (s 41) a bb r) {i : Nat} (hi : i < a) (h1 : ∀ u, k (some (.int u)) (s, lm, hk_RH i0 i1 b, al)) : hk_Cl (d + 4) 156 [.ref 40, .int (nI i), .int v] (s, lm, hk_RH i0 i1 b, al) k := by
  have ha := h.1.1
  refine hk_mth hk_m156 rfl rfl (n := 1000) ?_
  refine And.intro (fun c0 => ?_) (fun c0 => ?_)
  · exact m_shipOf (c := 5) (by omega) (h1 _)
  refine And.intro (fun c0 => ?_) (fun c0 => ?_)
  · exact m_lies (by omega) (h.2.2.1 i hi) h1
  refine And.intro (fun c0 => ?_) (fun c0 => ?_)
  · exact m_shipOf (c := 6) (by omega) (h1 _)
  refine And.intro (fun c0 => ?_) (fun c0 => ?_)
  · exact m_platesOf h.2.1.2.1 h.1.2.1 h1
  refine And.intro (fun c0 => ?_) (fun c0 => ?_)
  · exact m_firstStuff h.2.1.2.1 h.1.2.1 (by omega) h1
  refine And.intro (fun c0 => ?_) (fun c0 => ?_)
  · exact m_leaksOf h.2.1.2.1 h.1.2.1 h1
  exact m_shipOf (c := 8) (by omega) (h1 _)
theorem m_latest (hr : s 41 2 = nI r) (hr2 : r ≤ 150) (h1 : ∀ u, (u = -1 ∨ ∃ j, j < r ∧ u = nI j) → k (some (.int u)) (s, lm, hk_RH i0 i1 b, al)) : hk_Cl (d + 1) 180 [.ref 40, .int v, .int w, .int x] (s, lm, hk_RH i0 i1 b, al) k := by
  have loop : ∀ (q j : Nat) (u : Int32) (l6 l7 : Option Value), j + q = r → (u = -1 ∨ ∃ j, j < r ∧ u = nI j) → hk_Rn d none hk_c180 (hk_sfx 6 hk_c180) [some (.ref 40), some (.int v), some (.int w), some (.int x), some (.int u), some (.int (nI j)), l6, l7] [] (s, lm, hk_RH i0 i1 b, al) k := by
    intro q
    induction q with
    | zero =>
      intro j u l6 l7 hj hu
      have e1 : j = r := by omega
      subst e1
      refine hk_hd (n := 1000) (t := 6) rfl ?_
      refine hk_ldi (i := nI 2) (j := 2) (by simp only [hk_lit, pk_mul, nI_add]) (by omega) (by decide) hr ?_
      refine And.intro (fun _ => ?_) (fun hc => absurd (Int32.le_refl _) hc)
      exact h1 u hu
    | succ q ih =>
      intro j u l6 l7 hj hu
      have a1 : ¬ nI r ≤ nI j := hk_nlt (by omega) (by omega)
      have nx : ∀ (u : Int32) (v6 v7 : Int32), (u = -1 ∨ ∃ j, j < r ∧ u = nI j) → hk_Rn d none hk_c180 (hk_sfx 6 hk_c180) [some (.ref 40), some (.int v), some (.int w), some (.int x), some (.int u), some (.int (nI j + 1)), some (.int v6), some (.int v7)] [] (s, lm, hk_RH i0 i1 b, al) k := fun u v6 v7 hu => hk_Rn_cast (by rw [nI_1]) (ih (j + 1) u _ _ (by omega) hu)
      refine hk_hd (n := 1000) (t := 6) rfl ?_
      refine hk_ldi (i := nI 2) (j := 2) (by simp only [hk_lit, pk_mul, nI_add]) (by omega) (by decide) hr ?_
      refine And.intro (fun hc => absurd hc a1) (fun _ => ?_)
      refine hk_ldi (i := 660 + 5 * nI j) (j := 660 + 5 * j) (by simp only [hk_lit, pk_mul, nI_add]) (by omega) (by decide) rfl ?_
      refine And.intro (fun c1 => ?_) (fun c1 => ?_)
      · refine And.intro (fun _ => ?_) (fun hc => absurd (by decide) hc)
        exact nx _ _ _ hu
      refine hk_ldi (i := 660 + 5 * nI j + 1) (j := 660 + 5 * j + 1) (by simp only [hk_lit, pk_mul, nI_add]) (by omega) (by decide) rfl ?_
      refine And.intro (fun c1 => ?_) (fun c1 => ?_)
      · refine And.intro (fun _ => ?_) (fun hc => absurd (by decide) hc)
        exact nx _ _ _ hu
      refine hk_ldi (i := 660 + 5 * nI j + 4) (j := 660 + 5 * j + 4) (by simp only [hk_lit, pk_mul, nI_add]) (by omega) (by decide) rfl ?_
      refine And.intro (fun c1 => ?_) (fun c1 => ?_)
      · refine And.intro (fun _ => ?_) (fun hc => absurd (by decide) hc)
        exact nx _ _ _ hu
      refine And.intro (fun hc => absurd hc (by decide)) (fun _ => ?_)
      refine And.intro (fun c2 => ?_) (fun c2 => ?_)
      · exact nx _ _ _ (Or.inr ⟨j, by omega, rfl⟩)
      obtain ⟨i, hi, e⟩ := hu.elim (fun e => absurd e c2) id
      subst e
      refine hk_ldi (i := 660 + 5 * nI j + 1) (j := 660 + 5 * j + 1) (by simp only [hk_lit, pk_mul, nI_add]) (by omega) (by decide) rfl ?_
      refine hk_ldi (i := 660 + 5 * nI i + 1) (j := 660 + 5 * i + 1) (by simp only [hk_lit, pk_mul, nI_add]) (by omega) (by decide) rfl ?_
      refine And.intro (fun c3 => ?_) (fun c3 => ?_)
      · exact nx _ _ _ (Or.inr ⟨i, hi, rfl⟩)
      · exact nx _ _ _ (Or.inr ⟨j, by omega, rfl⟩)
  refine hk_mth hk_m180 rfl rfl (n := 1000) ?_
  exact loop r 0 (-1) none none (by omega) (Or.inl rfl)
theorem m_leant (h : hk_RI (s 41) a bb r) {j : Nat} (hj : j < r) (h1 : ∀ u, k (some (.int u)) (s, lm, hk_RH i0 i1 b, al)) : hk_Cl (d + 1) 182 [.ref 40, .int (nI j), .int v] (s, lm, hk_RH i0 i1 b, al) k := by
  have hr := h.1.2.2
  obtain ⟨_, _, g, hg, eg⟩ := h.2.2.2.2.2.1 j hj
  refine hk_mth hk_m182 rfl rfl (n := 1000) ?_
  refine hk_ldi (i := 660 + 5 * nI j + 2) (j := 660 + 5 * j + 2) (by simp only [hk_lit, pk_mul, nI_add]) (by omega) (by decide) eg ?_
  refine hk_ldi (i := 660 + 5 * nI j + 3) (j := 660 + 5 * j + 3) (by simp only [hk_lit, pk_mul, nI_add]) (by omega) (by decide) rfl ?_
  refine hk_ldi (i := 1410 + 3 * nI g + 2) (j := 1410 + 3 * g + 2) (by simp only [hk_lit, pk_mul, nI_add]) (by omega) (by decide) rfl ?_
  refine And.intro (fun c1 => ?_) (fun c1 => ?_)
  · refine hk_ldi (i := 1410 + 3 * nI g) (j := 1410 + 3 * g) (by simp only [hk_lit, pk_mul, nI_add]) (by omega) (by decide) rfl ?_
    exact h1 _
  refine hk_ldi (i := 1410 + 3 * nI g + 2) (j := 1410 + 3 * g + 2) (by simp only [hk_lit, pk_mul, nI_add]) (by omega) (by decide) rfl ?_
  refine And.intro (fun c1 => ?_) (fun c1 => ?_)
  · refine hk_ldi (i := 1410 + 3 * nI g) (j := 1410 + 3 * g) (by simp only [hk_lit, pk_mul, nI_add]) (by omega) (by decide) rfl ?_
    exact h1 _
  refine hk_ldi (i := 1410 + 3 * nI g + 1) (j := 1410 + 3 * g + 1) (by simp only [hk_lit, pk_mul, nI_add]) (by omega) (by decide) rfl ?_
  exact h1 _
theorem m_worn (h : hk_RI (s 41) a bb r) {j : Nat} (hj : j < r) (h1 : ∀ u, k (some (.int u)) (s, lm, hk_RH i0 i1 b, al)) : hk_Cl (d + 2) 181 [.ref 40, .int (nI j), .int v, .int w] (s, lm, hk_RH i0 i1 b, al) k := by
  have hr := h.1.2.2
  have hb := h.1.2.1
  obtain ⟨⟨p, hp, ep⟩, _, _⟩ := h.2.2.2.2.2.1 j hj
  obtain ⟨_, z, hz, ez⟩ := h.2.2.2.2.1 p hp
  refine hk_mth hk_m181 rfl rfl (n := 1000) ?_
  refine m_leant h hj (fun u => ?_)
  refine hk_ldi (i := 660 + 5 * nI j) (j := 660 + 5 * j) (by simp only [hk_lit, pk_mul, nI_add]) (by omega) (by decide) ep ?_
  refine m_plateOf (c := 1) (by omega) ?_
  refine hk_ldi (i := 12 + s 41 (80 + 6 * p + 1)) (j := 12 + z) (by rw [ez]; exact nI_add 12 z) (by omega) (by decide) rfl ?_
  refine hk_ldi (i := 660 + 5 * nI j + 1) (j := 660 + 5 * j + 1) (by simp only [hk_lit, pk_mul, nI_add]) (by omega) (by decide) rfl ?_
  refine And.intro (fun c1 => ?_) (fun c1 => ?_)
  · exact h1 _
  · exact h1 _
theorem m_guess (h : hk_RI (s 41) a bb r) (h1 : ∀ u, k (some (.int u)) (s, lm, hk_RH i0 i1 b, al)) : hk_Cl (d + 3) 178 [.ref 40, .int v, .int w, .int x] (s, lm, hk_RH i0 i1 b, al) k := by
  have hb := h.1.2.1
  refine hk_mth hk_m178 rfl rfl (n := 1000) ?_
  refine m_isn (c := 1) (by omega) h.2.1.2.1 (by omega) ?_ (fun j e hj => ?_)
  · refine And.intro (fun _ => ?_) (fun hc => absurd (by decide) hc)
    exact h1 _
  refine And.intro (fun hc => absurd hc (by decide)) (fun _ => ?_)
  refine m_isMonth ?_ (fun _ _ _ => ?_)
  · refine And.intro (fun _ => ?_) (fun hc => absurd (by decide) hc)
    exact h1 _
  refine And.intro (fun hc => absurd hc (by decide)) (fun _ => ?_)
  refine m_isMonth ?_ (fun _ _ _ => ?_)
  · refine And.intro (fun hc => absurd hc (by decide)) (fun _ => ?_)
    exact h1 _
  refine And.intro (fun _ => ?_) (fun hc => absurd (by decide) hc)
  refine m_latest h.2.1.2.2 h.1.2.2 (fun u hu => ?_)
  refine And.intro (fun c1 => ?_) (fun c1 => ?_)
  · obtain ⟨i, hi, e⟩ := hu.elim (fun e => absurd e c1) id
    subst e
    exact m_worn h hi h1
  · exact h1 _
theorem m_dueOf (h : hk_RI (s 41) a bb r) (h1 : ∀ u, k (some (.int u)) (s, lm, hk_RH i0 i1 b, al)) : hk_Cl (d + 3) 184 [.ref 40, .int v, .int w] (s, lm, hk_RH i0 i1 b, al) k := by
  have hr := h.1.2.2
  refine hk_mth hk_m184 rfl rfl (n := 1000) ?_
  refine m_latest h.2.1.2.2 h.1.2.2 (fun u hu => ?_)
  refine And.intro (fun c1 => ?_) (fun c1 => ?_)
  rotate_left
  · exact h1 _
  obtain ⟨i, hi, e⟩ := hu.elim (fun e => absurd e c1) id
  subst e
  obtain ⟨_, ⟨m, hm, em⟩, _⟩ := h.2.2.2.2.2.1 i hi
  have loop : ∀ (q j : Nat), j + q = 600 → hk_Rn (d + 2) none hk_c184 (hk_sfx 33 hk_c184) [some (.ref 40), some (.int v), some (.int w), some (.int (nI i)), some (.int (nI j))] [] (s, lm, hk_RH i0 i1 b, al) k := by
    intro q
    induction q with
    | zero =>
      intro j hj
      have e : j = 600 := by omega
      subst e
      refine hk_hd (n := 1000) (t := 33) rfl ?_
      refine And.intro (fun _ => ?_) (fun hc => absurd (show (599 : Int32) < nI 600 by decide) hc)
      exact h1 _
    | succ q ih =>
      intro j hj
      have a1 : ¬ nI 599 < nI j := by rw [nI_ltI (by omega) (by omega)]; omega
      refine hk_hd (n := 1000) (t := 33) rfl ?_
      refine And.intro (fun hc => absurd hc a1) (fun _ => ?_)
      refine m_worn h hi (fun u => ?_)
      refine hk_ldi (i := nI 8) (j := 8) (by simp only [hk_lit, pk_mul, nI_add]) (by omega) (by decide) rfl ?_
      refine And.intro (fun c2 => ?_) (fun c2 => ?_)
      · exact hk_Rn_cast (by rw [← nI_1 j]; rfl) (ih (j + 1) (by omega))
      · exact h1 _
  refine hk_ldi (i := 660 + 5 * nI i + 1) (j := 660 + 5 * i + 1) (by simp only [hk_lit, pk_mul, nI_add]) (by omega) (by decide) em ?_
  exact loop (600 - m) m (by omega)
theorem m_due (h : hk_RI (s 41) a bb r) (h1 : ∀ u, k (some (.int u)) (s, lm, hk_RH i0 i1 b, al)) : hk_Cl (d + 4) 183 [.ref 40, .int v, .int w] (s, lm, hk_RH i0 i1 b, al) k := by
  have hb := h.1.2.1
  refine hk_mth hk_m183 rfl rfl (n := 1000) ?_
  refine m_isn (c := 1) (by omega) h.2.1.2.1 (by omega) ?_ (fun j e hj => ?_)
  · refine And.intro (fun _ => ?_) (fun hc => absurd (by decide) hc)
    exact h1 _
  refine And.intro (fun hc => absurd hc (by decide)) (fun _ => ?_)
  refine m_isMonth ?_ (fun _ _ _ => ?_)
  · refine And.intro (fun _ => ?_) (fun hc => absurd (by decide) hc)
    exact h1 _
  refine And.intro (fun hc => absurd hc (by decide)) (fun _ => ?_)
  exact m_dueOf h h1
theorem m_first (h : hk_RI (s 41) a bb r) (h1 : ∀ u, k (some (.int u)) (s, lm, hk_RH i0 i1 b, al)) : hk_Cl (d + 4) 185 [.ref 40, .int v, .int w] (s, lm, hk_RH i0 i1 b, al) k := by
  have hb := h.1.2.1
  have ha := h.1.1
  refine hk_mth hk_m185 rfl rfl (n := 1000) ?_
  refine m_isn (c := 0) (by omega) h.2.1.1 (by omega) ?_ (fun j e hj => ?_)
  · refine And.intro (fun _ => ?_) (fun hc => absurd (by decide) hc)
    exact h1 _
  refine And.intro (fun hc => absurd hc (by decide)) (fun _ => ?_)
  refine m_isMonth ?_ (fun _ _ _ => ?_)
  · refine And.intro (fun hc => absurd hc (by decide)) (fun _ => ?_)
    exact h1 _
  refine And.intro (fun _ => ?_) (fun hc => absurd (by decide) hc)
  have loop : ∀ (q j : Nat) (e f : Int32) (l6 : Option Value), j + q = bb → hk_Rn (d + 3) none hk_c185 (hk_sfx 27 hk_c185) [some (.ref 40), some (.int v), some (.int w), some (.int e), some (.int f), some (.int (nI j)), l6] [] (s, lm, hk_RH i0 i1 b, al) k := by
    intro q
    induction q with
    | zero =>
      intro j e f l6 hj
      have e1 : j = bb := by omega
      subst e1
      refine hk_hd (n := 1000) (t := 27) rfl ?_
      refine hk_ldi (i := nI 1) (j := 1) (by simp only [hk_lit, pk_mul, nI_add]) (by omega) (by decide) h.2.1.2.1 ?_
      refine And.intro (fun _ => ?_) (fun hc => absurd (Int32.le_refl _) hc)
      exact h1 _
    | succ q ih =>
      intro j e f l6 hj
      have a1 : ¬ nI bb ≤ nI j := hk_nlt (by omega) (by omega)
      have nx : ∀ (e f u : Int32), hk_Rn (d + 3) none hk_c185 (hk_sfx 27 hk_c185) [some (.ref 40), some (.int v), some (.int w), some (.int e), some (.int f), some (.int (nI j + 1)), some (.int u)] [] (s, lm, hk_RH i0 i1 b, al) k := fun e f u => hk_Rn_cast (by rw [nI_1]) (ih (j + 1) e f _ (by omega))
      have tl : ∀ (m : Nat) (u : Int32), hk_wp (d + 3) none hk_c185 k (m + 60) (hk_sfx 62 hk_c185) [some (.ref 40), some (.int v), some (.int w), some (.int e), some (.int f), some (.int (nI j)), some (.int u)] [] (s, lm, hk_RH i0 i1 b, al) := by
        intro m u
        refine And.intro (fun c2 => ?_) (fun c2 => ?_)
        · exact nx _ _ _
        refine And.intro (fun c3 => ?_) (fun c3 => ?_)
        · exact nx _ _ _
        refine And.intro (fun c4 => ?_) (fun c4 => ?_)
        · exact nx _ _ _
        · exact nx _ _ _
      refine hk_hd (n := 1000) (t := 27) rfl ?_
      refine hk_ldi (i := nI 1) (j := 1) (by simp only [hk_lit, pk_mul, nI_add]) (by omega) (by decide) h.2.1.2.1 ?_
      refine And.intro (fun hc => absurd hc a1) (fun _ => ?_)
      refine m_plateOf (c := 0) (by omega) ?_
      refine And.intro (fun c1 => ?_) (fun c1 => ?_)
      · exact tl _ _
      refine m_dueOf h (fun u => ?_)
      exact tl _ _
  exact loop bb 0 (-1) 0 none (by omega)
end HKB1
