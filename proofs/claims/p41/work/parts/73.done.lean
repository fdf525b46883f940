/-! ===== done: both sides choose the same works ===== -/
abbrev hk_bb (a c : Int32) : Prop := a >>> (c &&& 31) &&& 1 = 1
/-- hours of hands that have a trade of g -/
def hk_su (ht : Nat → Int32) (hh : Nat → Nat) (g : Nat) : Nat → Nat
  | 0 => 0
  | n + 1 => hk_su ht hh g n + (if ht n &&& nI g = 0 then 0 else hh n)
/-- hours of chosen works of trade t; of trades of g -/
def hk_ne (wt wh : Nat → Nat) (v : Int32) (t : Nat) : Nat → Nat
  | 0 => 0
  | n + 1 => hk_ne wt wh v t n + (if hk_bb v (nI n) ∧ wt n = t then wh n else 0)
def hk_nd (wt wh : Nat → Nat) (v : Int32) (g : Nat) : Nat → Nat
  | 0 => 0
  | n + 1 => hk_nd wt wh v g n + (if hk_bb v (nI n) ∧ hk_bb (nI g) (nI (wt n)) then wh n else 0)
def hk_hrt (nd : Nat → Nat) (g : Nat) : Nat → Nat
  | 0 => 0
  | t + 1 => hk_hrt nd g t + (if hk_bb (nI g) (nI t) then nd t else 0)
def hk_wo (ww : Nat → Nat) (v : Int32) : Nat → Nat
  | 0 => 0
  | n + 1 => hk_wo ww v n + (if hk_bb v (nI n) then ww n else 0)
theorem hk_hrt_0 {g : Nat} : ∀ m, hk_hrt (fun _ => 0) g m = 0
  | 0 => rfl
  | m + 1 => by rw [hk_hrt, hk_hrt_0 m, ite_self]
theorem hk_hrt_add {a c : Nat → Nat} {g : Nat} : ∀ m, hk_hrt (fun t => a t + c t) g m = hk_hrt a g m + hk_hrt c g m
  | 0 => rfl
  | m + 1 => by
    rw [hk_hrt, hk_hrt, hk_hrt, hk_hrt_add m]
    by_cases h : hk_bb (nI g) (nI m)
    · rw [if_pos h, if_pos h, if_pos h]; omega
    · rw [if_neg h, if_neg h, if_neg h]; omega
theorem hk_hrt_one {P : Prop} (dP : Decidable P) {w x g : Nat} : ∀ m, hk_hrt (fun t => if P ∧ w = t then x else 0) g m = if P ∧ w < m ∧ hk_bb (nI g) (nI w) then x else 0
  | 0 => by rw [if_neg (fun q => absurd q.2.1 (Nat.not_lt_zero w))]; rfl
  | m + 1 => by
    rw [hk_hrt, hk_hrt_one dP m]
    by_cases hP : P
    · by_cases e : w = m
      · subst e
        rw [if_neg (fun q => absurd q.2.1 (Nat.lt_irrefl w))]
        by_cases h : hk_bb (nI g) (nI w)
        · rw [if_pos h, if_pos ⟨hP, rfl⟩, if_pos ⟨hP, by omega, h⟩, Nat.zero_add]
        · rw [if_neg h, if_neg (fun q => h q.2.2)]
      · rw [if_neg (c := P ∧ w = m) (fun q => e q.2), ite_self, Nat.add_zero]
        by_cases h : w < m ∧ hk_bb (nI g) (nI w)
        · rw [if_pos ⟨hP, h⟩, if_pos ⟨hP, by omega, h.2⟩]
        · rw [if_neg (fun q => h q.2), if_neg (fun q => h ⟨by omega, q.2.2⟩)]
    · rw [if_neg (c := P ∧ w < m ∧ hk_bb (nI g) (nI w)) (fun q => hP q.1), if_neg (c := P ∧ w = m) (fun q => hP q.1), if_neg (c := P ∧ w < m + 1 ∧ hk_bb (nI g) (nI w)) (fun q => hP q.1), ite_self]
theorem hk_hrt_nd {wt wh : Nat → Nat} {v : Int32} {g : Nat} : ∀ n, (∀ i, i < n → wt i ≤ 4) → hk_hrt (fun t => hk_ne wt wh v t n) g 5 = hk_nd wt wh v g n
  | 0, _ => hk_hrt_0 5
  | n + 1, h => by
    have ih := hk_hrt_nd (wh := wh) (v := v) (g := g) n (fun i hi => h i (by omega))
    have h4 := h n (by omega)
    show hk_hrt (fun t => hk_ne wt wh v t n + (if hk_bb v (nI n) ∧ wt n = t then wh n else 0)) g 5 = _
    rw [hk_hrt_add, ih, hk_nd, hk_hrt_one inferInstance]
    by_cases c : hk_bb v (nI n) ∧ hk_bb (nI g) (nI (wt n))
    · rw [if_pos ⟨c.1, by omega, c.2⟩, if_pos c]
    · rw [if_neg (fun q => c ⟨q.1, q.2.2⟩), if_neg c]
theorem hk_nd_le {wt wh : Nat → Nat} {v : Int32} {g : Nat} : ∀ n, (∀ i, i < n → wh i ≤ 100) → hk_nd wt wh v g n ≤ 100 * n
  | 0, _ => Nat.le_refl 0
  | n + 1, h => by
    have ih := hk_nd_le (wt := wt) (v := v) (g := g) n (fun i hi => h i (by omega))
    have h4 := h n (by omega)
    rw [hk_nd]
    split <;> omega
theorem hk_wo_le {ww : Nat → Nat} {v : Int32} : ∀ n, (∀ i, i < n → ww i ≤ 100) → hk_wo ww v n ≤ 100 * n
  | 0, _ => Nat.le_refl 0
  | n + 1, h => by
    have ih := hk_wo_le (v := v) n (fun i hi => h i (by omega))
    have h4 := h n (by omega)
    rw [hk_wo]
    split <;> omega
theorem hk_su_le {ht : Nat → Int32} {hh : Nat → Nat} {g : Nat} : ∀ n, (∀ i, i < n → hh i ≤ 60) → hk_su ht hh g n ≤ 60 * n
  | 0, _ => Nat.le_refl 0
  | n + 1, h => by
    have ih := hk_su_le (ht := ht) (g := g) n (fun i hi => h i (by omega))
    have h4 := h n (by omega)
    rw [hk_su]
    split <;> omega
theorem hk_cmpN {a c : Nat} (ha : a < 2 ^ 30) (hc : c < 2 ^ 30) : 0 ≤ nI a - nI c ↔ c ≤ a := by
  rw [Int32.le_iff_toInt_le, pk_sub_toInt ha hc, show (0 : Int32).toInt = 0 from rfl]
  omega
theorem hk_bb0 : ∀ x, x < 8 → ¬ hk_bb (nI 0) (nI x) := by decide
theorem hk_nd_0 {wt wh : Nat → Nat} {v : Int32} : ∀ n, (∀ i, i < n → wt i ≤ 4) → hk_nd wt wh v 0 n = 0
  | 0, _ => rfl
  | n + 1, h => by
    have h4 := h n (by omega)
    rw [hk_nd, hk_nd_0 n (fun i hi => h i (by omega)), if_neg (fun q => hk_bb0 (wt n) (by omega) q.2)]
theorem hk_wo_0 {ww : Nat → Nat} : ∀ n, n ≤ 8 → hk_wo ww (nI 0) n = 0
  | 0, _ => rfl
  | n + 1, h => by rw [hk_wo, hk_wo_0 n (by omega), if_neg (hk_bb0 n (by omega))]
/-- the hands can do a set -/
def hk_cd (ht : Nat → Int32) (hh : Nat → Nat) (nh : Nat) (wt wh : Nat → Nat) (nw : Nat) (v : Int32) : Prop := ∀ g, g < 32 → hk_nd wt wh v g nw ≤ hk_su ht hh g nh
/-- the first of the greatest worth, among the sets below -/
noncomputable def hk_pk (P : Nat → Prop) (W : Nat → Nat) : Nat → Nat × Nat
  | 0 => (0, 0)
  | j + 1 => @ite _ ((hk_pk P W j).2 < W j ∧ P j) (Classical.propDecidable _) (j, W j) (hk_pk P W j)
theorem hk_pk_y {P : Nat → Prop} {W : Nat → Nat} {j : Nat} (h : (hk_pk P W j).2 < W j) (hP : P j) : hk_pk P W (j + 1) = (j, W j) := by
  rw [hk_pk, if_pos ⟨h, hP⟩]
theorem hk_pk_n {P : Nat → Prop} {W : Nat → Nat} {j : Nat} (h : ¬ ((hk_pk P W j).2 < W j ∧ P j)) : hk_pk P W (j + 1) = hk_pk P W j := by
  rw [hk_pk, if_neg h]
theorem hk_pk_le {P : Nat → Prop} {W : Nat → Nat} {c : Nat} (hW : ∀ j, W j ≤ c) : ∀ j, (hk_pk P W j).1 ≤ j ∧ (hk_pk P W j).2 ≤ c
  | 0 => ⟨Nat.le_refl 0, Nat.zero_le c⟩
  | j + 1 => by
    have ih := hk_pk_le (P := P) hW j
    by_cases h : (hk_pk P W j).2 < W j ∧ P j
    · rw [hk_pk_y h.1 h.2]
      exact ⟨Nat.le_succ j, hW j⟩
    · rw [hk_pk_n h]
      exact ⟨by omega, ih.2⟩
theorem hk_sh8 {n : Nat} (hn : n ≤ 8) : (1 : Int32) <<< (nI n &&& 31) = nI (2 ^ n) := by
  match n, hn with
  | 0, _ => decide
  | 1, _ => decide
  | 2, _ => decide
  | 3, _ => decide
  | 4, _ => decide
  | 5, _ => decide
  | 6, _ => decide
  | 7, _ => decide
  | 8, _ => decide
/-- hands' and works' cells -/
def hk_Hd (ht : Nat → Int32) (hh : Nat → Nat) (n : Nat) (a c : Nat → Int32) : Prop := ∀ i, i < n → a i = ht i ∧ c i = nI (hh i) ∧ hh i ≤ 60
def hk_Wk (wt wh ww : Nat → Nat) (n : Nat) (a c e : Nat → Int32) : Prop := ∀ i, i < n → a i = nI (wt i) ∧ c i = nI (wh i) ∧ e i = nI (ww i) ∧ wt i ≤ 4 ∧ wh i ≤ 100 ∧ ww i ≤ 100
section HKEB
variable {d n nh nw a bb r : Nat} {v w x y z : Int32} {s : Nat → Nat → Int32} {lm : Nat → Nat → Int64} {i0 i1 b : Nat} {al : List Nat} {k : Option Value → hk_H → Prop} {hp : hk_H} {ht : Nat → Int32} {hh wt wh ww : Nat → Nat}
theorem c_gt16 (hw : hk_tw s 16 n) {j c : Nat} (hj : j < n) (hc : c < 2) (h1 : k (some (.int (s 17 (j * 2 + c)))) (s, lm, hk_RH i0 i1 b, al)) : hk_Cl (d + 1) 16 [.ref 16, .int (nI j), .int (nI c)] (s, lm, hk_RH i0 i1 b, al) k := c_get_in (by simp [hk_tb]) hw hj hc h1
theorem c_gt18 (hw : hk_tw s 18 n) {j c : Nat} (hj : j < n) (hc : c < 3) (h1 : k (some (.int (s 19 (j * 3 + c)))) (s, lm, hk_RH i0 i1 b, al)) : hk_Cl (d + 1) 16 [.ref 18, .int (nI j), .int (nI c)] (s, lm, hk_RH i0 i1 b, al) k := c_get_in (by simp [hk_tb]) hw hj hc h1
theorem c_supplyX (hw : hk_tw s 16 nh) (H : hk_Hd ht hh nh (fun i => s 17 (i * 2)) (fun i => s 17 (i * 2 + 1))) (h1 : ∀ s2, hk_F37 s s2 → (∀ g, g < 32 → s2 38 g = nI (hk_su ht hh g nh)) → k none (s2, lm, hk_RH i0 i1 b, al)) : hk_Cl (d + 2) 114 [.ref 37, .ref 16] (s, lm, hk_RH i0 i1 b, al) k := by
  have hn8 : nh ≤ 8 := hw.2.2.2
  have loop : ∀ (q j : Nat) (s2 : Nat → Nat → Int32) (l3 : Option Value), j + q = 32 → hk_F37 s s2 → (∀ g, g < j → s2 38 g = nI (hk_su ht hh g nh)) → hk_Rn (d + 1) none hk_c114 (hk_sfx 2 hk_c114) [some (.ref 37), some (.ref 16), some (.int (nI j)), l3] [] (s2, lm, hk_RH i0 i1 b, al) k := by
    intro q
    induction q with
    | zero =>
      intro j s2 l3 hj h2 hg
      have e : j = 32 := by omega
      subst e
      refine hk_hd (n := 1000) (t := 2) rfl ?_
      refine And.intro (fun _ => ?_) (fun hc => absurd (show (31 : Int32) < nI 32 by decide) hc)
      exact h1 s2 h2 hg
    | succ q ih =>
      intro j s2 l3 hj h2 hg
      have a1 : ¬ nI 31 < nI j := by rw [nI_ltI (by omega) (by omega)]; omega
      have l17 : ∀ (g i : Nat) (s3 : Nat → Nat → Int32), i + g = nh → hk_F37 s s3 → (∀ g, g < j → s3 38 g = nI (hk_su ht hh g nh)) → s3 38 j = nI (hk_su ht hh j i) → hk_Rn (d + 1) none hk_c114 (hk_sfx 17 hk_c114) [some (.ref 37), some (.ref 16), some (.int (nI j)), some (.int (nI i))] [] (s3, lm, hk_RH i0 i1 b, al) k := by
        intro g
        induction g with
        | zero =>
          intro i s3 hi h3 hg3 hj3
          have ei : i = nh := by omega
          subst ei
          have a2 : s3 16 3 ≤ nI i := by rw [h3 _ _ (by omega), hw.2.2.1]; exact Int32.le_refl _
          refine hk_hd (n := 1000) (t := 17) rfl ?_
          refine And.intro (fun _ => ?_) (fun hc => absurd a2 hc)
          refine hk_Rn_cast (by rw [← nI_1 j]; rfl) (ih (j + 1) s3 _ (by omega) h3 (fun g hg => ?_))
          by_cases e : g = j
          · subst e; exact hj3
          · exact hg3 g (by omega)
        | succ g ih2 =>
          intro i s3 hi h3 hg3 hj3
          have a2 : ¬ s3 16 3 ≤ nI i := by rw [h3 _ _ (by omega), hw.2.2.1]; exact hk_nlt (by omega) (by omega)
          have hw3 := hk_F37_tw h3 (by simp [hk_tb]) hw
          obtain ⟨e1, e2, e3⟩ := H i (by omega)
          have e1 : s3 17 (i * 2 + 0) = ht i := (h3 _ _ (by omega)).trans e1
          have e2 : s3 17 (i * 2 + 1) = nI (hh i) := (h3 _ _ (by omega)).trans e2
          refine hk_hd (n := 1000) (t := 17) rfl ?_
          refine And.intro (fun hc => absurd hc a2) (fun _ => ?_)
          refine c_gt16 (c := 0) hw3 (by omega) (by omega) ?_
          rw [e1]
          refine And.intro (fun c1 => ?_) (fun c1 => ?_)
          · have c1 : ht i &&& nI j = 0 := c1
            exact hk_Rn_cast (by rw [← nI_1 i]; rfl) (ih2 (i + 1) s3 (by omega) h3 hg3 (by rw [hk_su, if_pos c1]; exact hj3))
          have c1 : ¬ ht i &&& nI j = 0 := c1
          refine hk_ldi (i := nI j) (j := j) (by simp only [hk_lit, pk_mul, nI_add]) (by omega) (by decide) hj3 ?_
          refine c_gt16 (c := 1) hw3 (by omega) (by omega) ?_
          rw [e2]
          refine hk_stn (i := nI j) (j := j) (by simp only [hk_lit, pk_mul, nI_add]) (by omega) (by decide) (fun s4 (hs4 : s4 = hk_u2 s3 38 j (nI (hk_su ht hh j i) + nI (hh i))) => ?_)
          refine hk_Rn_cast (by rw [← nI_1 i]; rfl) (ih2 (i + 1) s4 (by omega) (by rw [hs4]; exact hk_F37_u h3 (by omega)) (fun g hg => by rw [hs4, hk_u2o (by omega)]; exact hg3 g hg) ?_)
          rw [hs4, hk_u2s, hk_su, if_neg c1, nI_add]
      refine hk_hd (n := 1000) (t := 2) rfl ?_
      refine And.intro (fun hc => absurd hc a1) (fun _ => ?_)
      refine hk_stn (i := nI j) (j := j) (by simp only [hk_lit, pk_mul, nI_add]) (by omega) (by decide) (fun s3 (hs3 : s3 = hk_u2 s2 38 (j) 0) => ?_)
      exact l17 nh 0 s3 (by omega) (by rw [hs3]; exact hk_F37_u h2 (by omega)) (fun g hg2 => by rw [hs3, hk_u2o (by omega)]; exact hg g hg2) (by rw [hs3, hk_u2s]; rfl)
  refine hk_mth hk_m114 rfl rfl (n := 1000) ?_
  exact loop 32 0 s _ (by omega) (fun _ _ _ => rfl) (fun g hg => absurd hg (Nat.not_lt_zero g))
theorem c_worthX (hw : hk_tw s 18 nw) (H : hk_Wk wt wh ww nw (fun i => s 19 (i * 3)) (fun i => s 19 (i * 3 + 1)) (fun i => s 19 (i * 3 + 2))) (h1 : k (some (.int (nI (hk_wo ww v nw)))) (s, lm, hk_RH i0 i1 b, al)) : hk_Cl (d + 2) 115 [.ref 18, .int v] (s, lm, hk_RH i0 i1 b, al) k := by
  have hn8 : nw ≤ 8 := hw.2.2.2
  have loop : ∀ (q j : Nat), j + q = nw → hk_Rn (d + 1) none hk_c115 (hk_sfx 4 hk_c115) [some (.ref 18), some (.int v), some (.int (nI (hk_wo ww v j))), some (.int (nI j))] [] (s, lm, hk_RH i0 i1 b, al) k := by
    intro q
    induction q with
    | zero =>
      intro j hj
      have e : j = nw := by omega
      subst e
      refine hk_hd (n := 1000) (t := 4) rfl ?_
      refine And.intro (fun _ => ?_) (fun hc => absurd (show s 18 3 ≤ nI j by rw [hw.2.2.1]; exact Int32.le_refl _) hc)
      exact h1
    | succ q ih =>
      intro j hj
      obtain ⟨e1, e2, e3, _⟩ := H j (by omega)
      have e3 : s 19 (j * 3 + 2) = nI (ww j) := e3
      refine hk_hd (n := 1000) (t := 4) rfl ?_
      refine And.intro (fun hc => absurd hc (show ¬ s 18 3 ≤ nI j by rw [hw.2.2.1]; exact hk_nlt (by omega) (by omega))) (fun _ => ?_)
      refine And.intro (fun c1 => ?_) (fun c1 => ?_)
      · have c1 : ¬ hk_bb v (nI j) := c1
        refine hk_Rn_cast ?_ (ih (j + 1) (by omega))
        rw [hk_wo, if_neg c1, ← nI_1 j]
        rfl
      have c1 : ¬ ¬ hk_bb v (nI j) := c1
      have c1 := Classical.not_not.mp c1
      refine c_gt18 (c := 2) hw (by omega) (by omega) ?_
      rw [e3]
      refine hk_Rn_cast (L2 := [some (.ref 18), some (.int v), some (.int (nI (hk_wo ww v j) + nI (ww j))), some (.int (nI j + 1))]) rfl ?_
      have := ih (j + 1) (by omega)
      rw [hk_wo, if_pos c1, ← nI_add, ← nI_1 j] at this
      exact this
  refine hk_mth hk_m115 rfl rfl (n := 1000) ?_
  exact loop nw 0 (by omega)
theorem c_fillX (h1 : ∀ s2, (∀ p q, p ≠ 39 → s2 p q = s p q) → (∀ q, q < 5 → s2 39 q = v) → k none (s2, lm, hk_RH i0 i1 b, al)) : hk_Cl (d + 1) 118 [.ref 39, .int v] (s, lm, hk_RH i0 i1 b, al) k := by
  have loop : ∀ (g i : Nat) (s3 : Nat → Nat → Int32), i + g = 5 → (∀ p q, p ≠ 39 → s3 p q = s p q) → (∀ q, q < i → s3 39 q = v) → hk_Rn d none hk_c118 (hk_sfx 5 hk_c118) [some (.ref 39), some (.int v), some (.int (nI i)), some (.int (nI 5))] [] (s3, lm, hk_RH i0 i1 b, al) k := by
    intro g
    induction g with
    | zero =>
      intro i s3 hi h2 h3
      have e : i = 5 := by omega
      subst e
      refine hk_hd (n := 1000) (t := 5) rfl ?_
      refine And.intro (fun _ => ?_) (fun hc => absurd (Int32.le_refl _) hc)
      exact h1 s3 h2 h3
    | succ g ih =>
      intro i s3 hi h2 h3
      have b1 : ¬ nI 5 ≤ nI i := hk_nlt (by omega) (by omega)
      refine hk_hd (n := 1000) (t := 5) rfl ?_
      refine And.intro (fun hc => absurd hc b1) (fun _ => ?_)
      refine hk_stn (i := nI i) (j := i) (by simp only [hk_lit, pk_mul, nI_add]) (by omega) (by decide) (fun s4 (hs4 : s4 = hk_u2 s3 39 (i) v) => ?_)
      refine hk_Rn_cast (by rw [← nI_1 i]; rfl) (ih (i + 1) s4 (by omega) (fun p q hp => by rw [hs4, hk_u2o (by omega)]; exact h2 p q hp) (fun q hq => ?_))
      rw [hs4]
      by_cases e : q = i
      · subst e; rw [hk_u2s]
      · rw [hk_u2o (by omega)]; exact h3 q (by omega)
  refine hk_mth hk_m118 rfl rfl (n := 1000) ?_
  exact loop 5 0 s (by omega) (fun _ _ _ => rfl) (fun q hq => absurd hq (Nat.not_lt_zero q))
theorem c_needX (hw : hk_tw s 18 nw) (H : hk_Wk wt wh ww nw (fun i => s 19 (i * 3)) (fun i => s 19 (i * 3 + 1)) (fun i => s 19 (i * 3 + 2))) (h1 : ∀ s2, (∀ p q, p ≠ 39 → s2 p q = s p q) → (∀ t, t < 5 → s2 39 t = nI (hk_ne wt wh v t nw)) → k none (s2, lm, hk_RH i0 i1 b, al)) : hk_Cl (d + 2) 117 [.ref 37, .ref 18, .int v] (s, lm, hk_RH i0 i1 b, al) k := by
  have hn8 : nw ≤ 8 := hw.2.2.2
  have loop : ∀ (g i : Nat) (s3 : Nat → Nat → Int32) (l4 : Option Value), i + g = nw → (∀ p q, p ≠ 39 → s3 p q = s p q) → (∀ t, t < 5 → s3 39 t = nI (hk_ne wt wh v t i)) → hk_Rn (d + 1) none hk_c117 (hk_sfx 10 hk_c117) [some (.ref 37), some (.ref 18), some (.int v), some (.int (nI i)), l4] [] (s3, lm, hk_RH i0 i1 b, al) k := by
    intro g
    induction g with
    | zero =>
      intro i s3 l4 hi h3 hn
      have e : i = nw := by omega
      subst e
      have a2 : s3 18 3 ≤ nI i := by rw [h3 _ _ (by omega), hw.2.2.1]; exact Int32.le_refl _
      refine hk_hd (n := 1000) (t := 10) rfl ?_
      refine And.intro (fun _ => ?_) (fun hc => absurd a2 hc)
      exact h1 s3 h3 hn
    | succ g ih =>
      intro i s3 l4 hi h3 hn
      have a2 : ¬ s3 18 3 ≤ nI i := by rw [h3 _ _ (by omega), hw.2.2.1]; exact hk_nlt (by omega) (by omega)
      have hw3 : hk_tw s3 18 nw := ⟨by rw [h3 _ _ (by omega)]; exact hw.1, by rw [h3 _ _ (by omega)]; exact hw.2.1, by rw [h3 _ _ (by omega)]; exact hw.2.2.1, hw.2.2.2⟩
      obtain ⟨e1, e2, e3, e4, e5, e6⟩ := H i (by omega)
      have e1 : s3 19 (i * 3 + 0) = nI (wt i) := (h3 _ _ (by omega)).trans e1
      have e2 : s3 19 (i * 3 + 1) = nI (wh i) := (h3 _ _ (by omega)).trans e2
      refine hk_hd (n := 1000) (t := 10) rfl ?_
      refine And.intro (fun hc => absurd hc a2) (fun _ => ?_)
      refine c_gt18 (c := 0) hw3 (by omega) (by omega) ?_
      rw [e1]
      refine And.intro (fun c1 => ?_) (fun c1 => ?_)
      · have c1 : ¬ hk_bb v (nI i) := c1
        refine hk_Rn_cast (by rw [← nI_1 i]; rfl) (ih (i + 1) s3 _ (by omega) h3 (fun t ht => ?_))
        rw [hk_ne, if_neg (fun q => c1 q.1)]
        exact hn t ht
      have c1 : ¬ ¬ hk_bb v (nI i) := c1
      have c1 := Classical.not_not.mp c1
      refine c_within (fun p q => ?_) (fun a => ?_)
      · refine And.intro (fun hc => absurd hc (by decide)) (fun _ => ?_)
        refine hk_ldi (i := nI (wt i)) (j := wt i) (by simp only [hk_lit, pk_mul, nI_add]) (by omega) (by decide) (hn (wt i) (by omega)) ?_
        refine c_gt18 (c := 1) hw3 (by omega) (by omega) ?_
        rw [e2]
        refine hk_stn (i := nI (wt i)) (j := wt i) rfl (by omega) (by decide) (fun s4 (hs4 : s4 = hk_u2 s3 39 (wt i) (nI (hk_ne wt wh v (wt i) i) + nI (wh i))) => ?_)
        refine hk_Rn_cast (by rw [← nI_1 i]; rfl) (ih (i + 1) s4 _ (by omega) (fun p q hp => by rw [hs4, hk_u2o (by omega)]; exact h3 p q hp) (fun t ht => ?_))
        rw [hs4, hk_ne]
        by_cases e : t = wt i
        · subst e
          rw [hk_u2s, if_pos ⟨c1, rfl⟩, nI_add]
        · rw [hk_u2o (by omega), if_neg (fun q => e q.2.symm)]
          exact hn t ht
      · exfalso
        rcases a with a | a
        · exact nI_pos (by omega) a
        · have a : nI 4 < nI (wt i) := a
          rw [nI_ltI (by omega) (by omega)] at a
          omega
  refine hk_mth hk_m117 rfl rfl (n := 1000) ?_
  refine c_fillX (fun s2 h2 h3 => ?_)
  exact loop nw 0 s2 none (by omega) h2 h3
theorem c_canDoX (hw : hk_tw s 18 nw) (H : hk_Wk wt wh ww nw (fun i => s 19 (i * 3)) (fun i => s 19 (i * 3 + 1)) (fun i => s 19 (i * 3 + 2))) (hh60 : ∀ i, i < nh → hh i ≤ 60) (hn8 : nh ≤ 8) (hs : ∀ g, g < 32 → s 38 g = nI (hk_su ht hh g nh)) (h1 : ∀ s2, (∀ p q, p ≠ 39 → s2 p q = s p q) → hk_cd ht hh nh wt wh nw v → k (some (.int 1)) (s2, lm, hk_RH i0 i1 b, al)) (h0 : ∀ s2, (∀ p q, p ≠ 39 → s2 p q = s p q) → ¬ hk_cd ht hh nh wt wh nw v → k (some (.int 0)) (s2, lm, hk_RH i0 i1 b, al)) : hk_Cl (d + 3) 116 [.ref 37, .ref 18, .int v] (s, lm, hk_RH i0 i1 b, al) k := by
  have hw8 : nw ≤ 8 := hw.2.2.2
  refine hk_mth hk_m116 rfl rfl (n := 1000) ?_
  refine c_needX hw H (fun s2 h2 hn => ?_)
  have loop : ∀ (g j : Nat) (l4 l5 : Option Value), j + g = 32 → (∀ g, g < j → hk_nd wt wh v g nw ≤ hk_su ht hh g nh) → hk_Rn (d + 2) none hk_c116 (hk_sfx 8 hk_c116) [some (.ref 37), some (.ref 18), some (.int v), some (.int (nI j)), l4, l5] [] (s2, lm, hk_RH i0 i1 b, al) k := by
    intro g
    induction g with
    | zero =>
      intro j l4 l5 hj hg
      have e : j = 32 := by omega
      subst e
      refine hk_hd (n := 1000) (t := 8) rfl ?_
      refine And.intro (fun _ => ?_) (fun hc => absurd (show (31 : Int32) < nI 32 by decide) hc)
      exact And.intro (Or.inr rfl) (h1 s2 h2 hg)
    | succ g ih =>
      intro j l4 l5 hj hg
      have a1 : ¬ nI 31 < nI j := by rw [nI_ltI (by omega) (by omega)]; omega
      have l20 : ∀ (g i : Nat), i + g = 5 → hk_Rn (d + 2) none hk_c116 (hk_sfx 20 hk_c116) [some (.ref 37), some (.ref 18), some (.int v), some (.int (nI j)), some (.int (nI (hk_hrt (fun t => hk_ne wt wh v t nw) j i))), some (.int (nI i))] [] (s2, lm, hk_RH i0 i1 b, al) k := by
        intro g
        induction g with
        | zero =>
          intro i hi
          have e : i = 5 := by omega
          subst e
          have q1 := hk_hrt_nd (wt := wt) (wh := wh) (v := v) (g := j) nw (fun i hi => (H i hi).2.2.2.1)
          have q2 := hk_nd_le (wt := wt) (wh := wh) (v := v) (g := j) nw (fun i hi => (H i hi).2.2.2.2.1)
          have q3 := hk_su_le (ht := ht) (hh := hh) (g := j) nh hh60
          have e38 : s2 38 j = nI (hk_su ht hh j nh) := (h2 _ _ (by omega)).trans (hs j (by omega))
          refine hk_hd (n := 1000) (t := 20) rfl ?_
          refine And.intro (fun _ => ?_) (fun hc => absurd (show (5 : Int32) ≤ nI 5 by decide) hc)
          refine hk_ldi (i := nI j) (j := j) (by simp only [hk_lit, pk_mul, nI_add]) (by omega) (by decide) e38 ?_
          rw [q1]
          refine And.intro (fun c1 => ?_) (fun c1 => ?_)
          · have c1 : nI (hk_nd wt wh v j nw) ≤ nI (hk_su ht hh j nh) := c1
            rw [nI_leI (by omega) (by omega)] at c1
            refine hk_Rn_cast (by rw [← nI_1 j]; rfl) (ih (j + 1) _ _ (by omega) (fun g hg2 => ?_))
            by_cases e : g = j
            · subst e; exact c1
            · exact hg g (by omega)
          · have c1 : ¬ nI (hk_nd wt wh v j nw) ≤ nI (hk_su ht hh j nh) := c1
            rw [nI_leI (by omega) (by omega)] at c1
            exact And.intro (Or.inl rfl) (h0 s2 h2 (fun q => c1 (q j (by omega))))
        | succ g ih2 =>
          intro i hi
          have b1 : ¬ nI 5 ≤ nI i := hk_nlt (by omega) (by omega)
          refine hk_hd (n := 1000) (t := 20) rfl ?_
          refine And.intro (fun hc => absurd hc b1) (fun _ => ?_)
          refine And.intro (fun c1 => ?_) (fun c1 => ?_)
          · have c1 : ¬ hk_bb (nI j) (nI i) := c1
            refine hk_Rn_cast ?_ (ih2 (i + 1) (by omega))
            rw [hk_hrt, if_neg c1, ← nI_1 i]
            rfl
          have c1 : ¬ ¬ hk_bb (nI j) (nI i) := c1
          have c1 := Classical.not_not.mp c1
          refine hk_ldi (i := nI i) (j := i) (by simp only [hk_lit, pk_mul, nI_add]) (by omega) (by decide) (hn i (by omega)) ?_
          refine hk_Rn_cast ?_ (ih2 (i + 1) (by omega))
          rw [hk_hrt, if_pos c1, ← nI_add, ← nI_1 i]
          rfl
      refine hk_hd (n := 1000) (t := 8) rfl ?_
      refine And.intro (fun hc => absurd hc a1) (fun _ => ?_)
      exact l20 5 0 (by omega)
  exact loop 32 0 none none (by omega) (fun g hg => absurd hg (Nat.not_lt_zero g))
theorem c_chooseX (hw : hk_tw s 18 nw) (hwh : hk_tw s 16 nh) (H : hk_Wk wt wh ww nw (fun i => s 19 (i * 3)) (fun i => s 19 (i * 3 + 1)) (fun i => s 19 (i * 3 + 2))) (HH : hk_Hd ht hh nh (fun i => s 17 (i * 2)) (fun i => s 17 (i * 2 + 1))) (h1 : ∀ s2, hk_F37 s s2 → s2 37 2 = nI (hk_pk (fun j => hk_cd ht hh nh wt wh nw (nI j)) (fun j => hk_wo ww (nI j) nw) (2 ^ nw)).1 → s2 37 3 = nI (hk_pk (fun j => hk_cd ht hh nh wt wh nw (nI j)) (fun j => hk_wo ww (nI j) nw) (2 ^ nw)).2 → k none (s2, lm, hk_RH i0 i1 b, al)) : hk_Cl (d + 4) 113 [.ref 37, .ref 1] (s, lm, hk_RH i0 i1 b, al) k := by
  have hn : nw ≤ 8 := hw.2.2.2
  have hnh : nh ≤ 8 := hwh.2.2.2
  have eb := hk_sh8 hn
  have hp : 2 ^ nw ≤ 256 := Nat.pow_le_pow_right (n := 2) (by omega) hn
  have loop : ∀ (g j : Nat) (s3 : Nat → Nat → Int32) (l3 : Option Value), j + g = 2 ^ nw → hk_F37 s s3 → (∀ g, g < 32 → s3 38 g = nI (hk_su ht hh g nh)) → s3 37 2 = nI (hk_pk (fun j => hk_cd ht hh nh wt wh nw (nI j)) (fun j => hk_wo ww (nI j) nw) j).1 → s3 37 3 = nI (hk_pk (fun j => hk_cd ht hh nh wt wh nw (nI j)) (fun j => hk_wo ww (nI j) nw) j).2 → hk_Rn (d + 3) none hk_c113 (hk_sfx 20 hk_c113) [some (.ref 37), some (.ref 1), some (.int (nI j)), l3] [] (s3, lm, hk_RH i0 i1 b, al) k := by
    intro g
    induction g with
    | zero =>
      intro j s3 l3 hj h3 _ hm1 hm2
      have e : j = 2 ^ nw := by omega
      have a1 : (1 : Int32) <<< (s3 18 3 &&& 31) ≤ nI j := by rw [h3 _ _ (by omega), hw.2.2.1, eb, e]; exact Int32.le_refl _
      refine hk_hd (n := 1000) (t := 20) rfl ?_
      refine And.intro (fun _ => ?_) (fun hc => absurd a1 hc)
      rw [e] at hm1 hm2
      exact h1 s3 h3 hm1 hm2
    | succ g ih =>
      intro j s3 l3 hj h3 hs3 hm1 hm2
      have a1 : ¬ (1 : Int32) <<< (s3 18 3 &&& 31) ≤ nI j := by rw [h3 _ _ (by omega), hw.2.2.1, eb]; exact hk_nlt (by omega) (by omega)
      have hw3 := hk_F37_tw h3 (by simp [hk_tb]) hw
      have H3 : hk_Wk wt wh ww nw (fun i => s3 19 (i * 3)) (fun i => s3 19 (i * 3 + 1)) (fun i => s3 19 (i * 3 + 2)) := fun i hi => by
        dsimp only
        rw [h3 _ _ (by omega), h3 _ _ (by omega), h3 _ _ (by omega)]
        exact H i hi
      have pl := hk_pk_le (P := fun j => hk_cd ht hh nh wt wh nw (nI j)) (W := fun j => hk_wo ww (nI j) nw) (c := 800) (fun j => Nat.le_trans (hk_wo_le nw (fun i hi => (H i hi).2.2.2.2.2)) (by omega)) j
      have wl := hk_wo_le (v := nI j) nw (fun i hi => (H i hi).2.2.2.2.2)
      refine hk_hd (n := 1000) (t := 20) rfl ?_
      refine And.intro (fun hc => absurd hc a1) (fun _ => ?_)
      refine c_worthX hw3 H3 ?_
      refine And.intro (fun c1 => ?_) (fun c1 => ?_)
      · have c1 : nI (hk_wo ww (nI j) nw) ≤ s3 37 3 := c1
        rw [hm2, nI_leI (by omega) (by omega)] at c1
        have pk : hk_pk (fun j => hk_cd ht hh nh wt wh nw (nI j)) (fun j => hk_wo ww (nI j) nw) (j + 1) = _ := hk_pk_n (fun q => absurd q.1 (Nat.not_lt.mpr c1))
        exact hk_Rn_cast (by rw [← nI_1 j]; rfl) (ih (j + 1) s3 _ (by omega) h3 hs3 (by rw [pk]; exact hm1) (by rw [pk]; exact hm2))
      have c1 : ¬ nI (hk_wo ww (nI j) nw) ≤ s3 37 3 := c1
      rw [hm2, nI_leI (by omega) (by omega)] at c1
      refine c_canDoX hw3 H3 (fun i hi => (HH i hi).2.2) hnh hs3 (fun s4 h4 hc => ?_) (fun s4 h4 hc => ?_)
      · have pk : hk_pk (fun j => hk_cd ht hh nh wt wh nw (nI j)) (fun j => hk_wo ww (nI j) nw) (j + 1) = (j, hk_wo ww (nI j) nw) := hk_pk_y (Nat.not_le.mp c1) hc
        refine And.intro (fun hc => absurd hc (by decide)) (fun _ => ?_)
        refine hk_Rn_cast (by rw [← nI_1 j]; rfl) (ih (j + 1) (hk_u2 (hk_u2 s4 37 2 (nI j)) 37 3 (nI (hk_wo ww (nI j) nw))) _ (by omega) (hk_F37_u (p := 37) (q := 3) (v := nI (hk_wo ww (nI j) nw)) (hk_F37_u (p := 37) (q := 2) (v := nI j) (fun p q hp => (h4 p q (by omega)).trans (h3 p q hp)) (by omega)) (by omega)) (fun g hg => ?_) ?_ ?_)
        · rw [hk_u2o (by omega), hk_u2o (by omega), h4 _ _ (by omega)]; exact hs3 g hg
        · rw [hk_u2o (by omega), hk_u2s, pk]
        · rw [hk_u2s, pk]
      · have pk : hk_pk (fun j => hk_cd ht hh nh wt wh nw (nI j)) (fun j => hk_wo ww (nI j) nw) (j + 1) = _ := hk_pk_n (fun q => hc q.2)
        refine And.intro (fun _ => ?_) (fun hc => absurd (by decide) hc)
        exact hk_Rn_cast (by rw [← nI_1 j]; rfl) (ih (j + 1) s4 _ (by omega) (fun p q hp => (h4 p q (by omega)).trans (h3 p q hp)) (fun g hg => by rw [h4 _ _ (by omega)]; exact hs3 g hg) (by rw [h4 _ _ (by omega), pk]; exact hm1) (by rw [h4 _ _ (by omega), pk]; exact hm2))
  refine hk_mth hk_m113 rfl rfl (n := 1000) ?_
  refine c_supplyX hwh HH (fun s2 h2 hs2 => ?_)
  refine loop (2 ^ nw) 0 (hk_u2 (hk_u2 s2 37 2 0) 37 3 0) none (by omega) (hk_F37_u (p := 37) (q := 3) (v := 0) (hk_F37_u (p := 37) (q := 2) (v := 0) h2 (by omega)) (by omega)) (fun g hg => ?_) ?_ ?_
  · rw [hk_u2o (by omega), hk_u2o (by omega)]; exact hs2 g hg
  · rw [hk_u2o (by omega), hk_u2s]; rfl
  · rw [hk_u2s]; rfl
theorem c_doneX (hw : hk_tw s 18 nw) (hwh : hk_tw s 16 nh) (H : hk_Wk wt wh ww nw (fun i => s 19 (i * 3)) (fun i => s 19 (i * 3 + 1)) (fun i => s 19 (i * 3 + 2))) (HH : hk_Hd ht hh nh (fun i => s 17 (i * 2)) (fun i => s 17 (i * 2 + 1))) (hb : ¬ hk_rg v 0 1 → k (some (.int (-2))) (s, lm, hk_RH i0 i1 b, al)) (hg : hk_rg v 0 1 → ∀ s2, hk_F37 s s2 → k (some (.int (if v = 0 then nI (hk_pk (fun j => hk_cd ht hh nh wt wh nw (nI j)) (fun j => hk_wo ww (nI j) nw) (2 ^ nw)).1 else nI (hk_pk (fun j => hk_cd ht hh nh wt wh nw (nI j)) (fun j => hk_wo ww (nI j) nw) (2 ^ nw)).2))) (s2, lm, hk_RH i0 i1 b, al)) : hk_Cl (d + 5) 112 [.ref 0, .int v] (s, lm, hk_RH i0 i1 b, al) k := by
  refine hk_mth hk_m112 rfl rfl (n := 1000) ?_
  refine c_within (fun p q => ?_) (fun a => ?_)
  rotate_left
  · refine And.intro (fun hc => absurd hc (by decide)) (fun _ => ?_)
    exact hb (fun q => a.elim q.1 q.2)
  refine And.intro (fun _ => ?_) (fun hc => absurd (by decide) hc)
  refine c_chooseX hw hwh H HH (fun s2 h2 m1 m2 => ?_)
  have key := hg ⟨p, q⟩ s2 h2
  rw [← m1, ← m2] at key
  refine And.intro (fun c1 => ?_) (fun c1 => ?_)
  · have c1 : ¬ v = 0 := c1
    rw [if_neg c1] at key
    exact key
  · have c1 : ¬ ¬ v = 0 := c1
    rw [if_pos (Classical.not_not.mp c1)] at key
    exact key
/-! the reference -/
theorem m_canDoX (h5 : s 41 5 = nI nh) (hh8 : nh ≤ 8) (h6 : s 41 6 = nI nw) (hw8 : nw ≤ 8) (H : hk_Wk wt wh ww nw (fun i => s 41 (1824 + 3 * i)) (fun i => s 41 (1824 + 3 * i + 1)) (fun i => s 41 (1824 + 3 * i + 2))) (HH : hk_Hd ht hh nh (fun i => s 41 (1808 + 2 * i)) (fun i => s 41 (1808 + 2 * i + 1))) (h1 : hk_cd ht hh nh wt wh nw v → k (some (.int 1)) (s, lm, hk_RH i0 i1 b, al)) (h0 : ¬ hk_cd ht hh nh wt wh nw v → k (some (.int 0)) (s, lm, hk_RH i0 i1 b, al)) : hk_Cl (d + 1) 215 [.ref 40, .int v] (s, lm, hk_RH i0 i1 b, al) k := by
  have loop : ∀ (q j : Nat) (l3 l4 l5 : Option Value), j + q = 32 → 1 ≤ j → (∀ g, g < j → hk_nd wt wh v g nw ≤ hk_su ht hh g nh) → hk_Rn d none hk_c215 (hk_sfx 2 hk_c215) [some (.ref 40), some (.int v), some (.int (nI j)), l3, l4, l5] [] (s, lm, hk_RH i0 i1 b, al) k := by
    intro q
    induction q with
    | zero =>
      intro j l3 l4 l5 hj hj1 hg
      have e : j = 32 := by omega
      subst e
      refine hk_hd (n := 1000) (t := 2) rfl ?_
      refine And.intro (fun _ => ?_) (fun hc => absurd (show (32 : Int32) ≤ nI 32 by decide) hc)
      exact And.intro (Or.inr rfl) (h1 hg)
    | succ q ih =>
      intro j l3 l4 l5 hj hj1 hg
      have a1 : ¬ nI 32 ≤ nI j := hk_nlt (by omega) (by omega)
      have q2 := fun i (hi : i ≤ nw) => hk_nd_le (wt := wt) (wh := wh) (v := v) (g := j) i (fun i2 hi2 => (H i2 (by omega)).2.2.2.2.1)
      have q3 := hk_su_le (ht := ht) (hh := hh) (g := j) nh (fun i hi => (HH i hi).2.2)
      have l73 : ∀ (q i : Nat) (e : Int32) (l5 : Option Value), i + q = nw → e = nI (hk_su ht hh j nh) - nI (hk_nd wt wh v j i) → hk_Rn d none hk_c215 (hk_sfx 73 hk_c215) [some (.ref 40), some (.int v), some (.int (nI j)), some (.int e), some (.int (nI i)), l5] [] (s, lm, hk_RH i0 i1 b, al) k := by
        intro q
        induction q with
        | zero =>
          intro i e l5 hi he
          have ei : i = nw := by omega
          subst ei
          have q4 := q2 i (by omega)
          have hcm : 0 ≤ e ↔ hk_nd wt wh v j i ≤ hk_su ht hh j nh := by
            rw [he]
            exact hk_cmpN (by omega) (by omega)
          refine hk_hd (n := 1000) (t := 73) rfl ?_
          refine hk_ldi (i := nI 6) (j := 6) (by simp only [hk_lit, pk_mul, nI_add]) (by omega) (by decide) h6 ?_
          refine And.intro (fun _ => ?_) (fun hc => absurd (Int32.le_refl _) hc)
          refine And.intro (fun c1 => ?_) (fun c1 => ?_)
          · have c1 := hcm.mp c1
            refine hk_Rn_cast (by rw [← nI_1 j]; rfl) (ih (j + 1) _ _ l5 (by omega) (by omega) (fun g hg2 => ?_))
            by_cases e : g = j
            · subst e; exact c1
            · exact hg g (by omega)
          · exact And.intro (Or.inl rfl) (h0 (fun q => c1 (hcm.mpr (q j (by omega)))))
        | succ q ih2 =>
          intro i e l5 hi he
          have a2 : ¬ nI nw ≤ nI i := hk_nlt (by omega) (by omega)
          obtain ⟨e1, e2, e3, e4, e5, e6⟩ := H i (by omega)
          have sk : ¬ (hk_bb v (nI i) ∧ hk_bb (nI j) (nI (wt i))) → e - 0 = nI (hk_su ht hh j nh) - nI (hk_nd wt wh v j (i + 1)) := fun hn => by
            rw [hk_nd, if_neg hn, he, Nat.add_zero]
            exact Int32.sub_zero _
          refine hk_hd (n := 1000) (t := 73) rfl ?_
          refine hk_ldi (i := nI 6) (j := 6) (by simp only [hk_lit, pk_mul, nI_add]) (by omega) (by decide) h6 ?_
          refine And.intro (fun hc => absurd hc a2) (fun _ => ?_)
          refine And.intro (fun c1 => ?_) (fun c1 => ?_)
          · have c1 : ¬ hk_bb v (nI i) := c1
            refine And.intro (fun _ => ?_) (fun hc => absurd (by decide) hc)
            exact hk_Rn_cast (by rw [← nI_1 i]; rfl) (ih2 (i + 1) _ _ (by omega) (sk (fun q => c1 q.1)))
          have c1 : ¬ ¬ hk_bb v (nI i) := c1
          refine hk_ldi (i := 1824 + 3 * nI i) (j := 1824 + 3 * i) (by simp only [hk_lit, pk_mul, nI_add]) (by omega) (by decide) e1 ?_
          refine And.intro (fun c2 => ?_) (fun c2 => ?_)
          · have c2 : ¬ hk_bb (nI j) (nI (wt i)) := c2
            refine And.intro (fun _ => ?_) (fun hc => absurd (by decide) hc)
            exact hk_Rn_cast (by rw [← nI_1 i]; rfl) (ih2 (i + 1) _ _ (by omega) (sk (fun q => c2 q.2)))
          · have c2 : ¬ ¬ hk_bb (nI j) (nI (wt i)) := c2
            refine And.intro (fun hc => absurd hc (by decide)) (fun _ => ?_)
            refine hk_ldi (i := 1824 + 3 * nI i + 1) (j := 1824 + 3 * i + 1) (by simp only [hk_lit, pk_mul, nI_add]) (by omega) (by decide) e2 ?_
            refine hk_Rn_cast (by rw [← nI_1 i]; rfl) (ih2 (i + 1) _ _ (by omega) ?_)
            rw [hk_nd, if_pos ⟨Classical.not_not.mp c1, Classical.not_not.mp c2⟩, he, ← nI_add]
            exact Int32.sub_sub _ _ _
      have l13 : ∀ (q i : Nat) (l5 : Option Value), i + q = nh → hk_Rn d none hk_c215 (hk_sfx 13 hk_c215) [some (.ref 40), some (.int v), some (.int (nI j)), some (.int (nI (hk_su ht hh j i))), some (.int (nI i)), l5] [] (s, lm, hk_RH i0 i1 b, al) k := by
        intro q
        induction q with
        | zero =>
          intro i l5 hi
          have ei : i = nh := by omega
          subst ei
          refine hk_hd (n := 1000) (t := 13) rfl ?_
          refine hk_ldi (i := nI 5) (j := 5) (by simp only [hk_lit, pk_mul, nI_add]) (by omega) (by decide) h5 ?_
          refine And.intro (fun _ => ?_) (fun hc => absurd (Int32.le_refl _) hc)
          exact l73 nw 0 _ l5 (by omega) (Int32.sub_zero _).symm
        | succ q ih2 =>
          intro i l5 hi
          have a2 : ¬ nI nh ≤ nI i := hk_nlt (by omega) (by omega)
          obtain ⟨e1, e2, e3⟩ := HH i (by omega)
          refine hk_hd (n := 1000) (t := 13) rfl ?_
          refine hk_ldi (i := nI 5) (j := 5) (by simp only [hk_lit, pk_mul, nI_add]) (by omega) (by decide) h5 ?_
          refine And.intro (fun hc => absurd hc a2) (fun _ => ?_)
          refine hk_ldi (i := 1808 + 2 * nI i) (j := 1808 + 2 * i) (by simp only [hk_lit, pk_mul, nI_add]) (by omega) (by decide) e1 ?_
          refine And.intro (fun c1 => ?_) (fun c1 => ?_)
          · have c1 : ht i &&& nI j = 0 := c1
            refine hk_Rn_cast ?_ (ih2 (i + 1) l5 (by omega))
            rw [hk_su, if_pos c1, ← nI_1 i, ← nI_add]
            rfl
          · have c1 : ¬ ht i &&& nI j = 0 := c1
            refine hk_ldi (i := 1808 + 2 * nI i + 1) (j := 1808 + 2 * i + 1) (by simp only [hk_lit, pk_mul, nI_add]) (by omega) (by decide) e2 ?_
            refine hk_Rn_cast ?_ (ih2 (i + 1) l5 (by omega))
            rw [hk_su, if_neg c1, ← nI_1 i, ← nI_add]
            rfl
      refine hk_hd (n := 1000) (t := 2) rfl ?_
      refine And.intro (fun hc => absurd hc a1) (fun _ => ?_)
      exact l13 nh 0 l5 (by omega)
  refine hk_mth hk_m215 rfl rfl (n := 1000) ?_
  exact loop 31 1 none none none (by omega) (by omega) (fun g hg => by
    have e : g = 0 := by omega
    subst e
    rw [hk_nd_0 nw (fun i hi => (H i hi).2.2.2.1)]
    exact Nat.zero_le _)
theorem m_doneX (h5 : s 41 5 = nI nh) (hh8 : nh ≤ 8) (h6 : s 41 6 = nI nw) (hw8 : nw ≤ 8) (H : hk_Wk wt wh ww nw (fun i => s 41 (1824 + 3 * i)) (fun i => s 41 (1824 + 3 * i + 1)) (fun i => s 41 (1824 + 3 * i + 2))) (HH : hk_Hd ht hh nh (fun i => s 41 (1808 + 2 * i)) (fun i => s 41 (1808 + 2 * i + 1))) (hb : ¬ hk_rg z 0 1 → k (some (.int (-2))) (s, lm, hk_RH i0 i1 b, al)) (hg : hk_rg z 0 1 → k (some (.int (if z = 0 then nI (hk_pk (fun j => hk_cd ht hh nh wt wh nw (nI j)) (fun j => hk_wo ww (nI j) nw) (2 ^ nw)).1 else nI (hk_pk (fun j => hk_cd ht hh nh wt wh nw (nI j)) (fun j => hk_wo ww (nI j) nw) (2 ^ nw)).2))) (s, lm, hk_RH i0 i1 b, al)) : hk_Cl (d + 3) 214 [.ref 40, .int z] (s, lm, hk_RH i0 i1 b, al) k := by
  have eb := hk_sh8 hw8
  have hp : 2 ^ nw ≤ 256 := Nat.pow_le_pow_right (n := 2) (by omega) hw8
  have hp1 : 1 ≤ 2 ^ nw := Nat.one_le_two_pow
  refine hk_mth hk_m214 rfl rfl (n := 1000) ?_
  refine m_in (fun p1 p2 => ?_) (fun a => ?_)
  rotate_left
  · refine And.intro (fun hc => absurd hc (by decide)) (fun _ => ?_)
    exact hb (fun q => a.elim q.1 q.2)
  refine And.intro (fun _ => ?_) (fun hc => absurd (by decide) hc)
  have hg := hg ⟨p1, p2⟩
  have loop : ∀ (g j : Nat) (e f : Int32) (l5 l6 : Option Value), j + g = 2 ^ nw → e = nI (hk_pk (fun j => hk_cd ht hh nh wt wh nw (nI j)) (fun j => hk_wo ww (nI j) nw) j).1 → f = nI (hk_pk (fun j => hk_cd ht hh nh wt wh nw (nI j)) (fun j => hk_wo ww (nI j) nw) j).2 → hk_Rn (d + 2) none hk_c214 (hk_sfx 19 hk_c214) [some (.ref 40), some (.int z), some (.int e), some (.int f), some (.int (nI j)), l5, l6] [] (s, lm, hk_RH i0 i1 b, al) k := by
    intro g
    induction g with
    | zero =>
      intro j e f l5 l6 hj he hf
      have ej : j = 2 ^ nw := by omega
      have a1 : (1 : Int32) <<< (nI nw &&& 31) ≤ nI j := by rw [eb, ej]; exact Int32.le_refl _
      rw [ej] at he hf
      rw [← he, ← hf] at hg
      refine hk_hd (n := 1000) (t := 19) rfl ?_
      refine hk_ldi (i := nI 6) (j := 6) (by simp only [hk_lit, pk_mul, nI_add]) (by omega) (by decide) h6 ?_
      refine And.intro (fun _ => ?_) (fun hc => absurd a1 hc)
      refine And.intro (fun c1 => ?_) (fun c1 => ?_)
      · have c1 : ¬ z = 0 := c1
        rw [if_neg c1] at hg
        exact hg
      · have c1 : ¬ ¬ z = 0 := c1
        rw [if_pos (Classical.not_not.mp c1)] at hg
        exact hg
    | succ g ih =>
      intro j e f l5 l6 hj he hf
      have a1 : ¬ (1 : Int32) <<< (nI nw &&& 31) ≤ nI j := by rw [eb]; exact hk_nlt (by omega) (by omega)
      have pl := hk_pk_le (P := fun j => hk_cd ht hh nh wt wh nw (nI j)) (W := fun j => hk_wo ww (nI j) nw) (c := 800) (fun j => Nat.le_trans (hk_wo_le nw (fun i hi => (H i hi).2.2.2.2.2)) (by omega)) j
      have wl := hk_wo_le (v := nI j) nw (fun i hi => (H i hi).2.2.2.2.2)
      have nx : ∀ (e f v5 v6 : Int32), e = nI (hk_pk (fun j => hk_cd ht hh nh wt wh nw (nI j)) (fun j => hk_wo ww (nI j) nw) (j + 1)).1 → f = nI (hk_pk (fun j => hk_cd ht hh nh wt wh nw (nI j)) (fun j => hk_wo ww (nI j) nw) (j + 1)).2 → hk_Rn (d + 2) none hk_c214 (hk_sfx 19 hk_c214) [some (.ref 40), some (.int z), some (.int e), some (.int f), some (.int (nI j + 1)), some (.int v5), some (.int v6)] [] (s, lm, hk_RH i0 i1 b, al) k := fun e f v5 v6 he hf => hk_Rn_cast (by rw [nI_1]) (ih (j + 1) e f _ _ (by omega) he hf)
      have l39 : ∀ (g i : Nat), i + g = nw → hk_Rn (d + 2) none hk_c214 (hk_sfx 39 hk_c214) [some (.ref 40), some (.int z), some (.int e), some (.int f), some (.int (nI j)), some (.int (nI (hk_wo ww (nI j) i))), some (.int (nI i))] [] (s, lm, hk_RH i0 i1 b, al) k := by
        intro g
        induction g with
        | zero =>
          intro i hi
          have ei : i = nw := by omega
          subst ei
          refine hk_hd (n := 1000) (t := 39) rfl ?_
          refine hk_ldi (i := nI 6) (j := 6) (by simp only [hk_lit, pk_mul, nI_add]) (by omega) (by decide) h6 ?_
          refine And.intro (fun _ => ?_) (fun hc => absurd (Int32.le_refl _) hc)
          refine And.intro (fun c1 => ?_) (fun c1 => ?_)
          · have c1 : nI (hk_wo ww (nI j) i) ≤ f := c1
            rw [hf, nI_leI (by omega) (by omega)] at c1
            have pk : hk_pk (fun j => hk_cd ht hh nh wt wh i (nI j)) (fun j => hk_wo ww (nI j) i) (j + 1) = _ := hk_pk_n (fun q => absurd q.1 (Nat.not_lt.mpr c1))
            exact nx _ _ _ _ (by rw [pk]; exact he) (by rw [pk]; exact hf)
          have c1 : ¬ nI (hk_wo ww (nI j) i) ≤ f := c1
          rw [hf, nI_leI (by omega) (by omega)] at c1
          refine m_canDoX h5 hh8 h6 hw8 H HH (fun hc => ?_) (fun hc => ?_)
          · have pk : hk_pk (fun j => hk_cd ht hh nh wt wh i (nI j)) (fun j => hk_wo ww (nI j) i) (j + 1) = (j, hk_wo ww (nI j) i) := hk_pk_y (Nat.not_le.mp c1) hc
            refine And.intro (fun hc => absurd hc (by decide)) (fun _ => ?_)
            exact nx _ _ _ _ (by rw [pk]) (by rw [pk])
          · have pk : hk_pk (fun j => hk_cd ht hh nh wt wh i (nI j)) (fun j => hk_wo ww (nI j) i) (j + 1) = _ := hk_pk_n (fun q => hc q.2)
            refine And.intro (fun _ => ?_) (fun hc => absurd (by decide) hc)
            exact nx _ _ _ _ (by rw [pk]; exact he) (by rw [pk]; exact hf)
        | succ g ih2 =>
          intro i hi
          have a2 : ¬ nI nw ≤ nI i := hk_nlt (by omega) (by omega)
          obtain ⟨e1, e2, e3, e4, e5, e6⟩ := H i (by omega)
          refine hk_hd (n := 1000) (t := 39) rfl ?_
          refine hk_ldi (i := nI 6) (j := 6) (by simp only [hk_lit, pk_mul, nI_add]) (by omega) (by decide) h6 ?_
          refine And.intro (fun hc => absurd hc a2) (fun _ => ?_)
          refine And.intro (fun c1 => ?_) (fun c1 => ?_)
          · have c1 : ¬ hk_bb (nI j) (nI i) := c1
            refine hk_Rn_cast ?_ (ih2 (i + 1) (by omega))
            rw [hk_wo, if_neg c1, ← nI_1 i, ← nI_add]
            rfl
          · have c1 : ¬ ¬ hk_bb (nI j) (nI i) := c1
            refine hk_ldi (i := 1824 + 3 * nI i + 2) (j := 1824 + 3 * i + 2) (by simp only [hk_lit, pk_mul, nI_add]) (by omega) (by decide) e3 ?_
            refine hk_Rn_cast ?_ (ih2 (i + 1) (by omega))
            rw [hk_wo, if_pos (Classical.not_not.mp c1), ← nI_1 i, ← nI_add]
            rfl
      refine hk_hd (n := 1000) (t := 19) rfl ?_
      refine hk_ldi (i := nI 6) (j := 6) (by simp only [hk_lit, pk_mul, nI_add]) (by omega) (by decide) h6 ?_
      refine And.intro (fun hc => absurd hc a1) (fun _ => ?_)
      exact l39 nw 0 (by omega)
  have p0 : hk_pk (fun j => hk_cd ht hh nh wt wh nw (nI j)) (fun j => hk_wo ww (nI j) nw) 1 = (0, 0) := by
    refine hk_pk_n (j := 0) (fun q => ?_)
    have q1 := q.1
    have q1 : (hk_pk (fun j => hk_cd ht hh nh wt wh nw (nI j)) (fun j => hk_wo ww (nI j) nw) 0).2 < hk_wo ww (nI 0) nw := q1
    rw [hk_wo_0 nw hw8] at q1
    exact absurd q1 (Nat.not_lt_zero _)
  exact loop (2 ^ nw - 1) 1 0 0 none none (by omega) (by rw [p0]; rfl) (by rw [p0]; rfl)
theorem q_doneE : hk_SI 112 214 [.int v] True := by
  rintro h ⟨s, lm, i0, i1, b, al, rfl, hc, hi⟩
  obtain ⟨aa, bb, r, hr⟩ := hi.2.2.1
  obtain ⟨nh, hh8, en5⟩ := hr.2.2.2.2.2.2.2.2.2.2.1
  obtain ⟨nw, hw8, en6, hx⟩ := hr.2.2.2.2.2.2.2.2.2.2.2.1
  obtain ⟨n1, ht1⟩ := hi.1.1 16 (by simp [hk_tb])
  obtain ⟨n2, ht2⟩ := hi.1.1 18 (by simp [hk_tb])
  have e1 : s 16 3 = s 41 5 := hi.2.1 15 3 5 hk_lp4
  have e2 : s 18 3 = s 41 6 := hi.2.1 17 3 6 hk_lp5
  have m1 : n1 ≤ 8 := ht1.2.2.2
  have m2 : n2 ≤ 8 := ht2.2.2.2
  have ea : n1 = nh := (nI_eq (by omega) (by omega)).mp (ht1.2.2.1.symm.trans (e1.trans en5))
  have eb : n2 = nw := (nI_eq (by omega) (by omega)).mp (ht2.2.2.1.symm.trans (e2.trans en6))
  subst ea eb
  have c16 : ∀ i, i < 16 → s 17 i = s 41 (1808 + i) := fun i h => hi.2.1 16 i (1808 + i) (hk_lp14 h rfl)
  have c18 : ∀ i, i < 24 → s 19 i = s 41 (1824 + i) := fun i h => hi.2.1 18 i (1824 + i) (hk_lp15 h rfl)
  have HH : hk_Hd (fun i => s 41 (1808 + 2 * i)) (fun i => (s 41 (1808 + 2 * i + 1)).toNatClampNeg) n1 (fun i => s 41 (1808 + 2 * i)) (fun i => s 41 (1808 + 2 * i + 1)) := fun i hi2 => by
    obtain ⟨t, m, q1, q2, q3, q4, q5⟩ := hx.1 n1 hh8 en5 i hi2
    dsimp only
    rw [q5, nI_clamp (by omega)]
    exact ⟨rfl, rfl, q3⟩
  have H : hk_Wk (fun i => (s 41 (1824 + 3 * i)).toNatClampNeg) (fun i => (s 41 (1824 + 3 * i + 1)).toNatClampNeg) (fun i => (s 41 (1824 + 3 * i + 2)).toNatClampNeg) n2 (fun i => s 41 (1824 + 3 * i)) (fun i => s 41 (1824 + 3 * i + 1)) (fun i => s 41 (1824 + 3 * i + 2)) := fun i hi2 => by
    obtain ⟨t, m, w, q1, q2, q3, q4, q5, q6, q7, q8⟩ := hx.2.1 n2 hw8 en6 i hi2
    dsimp only
    rw [q6, q7, q8, nI_clamp (by omega), nI_clamp (by omega), nI_clamp (by omega)]
    exact ⟨rfl, rfl, rfl, q1, q3, q5⟩
  have HHc : hk_Hd (fun i => s 41 (1808 + 2 * i)) (fun i => (s 41 (1808 + 2 * i + 1)).toNatClampNeg) n1 (fun i => s 17 (i * 2)) (fun i => s 17 (i * 2 + 1)) := fun i hi2 => by
    have := HH i hi2
    dsimp only at this ⊢
    rw [c16 _ (by omega), c16 _ (by omega), show 1808 + i * 2 = 1808 + 2 * i by omega, show 1808 + (i * 2 + 1) = 1808 + 2 * i + 1 by omega]
    exact this
  have Hc : hk_Wk (fun i => (s 41 (1824 + 3 * i)).toNatClampNeg) (fun i => (s 41 (1824 + 3 * i + 1)).toNatClampNeg) (fun i => (s 41 (1824 + 3 * i + 2)).toNatClampNeg) n2 (fun i => s 19 (i * 3)) (fun i => s 19 (i * 3 + 1)) (fun i => s 19 (i * 3 + 2)) := fun i hi2 => by
    have := H i hi2
    dsimp only at this ⊢
    rw [c18 _ (by omega), c18 _ (by omega), c18 _ (by omega), show 1824 + i * 3 = 1824 + 3 * i by omega, show 1824 + (i * 3 + 1) = 1824 + 3 * i + 1 by omega, show 1824 + (i * 3 + 2) = 1824 + 3 * i + 2 by omega]
    exact this
  refine c_doneX (d := 995) ht2 ht1 Hc HHc (fun hb => ⟨_, rfl, m_doneX (d := 997) en5 hh8 en6 hw8 H HH (fun _ => ⟨_, rfl, fun _ => rfl, hk_Inv_mk hc hi⟩) (fun hg => absurd hg hb)⟩) (fun hg s2 h2 => ⟨_, rfl, ?_⟩)
  have e41 : s2 41 = s 41 := funext fun q => h2 41 q (by omega)
  have hi2 : hk_IS s2 i0 i1 := hk_safe hi (hk_CF_p hi.1 (fun p q hp => h2 p q (by omega))) (hk_Gw_r s2) (by rw [e41]; exact ⟨_, _, _, hr⟩)
  refine m_doneX (d := 997) (nh := n1) (nw := n2) (by rw [e41]; exact en5) hh8 (by rw [e41]; exact en6) hw8 (by rw [e41]; exact H) (by rw [e41]; exact HH) (fun hb => absurd hg hb) (fun _ => ⟨_, rfl, fun _ => rfl, hk_Inv_mk hc hi2⟩)
end HKEB
