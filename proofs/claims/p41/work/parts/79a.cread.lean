/-! ===== the class reads ships and plates: what it comes to, over a row ===== -/
def hk_mx0 (v : Int32) : Int32 := if 0 < v then v else 0
def hk_mn2 (x y : Int32) : Int32 := if y < x then y else x
def hk_zn (f : Nat → Int32) (p : Nat) : Nat := (f (80 + 6 * p + 1)).toNatClampNeg
def hk_wrP (f : Nat → Int32) (p : Nat) : Int32 := f (12 + hk_zn f p)
def hk_thk (f : Nat → Int32) (p : Nat) (m : Int32) : Int32 := hk_mx0 (f (80 + 6 * p + 2) - m * hk_wrP f p)
def hk_lkT (f : Nat → Int32) (T : Int32) (p : Nat) : Int32 := if f (80 + 6 * p + 1) = 0 then 0 else if f (80 + 6 * p + 1) = 2 then 3 * hk_mx0 (f 8 - T) else hk_mx0 (f 8 - T)
def hk_lkS (f : Nat → Int32) (T : Nat → Int32) (v : Int32) : Nat → Int32
  | 0 => 0
  | p + 1 => if f (80 + 6 * p) = v then hk_lkS f T v p + hk_lkT f (T p) p else hk_lkS f T v p
def hk_poS (f : Nat → Int32) (v : Int32) : Nat → Int32
  | 0 => 0
  | p + 1 => if f (80 + 6 * p) = v then hk_poS f v p + 1 else hk_poS f v p
def hk_fsS (f : Nat → Int32) (v : Int32) : Nat → Int32
  | 0 => 0
  | p + 1 => if f (80 + 6 * p) = v ∧ f (80 + 6 * p + 5) = 1 then hk_fsS f v p + f (80 + 6 * p + 3) else hk_fsS f v p
def hk_fsV (f : Nat → Int32) (i bb : Nat) : Int32 := if f (20 + 10 * i + 7) = 0 then -1 else 1000 * hk_fsS f (nI i) bb / f (20 + 10 * i + 7)
def hk_lsV (f : Nat → Int32) (i : Nat) (w : Int32) : Int32 := (f (20 + 10 * i + 2) + w + f (20 + 10 * i + 4)) / f (20 + 10 * i)
section HKEH
variable {d n a bb r : Nat} {v w x y z : Int32} {s : Nat → Nat → Int32} {lm : Nat → Nat → Int64} {i0 i1 b : Nat} {al : List Nat} {k : Option Value → hk_H → Prop} {f : Nat → Int32}
theorem hk_tw2 (hw : hk_TW s) (hR : hk_Rel s 1 f) (h : hk_RI f a bb r) : hk_tw s 2 a := by
  obtain ⟨n, hn⟩ := hw.1 2 (by simp [hk_tb])
  have e : s (1 + 1) 3 = f 0 := hR 1 3 0 hk_lp0
  have hm : n ≤ 6 := hn.2.2.2
  have ha := h.1.1
  have en : n = a := (nI_eq (by omega) (by omega)).mp (hn.2.2.1.symm.trans (e.trans h.2.1.1))
  exact en ▸ hn
theorem hk_tw4 (hw : hk_TW s) (hR : hk_Rel s 1 f) (h : hk_RI f a bb r) : hk_tw s 4 bb := by
  obtain ⟨n, hn⟩ := hw.1 4 (by simp [hk_tb])
  have e : s (1 + 3) 3 = f 1 := hR 3 3 1 hk_lp1
  have hm : n ≤ 96 := hn.2.2.2
  have ha := h.1.2.1
  have en : n = bb := (nI_eq (by omega) (by omega)).mp (hn.2.2.1.symm.trans (e.trans h.2.1.2.1))
  exact en ▸ hn
theorem c_gP (hw : hk_tw s 4 n) (hR : hk_Rel s 1 f) {p c : Nat} (hp : p < n) (hc : c < 6) (h1 : k (some (.int (f (80 + 6 * p + c)))) (s, lm, hk_RH i0 i1 b, al)) : hk_Cl (d + 1) 16 [.ref 4, .int (nI p), .int (nI c)] (s, lm, hk_RH i0 i1 b, al) k := by
  have hm : n ≤ 96 := hw.2.2.2
  have e : s (4 + 1) (p * hk_co 4 + c) = f (80 + 6 * p + c) := hR 4 (p * 6 + c) (80 + 6 * p + c) (hk_lp17 (by omega) (by omega))
  rw [← e] at h1
  exact c_get_in (by simp [hk_tb]) hw hp hc h1
theorem c_gS (hw : hk_tw s 2 n) (hR : hk_Rel s 1 f) {i c : Nat} (hi : i < n) (hc : c < 9) (h1 : k (some (.int (f (20 + 10 * i + c)))) (s, lm, hk_RH i0 i1 b, al)) : hk_Cl (d + 1) 16 [.ref 2, .int (nI i), .int (nI c)] (s, lm, hk_RH i0 i1 b, al) k := by
  have hm : n ≤ 6 := hw.2.2.2
  have e : s (2 + 1) (i * hk_co 2 + c) = f (20 + 10 * i + c) := hR 2 (i * 9 + c) (20 + 10 * i + c) (hk_lp16 (by omega) hc)
  rw [← e] at h1
  exact c_get_in (by simp [hk_tb]) hw hi hc h1
theorem c_floatsX (hw : hk_tw s 2 a) (hR : hk_Rel s 1 f) {i : Nat} (hi : i < a) (h1 : f (20 + 10 * i + 6) = 0 → k (some (.int 1)) (s, lm, hk_RH i0 i1 b, al)) (h0 : ¬ f (20 + 10 * i + 6) = 0 → k (some (.int 0)) (s, lm, hk_RH i0 i1 b, al)) : hk_Cl (d + 2) 30 [.ref 1, .int (nI i)] (s, lm, hk_RH i0 i1 b, al) k := by
  refine hk_mth hk_m30 rfl rfl (n := 1000) ?_
  refine c_gS (c := 6) hw hR hi (by omega) ?_
  refine And.intro (fun c1 => ?_) (fun c1 => ?_)
  · exact And.intro (Or.inl rfl) (h0 c1)
  · exact And.intro (Or.inr rfl) (h1 (Classical.not_not.mp c1))
theorem c_wearOfX (hw : hk_tw s 4 bb) (hR : hk_Rel s 1 f) {p zz : Nat} (hp : p < bb) (hz : f (80 + 6 * p + 1) = nI zz) (hz3 : zz < 3) (h1 : k (some (.int (hk_wrP f p))) (s, lm, hk_RH i0 i1 b, al)) : hk_Cl (d + 2) 33 [.ref 1, .int (nI p)] (s, lm, hk_RH i0 i1 b, al) k := by
  have e : hk_wrP f p = s 20 zz := by
    unfold hk_wrP hk_zn
    rw [hz, nI_clamp (by omega)]
    exact (hR 19 zz (12 + zz) (hk_lp7 hz3 rfl)).symm
  rw [e] at h1
  refine hk_mth hk_m33 rfl rfl (n := 1000) ?_
  refine c_gP (c := 1) hw hR hp (by omega) ?_
  rw [hz]
  refine c_within (fun p q => ?_) (fun a => ?_)
  · refine And.intro (fun hc => absurd hc (by decide)) (fun _ => ?_)
    refine hk_ldi (i := nI zz) (j := zz) (by simp only [hk_lit, pk_mul, nI_add]) (by omega) (by decide) rfl ?_
    exact h1
  · exfalso
    rcases a with a | a
    · exact nI_pos (by omega) a
    · have a : nI 2 < nI zz := a
      rw [nI_ltI (by omega) (by omega)] at a
      omega
theorem c_thickX (hw : hk_tw s 4 bb) (hR : hk_Rel s 1 f) {p zz : Nat} (hp : p < bb) (hz : f (80 + 6 * p + 1) = nI zz) (hz3 : zz < 3) (h1 : k (some (.int (hk_thk f p w))) (s, lm, hk_RH i0 i1 b, al)) : hk_Cl (d + 3) 32 [.ref 1, .int (nI p), .int w] (s, lm, hk_RH i0 i1 b, al) k := by
  refine hk_mth hk_m32 rfl rfl (n := 1000) ?_
  refine c_gP (c := 2) hw hR hp (by omega) ?_
  refine c_wearOfX hw hR hp hz hz3 ?_
  exact h1
theorem c_platesOfX (hw : hk_tw s 4 bb) (hR : hk_Rel s 1 f) (h1 : k (some (.int (hk_poS f v bb))) (s, lm, hk_RH i0 i1 b, al)) : hk_Cl (d + 2) 17 [.ref 1, .int v] (s, lm, hk_RH i0 i1 b, al) k := by
  have hm : bb ≤ 96 := hw.2.2.2
  have loop : ∀ (q j : Nat), j + q = bb → hk_Rn (d + 1) none hk_c17 (hk_sfx 4 hk_c17) [some (.ref 1), some (.int v), some (.int (hk_poS f v j)), some (.int (nI j))] [] (s, lm, hk_RH i0 i1 b, al) k := by
    intro q
    induction q with
    | zero =>
      intro j hj
      have e : j = bb := by omega
      subst e
      refine hk_hd (n := 1000) (t := 4) rfl ?_
      refine And.intro (fun _ => ?_) (fun hc => absurd (show s 4 3 ≤ nI j by rw [hw.2.2.1]; exact Int32.le_refl _) hc)
      exact h1
    | succ q ih =>
      intro j hj
      refine hk_hd (n := 1000) (t := 4) rfl ?_
      refine And.intro (fun hc => absurd hc (show ¬ s 4 3 ≤ nI j by rw [hw.2.2.1]; exact hk_nlt (by omega) (by omega))) (fun _ => ?_)
      refine c_gP (c := 0) hw hR (by omega) (by omega) ?_
      refine And.intro (fun c1 => ?_) (fun c1 => ?_)
      · have c1 : ¬ f (80 + 6 * j) = v := c1
        refine hk_Rn_cast ?_ (ih (j + 1) (by omega))
        rw [hk_poS, if_neg c1, ← nI_1]
        rfl
      · have c1 : ¬ ¬ f (80 + 6 * j) = v := c1
        refine hk_Rn_cast ?_ (ih (j + 1) (by omega))
        rw [hk_poS, if_pos (Classical.not_not.mp c1), ← nI_1]
        rfl
  refine hk_mth hk_m17 rfl rfl (n := 1000) ?_
  exact loop bb 0 (by omega)
theorem c_firstStuffX (hw2 : hk_tw s 2 a) (hw : hk_tw s 4 bb) (hR : hk_Rel s 1 f) {i m : Nat} (hi : i < a) (hl : f (20 + 10 * i + 7) = nI m) (hm1 : m ≤ 96000) (h1 : k (some (.int (hk_fsV f i bb))) (s, lm, hk_RH i0 i1 b, al)) : hk_Cl (d + 2) 40 [.ref 1, .int (nI i)] (s, lm, hk_RH i0 i1 b, al) k := by
  have hm : bb ≤ 96 := hw.2.2.2
  refine hk_mth hk_m40 rfl rfl (n := 1000) ?_
  refine c_gS (c := 7) hw2 hR hi (by omega) ?_
  unfold hk_fsV at h1
  refine And.intro (fun c1 => ?_) (fun c1 => ?_)
  rotate_left
  · have c1 : ¬ 0 < f (20 + 10 * i + 7) := c1
    have e0 : f (20 + 10 * i + 7) = 0 := by
      rw [hl] at c1 ⊢
      have c1 : ¬ nI 0 < nI m := c1
      rw [nI_ltI (by omega) (by omega)] at c1
      have : m = 0 := by omega
      subst this
      rfl
    rw [if_pos e0] at h1
    exact h1
  have c1 : 0 < f (20 + 10 * i + 7) := c1
  have e0 : ¬ f (20 + 10 * i + 7) = 0 := fun e => absurd c1 (by rw [e]; decide)
  rw [if_neg e0] at h1
  have loop : ∀ (q j : Nat), j + q = bb → hk_Rn (d + 1) none hk_c40 (hk_sfx 22 hk_c40) [some (.ref 1), some (.int (nI i)), some (.int (f (20 + 10 * i + 7))), some (.int (hk_fsS f (nI i) j)), some (.int (nI j))] [] (s, lm, hk_RH i0 i1 b, al) k := by
    intro q
    induction q with
    | zero =>
      intro j hj
      have e : j = bb := by omega
      subst e
      rw [Int32.mul_comm] at h1
      refine hk_hd (n := 1000) (t := 22) rfl ?_
      refine And.intro (fun _ => ?_) (fun hc => absurd (show s 4 3 ≤ nI j by rw [hw.2.2.1]; exact Int32.le_refl _) hc)
      refine And.intro e0 ?_
      exact h1
    | succ q ih =>
      intro j hj
      have nx : ¬ (f (80 + 6 * j) = nI i ∧ f (80 + 6 * j + 5) = 1) → hk_Rn (d + 1) none hk_c40 (hk_sfx 22 hk_c40) [some (.ref 1), some (.int (nI i)), some (.int (f (20 + 10 * i + 7))), some (.int (hk_fsS f (nI i) j)), some (.int (nI j + 1))] [] (s, lm, hk_RH i0 i1 b, al) k := fun c => by
        have := ih (j + 1) (by omega)
        rw [hk_fsS, if_neg c, ← nI_1] at this
        exact this
      refine hk_hd (n := 1000) (t := 22) rfl ?_
      refine And.intro (fun hc => absurd hc (show ¬ s 4 3 ≤ nI j by rw [hw.2.2.1]; exact hk_nlt (by omega) (by omega))) (fun _ => ?_)
      refine c_gP (c := 0) hw hR (by omega) (by omega) ?_
      refine And.intro (fun c2 => ?_) (fun c2 => ?_)
      · have c2 : ¬ f (80 + 6 * j) = nI i := c2
        exact nx (fun q => c2 q.1)
      have c2 : ¬ ¬ f (80 + 6 * j) = nI i := c2
      refine c_gP (c := 5) hw hR (by omega) (by omega) ?_
      refine And.intro (fun c3 => ?_) (fun c3 => ?_)
      · have c3 : ¬ f (80 + 6 * j + 5) = 1 := c3
        exact nx (fun q => c3 q.2)
      have c3 : ¬ ¬ f (80 + 6 * j + 5) = 1 := c3
      refine c_gP (c := 3) hw hR (by omega) (by omega) ?_
      refine hk_Rn_cast ?_ (ih (j + 1) (by omega))
      rw [hk_fsS, if_pos ⟨Classical.not_not.mp c2, Classical.not_not.mp c3⟩, ← nI_1]
      rfl
  exact loop bb 0 (by omega)
theorem c_leaksX2 (hw : hk_tw s 4 bb) (hR : hk_Rel s 1 f) (hz : ∀ p, p < bb → ∃ z, z < 3 ∧ f (80 + 6 * p + 1) = nI z) (h1 : k (some (.int (hk_lkS f (fun p => hk_thk f p w) v bb))) (s, lm, hk_RH i0 i1 b, al)) : hk_Cl (d + 4) 31 [.ref 1, .int v, .int w] (s, lm, hk_RH i0 i1 b, al) k := by
  have hm : bb ≤ 96 := hw.2.2.2
  have e8 : s 1 13 = f 8 := hR 0 13 8 (hk_lp6 (by omega) (by omega) (by omega))
  have loop : ∀ (q j : Nat) (l5 l6 : Option Value), j + q = bb → hk_Rn (d + 3) none hk_c31 (hk_sfx 5 hk_c31) [some (.ref 1), some (.int v), some (.int w), some (.int (hk_lkS f (fun p => hk_thk f p w) v j)), some (.int (nI j)), l5, l6] [] (s, lm, hk_RH i0 i1 b, al) k := by
    intro q
    induction q with
    | zero =>
      intro j l5 l6 hj
      have e : j = bb := by omega
      subst e
      refine hk_hd (n := 1000) (t := 5) rfl ?_
      refine And.intro (fun _ => ?_) (fun hc => absurd (show s 4 3 ≤ nI j by rw [hw.2.2.1]; exact Int32.le_refl _) hc)
      exact h1
    | succ q ih =>
      intro j l5 l6 hj
      obtain ⟨zz, hz3, ez⟩ := hz j (by omega)
      have nx : ∀ (x : Int32) (l5 l6 : Option Value), x = hk_lkS f (fun p => hk_thk f p w) v (j + 1) → hk_Rn (d + 3) none hk_c31 (hk_sfx 5 hk_c31) [some (.ref 1), some (.int v), some (.int w), some (.int x), some (.int (nI j + 1)), l5, l6] [] (s, lm, hk_RH i0 i1 b, al) k := fun x l5 l6 e => hk_Rn_cast (by rw [nI_1, e]) (ih (j + 1) l5 l6 (by omega))
      refine hk_hd (n := 1000) (t := 5) rfl ?_
      refine And.intro (fun hc => absurd hc (show ¬ s 4 3 ≤ nI j by rw [hw.2.2.1]; exact hk_nlt (by omega) (by omega))) (fun _ => ?_)
      refine c_gP (c := 1) hw hR (by omega) (by omega) ?_
      refine c_gP (c := 0) hw hR (by omega) (by omega) ?_
      refine And.intro (fun c1 => ?_) (fun c1 => ?_)
      · have c1 : ¬ f (80 + 6 * j) = v := c1
        exact nx _ _ _ (by rw [hk_lkS, if_neg c1])
      have c1 : ¬ ¬ f (80 + 6 * j) = v := c1
      have c1 := Classical.not_not.mp c1
      refine And.intro (fun c2 => ?_) (fun c2 => ?_)
      · have c2 : f (80 + 6 * j + 1) = 0 := c2
        refine nx _ _ _ ?_
        rw [hk_lkS, if_pos c1, hk_lkT, if_pos c2, Int32.add_zero]
      have c2 : ¬ f (80 + 6 * j + 1) = 0 := c2
      refine c_thickX hw hR (by omega) ez hz3 ?_
      refine And.intro (fun c3 => ?_) (fun c3 => ?_)
      · have c3 : ¬ f (80 + 6 * j + 1) = 2 := c3
        refine nx _ _ _ ?_
        rw [hk_lkS, if_pos c1, hk_lkT, if_neg c2, if_neg c3, ← e8]
        rfl
      · have c3 : ¬ ¬ f (80 + 6 * j + 1) = 2 := c3
        refine nx _ _ _ ?_
        rw [hk_lkS, if_pos c1, hk_lkT, if_neg c2, if_pos (Classical.not_not.mp c3), ← e8]
        rfl
  refine hk_mth hk_m31 rfl rfl (n := 1000) ?_
  exact loop bb 0 none none (by omega)
theorem c_pumpedX (hw : hk_tw s 2 a) (hR : hk_Rel s 1 f) {i : Nat} (hi : i < a) (h1 : k (some (.int (hk_mn2 (hk_mn2 v (f (20 + 10 * i + 3))) w))) (s, lm, hk_RH i0 i1 b, al)) : hk_Cl (d + 2) 34 [.ref 1, .int (nI i), .int v, .int w] (s, lm, hk_RH i0 i1 b, al) k := by
  refine hk_mth hk_m34 rfl rfl (n := 1000) ?_
  refine c_gS (c := 3) hw hR hi (by omega) ?_
  exact h1
theorem c_liesX (hw : hk_tw s 2 a) (hR : hk_Rel s 1 f) {i m : Nat} (hi : i < a) (hA : f (20 + 10 * i) = nI m) (hm1 : 1 ≤ m) (hm2 : m ≤ 1000) (h1 : k (some (.int (hk_lsV f i v))) (s, lm, hk_RH i0 i1 b, al)) : hk_Cl (d + 2) 37 [.ref 1, .int (nI i), .int v] (s, lm, hk_RH i0 i1 b, al) k := by
  have hA0 : f (20 + 10 * i + 0) = nI m := hA
  have c0 : ¬ f (20 + 10 * i) = 0 := by
    rw [hA]
    intro e
    have e : nI m = nI 0 := e
    rw [nI_eq (by omega) (by omega)] at e
    omega
  refine hk_mth hk_m37 rfl rfl (n := 1000) ?_
  refine c_gS (c := 0) hw hR hi (by omega) ?_
  refine And.intro (fun _ => ?_) (fun hc => absurd (show 0 < f (20 + 10 * i + 0) by rw [hA0]; exact nI_lt (a := 0) (by omega) (by omega)) hc)
  refine c_gS (c := 2) hw hR hi (by omega) ?_
  refine c_gS (c := 4) hw hR hi (by omega) ?_
  refine And.intro c0 ?_
  exact h1
theorem c_sinksX (hw : hk_tw s 2 a) (hR : hk_Rel s 1 f) {i m : Nat} (hi : i < a) (hA : f (20 + 10 * i) = nI m) (hm1 : 1 ≤ m) (hm2 : m ≤ 1000) (h1 : f (20 + 10 * i + 1) < hk_lsV f i v → k (some (.int 1)) (s, lm, hk_RH i0 i1 b, al)) (h0 : ¬ f (20 + 10 * i + 1) < hk_lsV f i v → k (some (.int 0)) (s, lm, hk_RH i0 i1 b, al)) : hk_Cl (d + 3) 36 [.ref 1, .int (nI i), .int v] (s, lm, hk_RH i0 i1 b, al) k := by
  refine hk_mth hk_m36 rfl rfl (n := 1000) ?_
  refine c_liesX hw hR hi hA hm1 hm2 ?_
  refine c_gS (c := 1) hw hR hi (by omega) ?_
  refine And.intro (fun c1 => ?_) (fun c1 => ?_)
  · have c1 : hk_lsV f i v ≤ f (20 + 10 * i + 1) := c1
    exact And.intro (Or.inl rfl) (h0 (Int32.not_lt.mpr c1))
  · have c1 : ¬ hk_lsV f i v ≤ f (20 + 10 * i + 1) := c1
    exact And.intro (Or.inr rfl) (h1 (Int32.not_le.mp c1))
/-- what is told of a ship -/
def hk_toV (f : Nat → Int32) (i bb : Nat) (v : Int32) : Int32 := if v = 0 then f (20 + 10 * i + 5) else if v = 1 then hk_lsV f i (f (20 + 10 * i + 5)) else if v = 2 then f (20 + 10 * i + 6) else if v = 3 then hk_poS f (nI i) bb else if v = 4 then hk_fsV f i bb else if v = 5 then hk_lkS f (fun p => hk_thk f p 0) (nI i) bb else f (20 + 10 * i + 8)
theorem c_shipAtX (hw2 : hk_TW s) (hR : hk_Rel s 1 f) (h : hk_RI f a bb r) {i : Nat} (hi : i < a) (h1 : k (some (.int (hk_toV f i bb v))) (s, lm, hk_RH i0 i1 b, al)) : hk_Cl (d + 5) 39 [.ref 1, .int (nI i), .int v] (s, lm, hk_RH i0 i1 b, al) k := by
  have hS := hk_tw2 hw2 hR h
  have hP := hk_tw4 hw2 hR h
  obtain ⟨⟨m, hm1, hm2, hA⟩, _, ml, hml, hl⟩ := (hk_RI_P h).2.1 a h.1.1 h.2.1.1 i hi
  have hz : ∀ p, p < bb → ∃ z, z < 3 ∧ f (80 + 6 * p + 1) = nI z := fun p hp => (h.2.2.2.2.1 p hp).2
  unfold hk_toV at h1
  refine hk_mth hk_m39 rfl rfl (n := 1000) ?_
  refine And.intro (fun c0 => ?_) (fun c0 => ?_)
  · have c0 : v = 0 := c0
    rw [if_pos c0] at h1
    exact c_gS (c := 5) hS hR hi (by omega) h1
  have c0 : ¬ v = 0 := c0
  rw [if_neg c0] at h1
  refine And.intro (fun c1 => ?_) (fun c1 => ?_)
  · have c1 : v = 1 := c1
    rw [if_pos c1] at h1
    refine c_gS (c := 5) hS hR hi (by omega) ?_
    exact c_liesX hS hR hi hA hm1 hm2 h1
  have c1 : ¬ v = 1 := c1
  rw [if_neg c1] at h1
  refine And.intro (fun c2 => ?_) (fun c2 => ?_)
  · have c2 : v = 2 := c2
    rw [if_pos c2] at h1
    exact c_gS (c := 6) hS hR hi (by omega) h1
  have c2 : ¬ v = 2 := c2
  rw [if_neg c2] at h1
  refine And.intro (fun c3 => ?_) (fun c3 => ?_)
  · have c3 : v = 3 := c3
    rw [if_pos c3] at h1
    exact c_platesOfX hP hR h1
  have c3 : ¬ v = 3 := c3
  rw [if_neg c3] at h1
  refine And.intro (fun c4 => ?_) (fun c4 => ?_)
  · have c4 : v = 4 := c4
    rw [if_pos c4] at h1
    exact c_firstStuffX hS hP hR hi hl hml h1
  have c4 : ¬ v = 4 := c4
  rw [if_neg c4] at h1
  refine And.intro (fun c5 => ?_) (fun c5 => ?_)
  · have c5 : v = 5 := c5
    rw [if_pos c5] at h1
    exact c_leaksX2 hP hR hz h1
  have c5 : ¬ v = 5 := c5
  rw [if_neg c5] at h1
  exact c_gS (c := 8) hS hR hi (by omega) h1
theorem c_aboutX (hw2 : hk_TW s) (hR : hk_Rel s 1 f) (h : hk_RI f a bb r) (hb : (∀ i, v = nI i → i < a → ¬ hk_rg w 0 6) → k (some (.int (-2))) (s, lm, hk_RH i0 i1 b, al)) (hg : ∀ i, v = nI i → i < a → hk_rg w 0 6 → k (some (.int (hk_toV f i bb w))) (s, lm, hk_RH i0 i1 b, al)) : hk_Cl (d + 6) 38 [.ref 0, .int v, .int w] (s, lm, hk_RH i0 i1 b, al) k := by
  have hS := hk_tw2 hw2 hR h
  refine hk_mth hk_m38 rfl rfl (n := 1000) ?_
  refine c_hasn (by simp [hk_tb]) hS (fun i e hi => ?_) (fun a => ?_)
  rotate_left
  · refine And.intro (fun _ => ?_) (fun hc => absurd (by decide) hc)
    exact hb (fun i e hi => absurd hi (a i e))
  refine And.intro (fun hc => absurd hc (by decide)) (fun _ => ?_)
  refine c_within (fun p q => ?_) (fun a => ?_)
  rotate_left
  · refine And.intro (fun _ => ?_) (fun hc => absurd (by decide) hc)
    exact hb (fun i e hi q => a.elim q.1 q.2)
  refine And.intro (fun hc => absurd hc (by decide)) (fun _ => ?_)
  subst e
  exact c_shipAtX hw2 hR h hi (hg i rfl hi ⟨p, q⟩)
theorem c_plateAtX (hw2 : hk_TW s) (hR : hk_Rel s 1 f) (h : hk_RI f a bb r) (hb : (∀ i, v = nI i → i < bb → ¬ hk_rg w 0 5) → k (some (.int (-10000))) (s, lm, hk_RH i0 i1 b, al)) (hg : ∀ i c, v = nI i → i < bb → w = nI c → c < 6 → k (some (.int (f (80 + 6 * i + c)))) (s, lm, hk_RH i0 i1 b, al)) : hk_Cl (d + 2) 41 [.ref 0, .int v, .int w] (s, lm, hk_RH i0 i1 b, al) k := by
  have hP := hk_tw4 hw2 hR h
  refine hk_mth hk_m41 rfl rfl (n := 1000) ?_
  refine c_hasn (by simp [hk_tb]) hP (fun i e hi => ?_) (fun a => ?_)
  rotate_left
  · refine And.intro (fun _ => ?_) (fun hc => absurd (by decide) hc)
    exact hb (fun i e hi => absurd hi (a i e))
  refine And.intro (fun hc => absurd hc (by decide)) (fun _ => ?_)
  refine c_within (fun p q => ?_) (fun a => ?_)
  rotate_left
  · refine And.intro (fun _ => ?_) (fun hc => absurd (by decide) hc)
    exact hb (fun i e hi q => a.elim q.1 q.2)
  refine And.intro (fun hc => absurd hc (by decide)) (fun _ => ?_)
  subst e
  obtain ⟨c, hc, rfl⟩ := hk_rng (n := 5) (by decide) p q
  refine c_gP hP hR hi (by omega) ?_
  exact hg i c rfl hi rfl (by omega)
end HKEH
