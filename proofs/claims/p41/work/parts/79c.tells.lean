/-! ===== texts told of plates: tells, unlike, replace ===== -/
/-- what the names of a text are of a plate -/
def hk_nmV (f : Nat → Int32) (bb p : Nat) (c : Int32) : Int64 := if c = 0 then (f (80 + 6 * p + 2)).toInt64 else if c = 1 then (f 7 - f (80 + 6 * p + 4)).toInt64 else if c = 2 then (f (80 + 6 * p + 1)).toInt64 else if c = 3 then (hk_fsV f (f (80 + 6 * p)).toNatClampNeg bb).toInt64 else if c = 4 then (f (80 + 6 * p + 5)).toInt64 else (f (80 + 6 * p + 3)).toInt64
def hk_tG (f : Nat → Int32) (t : Nat) (i : Nat) : Int32 := f (1422 + 61 * t + 1 + i)
def hk_tN (f : Nat → Int32) (t : Nat) : Nat := (f (1422 + 61 * t)).toNatClampNeg
def hk_tR (f : Nat → Int32) (bb t p : Nat) : Int32 × List Int64 := hk_sy (hk_tG f t) (hk_tN f t) (hk_nmV f bb p) 0 [] [] 0 0
def hk_tru (f : Nat → Int32) (bb t p : Nat) : Prop := (hk_tR f bb t p).1 = -1 ∧ ¬ (hk_tR f bb t p).2 = [0]
def hk_tlV (R : Int32 × List Int64) : Int64 := if R.1 = -1 then R.2.headD 0 else -3000000000000000000
def hk_lkL (g : Nat → Int64) : Nat → List Int64
  | 0 => []
  | q + 1 => g q :: hk_lkL g q
theorem hk_lkL_e {g g2 : Nat → Int64} : ∀ n, (∀ j, j < n → g2 j = g j) → hk_lkL g2 n = hk_lkL g n
  | 0, _ => rfl
  | n + 1, h => by rw [hk_lkL, hk_lkL, hk_lkL_e n (fun j hj => h j (by omega)), h n (by omega)]
theorem hk_uJ_s {f : Nat → Nat → Int64} {p k : Nat} {x : Int64} : hk_uJ f p k x p k = x := by simp [hk_uJ, vp_updL]
theorem hk_uJ_o {f : Nat → Nat → Int64} {p k j : Nat} {x : Int64} (h : j ≠ k) : hk_uJ f p k x p j = f p j := by simp [hk_uJ, vp_updL, h]
theorem hk_lkL_u {f : Nat → Nat → Int64} {p q : Nat} {x : Int64} : hk_lkL (hk_uJ f p q x p) (q + 1) = x :: hk_lkL (f p) q := by
  rw [hk_lkL, hk_uJ_s, hk_lkL_e q (fun j hj => hk_uJ_o (by omega))]
/-- a row changed on both sides -/
theorem hk_IS_fin {s s2 s3 : Nat → Nat → Int32} {i0 i1 : Nat} {g : Nat → Int32} (h : hk_IS s i0 i1) (hw : hk_TW s2) (hR : hk_Rel s2 1 g) (fr2 : ∀ p q, 40 ≤ p → p ≠ 95 → s2 p q = s p q) (fr3 : ∀ p q, p < 40 ∨ 51 ≤ p ∨ p = 43 ∨ p = 44 → s3 p q = s2 p q) (e : ∀ q, q < 2448 → s3 41 q = g q) (r : ∃ a b r, hk_RI g a b r) : hk_IS s3 i0 i1 := by
  obtain ⟨h1, h2, h3, h4, h5⟩ := h
  have e2 : ∀ p q, 51 ≤ p ∧ p < 95 ∨ p = 43 ∨ p = 44 → s3 p q = s p q := fun p q hp => (fr3 p q (by omega)).trans (fr2 p q (by omega) (by omega))
  refine ⟨hk_TW_fr hw (fun t q ht => fr3 t q (by have := hk_tb35 ht; omega)), fun a i q hl => ?_, ?_, hk_Img_fr h4 (by omega) e2, hk_Img_fr h5 (by omega) e2⟩
  · have hb := hk_LP_b hl
    rw [fr3 _ _ (by omega), e q (by omega)]
    exact hR a i q hl
  · obtain ⟨a, b, r, hr⟩ := r
    exact ⟨a, b, r, hk_RI_eq hr e⟩
theorem hk_Rel_f {s s2 : Nat → Nat → Int32} {f : Nat → Int32} (hR : hk_Rel s 1 f) (e : ∀ p q, p ≤ 22 → s2 p q = s p q) : hk_Rel s2 1 f := fun a i q hl => by
  have hb := hk_LP_b hl
  rw [e _ _ (by omega)]
  exact hR a i q hl
section HKEJ
variable {d n a bb r t p : Nat} {v w x y z : Int32} {s : Nat → Nat → Int32} {lm : Nat → Nat → Int64} {i0 i1 b : Nat} {al : List Nat} {k : Option Value → hk_H → Prop} {f : Nat → Int32}
theorem hk_tx_f (hw : hk_TW s) (hR : hk_Rel s 1 f) (h : hk_RI f a bb r) (ht : t < 4) : hk_tN f t ≤ 60 ∧ f (1422 + 61 * t) = nI (hk_tN f t) ∧ s 11 (t * 61) = nI (hk_tN f t) ∧ hk_TG s t (hk_tG f t) ∧ ∀ j, j < 60 → ¬ hk_tG f t j = -1 := by
  obtain ⟨m, hm, em⟩ := h.2.2.2.2.2.2.2.1 t ht
  have hx : ∀ q, 1422 ≤ q → q < 1666 → ¬ f q = -1 := h.2.2.2.2.2.2.2.2.2.2.2.1.elim (fun _ q => q.2.2.2.2)
  have en : hk_tN f t = m := by
    unfold hk_tN
    rw [em, nI_clamp (by omega)]
  rw [en]
  exact ⟨hm, em, (hR 10 (t * 61) (1422 + 61 * t) (hk_lp11 (by omega) (by omega))).trans em, ⟨hw, fun j hj => hR 10 _ _ (hk_lp11 (by omega) (by omega))⟩, fun j hj => hx _ (by omega) (by omega)⟩
theorem c_letterX (hw : hk_TW s) (hR : hk_Rel s 1 f) (h : hk_RI f a bb r) (hp : p < bb) (e : s 24 2 = nI p) (hv : ¬ hk_nmo v = -1) (h1 : k (some (.long (hk_nmV f bb p (hk_nmo v)))) (s, lm, hk_RH i0 i1 b, al)) : hk_Cl (d + 3) 58 [.ref 24, .int v] (s, lm, hk_RH i0 i1 b, al) k := by
  have hb := h.1.2.1
  have hS := hk_tw2 hw hR h
  have hP := hk_tw4 hw hR h
  have e7 : s 1 12 = f 7 := hR 0 12 7 (hk_lp6 (by omega) (by omega) (by omega))
  obtain ⟨⟨i, hi, ei⟩, _⟩ := h.2.2.2.2.1 p hp
  have ei0 : f (80 + 6 * p + 0) = nI i := ei
  have ha := h.1.1
  obtain ⟨_, _, ml, hml, hl⟩ := (hk_RI_P h).2.1 a h.1.1 h.2.1.1 i hi
  have ec : (f (80 + 6 * p)).toNatClampNeg = i := by rw [ei, nI_clamp (by omega)]
  have ea : ∀ c, [Value.ref 4, .int (s 24 2), .int c] = [Value.ref 4, .int (nI p), .int c] := fun c => by rw [e]
  have n1 : ¬ s 24 2 = -1 := by rw [e]; exact hk_nm1 (by omega)
  rcases hk_nmo_c hv with q | q | q | q | q | q
  · subst q
    refine hk_mth hk_m58 rfl rfl (n := 1000) ?_
    refine And.intro (fun _ => ?_) (fun hc => absurd n1 hc)
    refine And.intro (fun _ => ?_) (fun hc => absurd (by decide) hc)
    refine hk_Cl_arg (ea _) ?_
    refine c_gP (c := 5) hP hR hp (by omega) ?_
    exact h1
  · subst q
    refine hk_mth hk_m58 rfl rfl (n := 1000) ?_
    refine And.intro (fun _ => ?_) (fun hc => absurd n1 hc)
    refine And.intro (fun hc => absurd hc (by decide)) (fun _ => ?_)
    refine And.intro (fun hc => absurd hc (by decide)) (fun _ => ?_)
    refine And.intro (fun hc => absurd hc (by decide)) (fun _ => ?_)
    refine And.intro (fun hc => absurd hc (by decide)) (fun _ => ?_)
    refine And.intro (fun hc => absurd hc (by decide)) (fun _ => ?_)
    refine hk_Cl_arg (ea _) ?_
    refine c_gP (c := 3) hP hR hp (by omega) ?_
    exact h1
  · subst q
    have h1 : k (some (.long (hk_fsV f (f (80 + 6 * p)).toNatClampNeg bb).toInt64)) (s, lm, hk_RH i0 i1 b, al) := h1
    rw [ec] at h1
    refine hk_mth hk_m58 rfl rfl (n := 1000) ?_
    refine And.intro (fun _ => ?_) (fun hc => absurd n1 hc)
    refine And.intro (fun hc => absurd hc (by decide)) (fun _ => ?_)
    refine And.intro (fun _ => ?_) (fun hc => absurd (by decide) hc)
    refine hk_Cl_arg (ea _) ?_
    refine c_gP (c := 0) hP hR hp (by omega) ?_
    rw [ei0]
    refine c_firstStuffX hS hP hR hi hl hml ?_
    exact h1
  · subst q
    refine hk_mth hk_m58 rfl rfl (n := 1000) ?_
    refine And.intro (fun _ => ?_) (fun hc => absurd n1 hc)
    refine And.intro (fun hc => absurd hc (by decide)) (fun _ => ?_)
    refine And.intro (fun hc => absurd hc (by decide)) (fun _ => ?_)
    refine And.intro (fun _ => ?_) (fun hc => absurd (by decide) hc)
    refine hk_Cl_arg (ea _) ?_
    refine c_gP (c := 2) hP hR hp (by omega) ?_
    exact h1
  · subst q
    have h1 : k (some (.long (f 7 - f (80 + 6 * p + 4)).toInt64)) (s, lm, hk_RH i0 i1 b, al) := h1
    rw [← e7] at h1
    refine hk_mth hk_m58 rfl rfl (n := 1000) ?_
    refine And.intro (fun _ => ?_) (fun hc => absurd n1 hc)
    refine And.intro (fun hc => absurd hc (by decide)) (fun _ => ?_)
    refine And.intro (fun hc => absurd hc (by decide)) (fun _ => ?_)
    refine And.intro (fun hc => absurd hc (by decide)) (fun _ => ?_)
    refine And.intro (fun _ => ?_) (fun hc => absurd (by decide) hc)
    refine hk_Cl_arg (ea _) ?_
    refine c_gP (c := 4) hP hR hp (by omega) ?_
    exact h1
  · subst q
    refine hk_mth hk_m58 rfl rfl (n := 1000) ?_
    refine And.intro (fun _ => ?_) (fun hc => absurd n1 hc)
    refine And.intro (fun hc => absurd hc (by decide)) (fun _ => ?_)
    refine And.intro (fun hc => absurd hc (by decide)) (fun _ => ?_)
    refine And.intro (fun hc => absurd hc (by decide)) (fun _ => ?_)
    refine And.intro (fun hc => absurd hc (by decide)) (fun _ => ?_)
    refine And.intro (fun _ => ?_) (fun hc => absurd (by decide) hc)
    refine hk_Cl_arg (ea _) ?_
    refine c_gP (c := 1) hP hR hp (by omega) ?_
    exact h1
theorem c_tellF (hw : hk_TW s) (hR : hk_Rel s 1 f) (h : hk_RI f a bb r) (ht : t < 4) (hp : p < bb) (h1 : ∀ s2 x, hk_R24 s s2 → s2 24 5 = (hk_tR f bb t p).1 → ((hk_tR f bb t p).1 = -1 → (hk_tR f bb t p).2 = [x]) → (¬ (hk_tR f bb t p).1 = -1 → x = 0) → k (some (.long x)) (s2, lm, hk_RH i0 i1 b, al)) : hk_Cl (d + 81) 44 [.ref 24, .int (nI t), .int (nI p)] (s, lm, hk_RH i0 i1 b, al) k := by
  obtain ⟨g1, g2, g3, g4, g5⟩ := hk_tx_f hw hR h ht
  exact c_tellX (nm := hk_nmV f bb p) g4 ht g3 g1 (fun j hj => g5 j (by omega)) (fun d s2 v k hr e hv hk => c_letterX (hk_R24_TW hr hw) (hk_Rel_f hR (fun p q hp => hr p q (by omega))) h hp e hv hk) h1
theorem c_isTrueX (hw : hk_TW s) (hR : hk_Rel s 1 f) (h : hk_RI f a bb r) (ht : t < 4) (hp : p < bb) (h1 : ∀ s2, hk_R24 s s2 → hk_tru f bb t p → k (some (.int 1)) (s2, lm, hk_RH i0 i1 b, al)) (h0 : ∀ s2, hk_R24 s s2 → ¬ hk_tru f bb t p → k (some (.int 0)) (s2, lm, hk_RH i0 i1 b, al)) : hk_Cl (d + 82) 43 [.ref 24, .int (nI t), .int (nI p)] (s, lm, hk_RH i0 i1 b, al) k := by
  refine hk_mth hk_m43 rfl rfl (n := 1000) ?_
  refine c_tellF hw hR h ht hp (fun s2 x hr _ e1 e0 => ?_)
  refine And.intro (fun c1 => ?_) (fun c1 => ?_)
  · have c1 : lg_cmp x 0 = 0 := c1
    have hx := (hk_cm0 x 0).mp c1
    refine And.intro (Or.inl rfl) (h0 s2 hr (fun q => q.2 ?_))
    rw [e1 q.1, hx]
  · have c1 : ¬ lg_cmp x 0 = 0 := c1
    have hx : ¬ x = 0 := fun q => c1 ((hk_cm0 x 0).mpr q)
    have hm : (hk_tR f bb t p).1 = -1 := Classical.byContradiction fun q => hx (e0 q)
    refine And.intro (Or.inr rfl) (h1 s2 hr ⟨hm, fun q => ?_⟩)
    rw [e1 hm] at q
    exact hx (List.cons.inj q).1
theorem c_tellsX2 (hw : hk_TW s) (hR : hk_Rel s 1 f) (h : hk_RI f a bb r) (hb : ¬ (∃ t p, v = nI t ∧ t < 4 ∧ w = nI p ∧ p < bb) → k (some (.long (-2000000000000000000))) (s, lm, hk_RH i0 i1 b, al)) (hg : ∀ t p s2, v = nI t → t < 4 → w = nI p → p < bb → hk_R24 s s2 → k (some (.long (hk_tlV (hk_tR f bb t p)))) (s2, lm, hk_RH i0 i1 b, al)) : hk_Cl (d + 82) 75 [.ref 0, .int v, .int w] (s, lm, hk_RH i0 i1 b, al) k := by
  have hP := hk_tw4 hw hR h
  refine hk_mth hk_m75 rfl rfl (n := 1000) ?_
  refine c_hasn (by simp [hk_tb]) hw.2.2 (fun t e ht => ?_) (fun a => ?_)
  rotate_left
  · refine And.intro (fun _ => ?_) (fun hc => absurd (by decide) hc)
    exact hb (fun ⟨t, p, q1, q2, _⟩ => a t q1 q2)
  refine And.intro (fun hc => absurd hc (by decide)) (fun _ => ?_)
  refine c_hasn (by simp [hk_tb]) hP (fun p e2 hp => ?_) (fun a => ?_)
  rotate_left
  · refine And.intro (fun hc => absurd hc (by decide)) (fun _ => ?_)
    exact hb (fun ⟨t, p, _, _, q3, q4⟩ => a p q3 q4)
  refine And.intro (fun _ => ?_) (fun hc => absurd (by decide) hc)
  subst e e2
  refine c_tellF hw hR h ht hp (fun s2 x hr e5 e1 e0 => ?_)
  have key := hg t p s2 rfl ht rfl hp hr
  unfold hk_tlV at key
  refine c_hasFlaw (fun e => ?_) (fun e => ?_)
  · rw [e5] at e
    rw [if_pos e, e1 e] at key
    refine And.intro (fun _ => ?_) (fun hc => absurd (by decide) hc)
    exact key
  · rw [e5] at e
    rw [if_neg e] at key
    refine And.intro (fun hc => absurd hc (by decide)) (fun _ => ?_)
    exact key
/-! the reference -/
theorem m_namedX (h : hk_RI (s 41) a bb r) (hp : p < bb) (h1 : k (some (.long (hk_nmV (s 41) bb p w))) (s, lm, hk_RH i0 i1 b, al)) : hk_Cl (d + 3) 171 [.ref 40, .int (nI p), .int w] (s, lm, hk_RH i0 i1 b, al) k := by
  have hb := h.1.2.1
  have ha := h.1.1
  obtain ⟨⟨i, hi, ei⟩, _⟩ := h.2.2.2.2.1 p hp
  have ei0 : s 41 (80 + 6 * p + 0) = nI i := ei
  have ec : (s 41 (80 + 6 * p)).toNatClampNeg = i := by rw [ei, nI_clamp (by omega)]
  unfold hk_nmV at h1
  rw [ec] at h1
  refine hk_mth hk_m171 rfl rfl (n := 1000) ?_
  refine And.intro (fun c0 => ?_) (fun c0 => ?_)
  · have c0 : w = 0 := c0
    rw [if_pos c0] at h1
    refine m_plateOf (c := 2) (by omega) ?_
    exact h1
  have c0 : ¬ w = 0 := c0
  rw [if_neg c0] at h1
  refine And.intro (fun c1 => ?_) (fun c1 => ?_)
  · have c1 : w = 1 := c1
    rw [if_pos c1] at h1
    refine hk_ldi (i := nI 7) (j := 7) (by simp only [hk_lit, pk_mul, nI_add]) (by omega) (by decide) rfl ?_
    refine m_plateOf (c := 4) (by omega) ?_
    exact h1
  have c1 : ¬ w = 1 := c1
  rw [if_neg c1] at h1
  refine And.intro (fun c2 => ?_) (fun c2 => ?_)
  · have c2 : w = 2 := c2
    rw [if_pos c2] at h1
    refine m_plateOf (c := 1) (by omega) ?_
    exact h1
  have c2 : ¬ w = 2 := c2
  rw [if_neg c2] at h1
  refine And.intro (fun c3 => ?_) (fun c3 => ?_)
  · have c3 : w = 3 := c3
    rw [if_pos c3] at h1
    refine m_plateOf (c := 0) (by omega) ?_
    rw [ei0]
    refine m_firstStuffX h.2.1.2.1 hb (by omega) ?_
    exact h1
  have c3 : ¬ w = 3 := c3
  rw [if_neg c3] at h1
  refine And.intro (fun c4 => ?_) (fun c4 => ?_)
  · have c4 : w = 4 := c4
    rw [if_pos c4] at h1
    refine m_plateOf (c := 5) (by omega) ?_
    exact h1
  have c4 : ¬ w = 4 := c4
  rw [if_neg c4] at h1
  refine m_plateOf (c := 3) (by omega) ?_
  exact h1
end HKEJ
