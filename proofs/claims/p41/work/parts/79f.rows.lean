/-! ===== replace, move, lay agree ===== -/
def hk_ud (f : Nat → Int32) (q : Nat) (v : Int32) : Nat → Int32 := fun j => if j = q then v else f j
theorem hk_ud_o {f : Nat → Int32} {q j : Nat} {v : Int32} (h : j ≠ q) : hk_ud f q v j = f j := if_neg h
theorem hk_ud_s {f : Nat → Int32} {q : Nat} {v : Int32} : hk_ud f q v q = v := if_pos rfl
theorem hk_Rel_d {s : Nat → Nat → Int32} {H a i q : Nat} {f : Nat → Int32} {v : Int32} (h : hk_Rel s H f) (hl : hk_LP a i q) : hk_Rel (hk_u2 s (H + a) i v) H (hk_ud f q v) := hk_Rel_u h hl
theorem hk_tw_f {s s2 : Nat → Nat → Int32} {t n : Nat} (h : hk_tw s t n) (e : ∀ q, s2 t q = s t q) : hk_tw s2 t n := by
  obtain ⟨a1, a2, a3, a4⟩ := h
  exact ⟨by rw [e]; exact a1, by rw [e]; exact a2, by rw [e]; exact a3, a4⟩
/-- hulls and plates change within their ranges, the month goes on -/
theorem hk_RI_x {f g : Nat → Int32} {a b r : Nat} (h : hk_RI f a b r) (e : ∀ q, q < 2448 → q ≠ 7 → ¬ (20 ≤ q ∧ q < 80 ∧ (q % 10 = 5 ∨ q % 10 = 6 ∨ q % 10 = 7)) → ¬ (80 ≤ q ∧ q < 656 ∧ (q % 6 = 4 ∨ q % 6 = 0 ∨ q % 6 = 1)) → g q = f q) (h7 : ∃ n, n < 600 ∧ g 7 = nI n) (hP : hk_RP g) : hk_RI g a b r := by
  obtain ⟨⟨p1, p2, p3⟩, ⟨c0, c1, c2⟩, har, hch, hpl, hrd, _, htx, ⟨h3, hh3, e3, hhu⟩, ⟨h4, hh4, e4⟩, ⟨h5, hh5, e5⟩, ⟨h6, hh6, e6, x6⟩, ⟨h10, hh10, e10, x10⟩, ⟨h11, hh11, e11⟩⟩ := h
  refine ⟨⟨p1, p2, p3⟩, ⟨(e 0 (by omega) (by omega) (by omega) (by omega)).trans c0, (e 1 (by omega) (by omega) (by omega) (by omega)).trans c1, (e 2 (by omega) (by omega) (by omega) (by omega)).trans c2⟩, fun i hi => ?_, fun i hi => ?_, fun p hp => ?_, fun j hj => ?_, h7, fun t ht => ?_, ⟨h3, hh3, (e 3 (by omega) (by omega) (by omega) (by omega)).trans e3, fun i hi => ?_⟩, ⟨h4, hh4, (e 4 (by omega) (by omega) (by omega) (by omega)).trans e4⟩, ⟨h5, hh5, (e 5 (by omega) (by omega) (by omega) (by omega)).trans e5⟩, ⟨h6, hh6, (e 6 (by omega) (by omega) (by omega) (by omega)).trans e6, hk_RZ_e x6 (fun j hj => e j (by omega) (by omega) (by omega) (by omega))⟩, ⟨h10, hh10, (e 10 (by omega) (by omega) (by omega) (by omega)).trans e10, hP⟩, ⟨h11, hh11, (e 11 (by omega) (by omega) (by omega) (by omega)).trans e11⟩⟩
  · rw [e (20 + 10 * i) (by omega) (by omega) (by omega) (by omega)]
    exact har i hi
  · rw [e (20 + 10 * i + 8) (by omega) (by omega) (by omega) (by omega)]
    exact hch i hi
  · rw [e (80 + 6 * p) (by omega) (by omega) (by omega) (by omega), e (80 + 6 * p + 1) (by omega) (by omega) (by omega) (by omega)]
    exact hpl p hp
  · rw [e (660 + 5 * j) (by omega) (by omega) (by omega) (by omega), e (660 + 5 * j + 1) (by omega) (by omega) (by omega) (by omega), e (660 + 5 * j + 2) (by omega) (by omega) (by omega) (by omega)]
    exact hrd j hj
  · rw [e (1422 + 61 * t) (by omega) (by omega) (by omega) (by omega)]
    exact htx t ht
  · rw [e (1666 + 3 * i) (by omega) (by omega) (by omega) (by omega), e (1666 + 3 * i + 1) (by omega) (by omega) (by omega) (by omega), e (1666 + 3 * i + 2) (by omega) (by omega) (by omega) (by omega)]
    exact hhu i hi
/-- whether a plate may be replaced; the row then -/
def hk_mayR (f : Nat → Int32) (bb p i : Nat) : Prop := f (20 + 10 * i + 6) = 0 ∧ (f (20 + 10 * i + 8) = -1 ∨ ∃ t, t < 4 ∧ f (20 + 10 * i + 8) = nI t ∧ hk_tru f bb t p)
def hk_rpF (f : Nat → Int32) (p : Nat) (w : Int32) : Nat → Int32 := hk_ud (hk_ud (hk_ud f (80 + 6 * p + 2) w) (80 + 6 * p + 4) (f 7)) (80 + 6 * p + 5) 0
def hk_mvF (f : Nat → Int32) (p i : Nat) : Nat → Int32 := hk_ud (hk_ud f (80 + 6 * p) (nI i)) (80 + 6 * p + 5) 0
theorem hk_RI_rp {f : Nat → Int32} {a b r p : Nat} {w : Int32} (h : hk_RI f a b r) (hp : p < b) (hw : hk_rg w 1 5000) : hk_RI (hk_rpF f p w) a b r := by
  have hb := h.1.2.1
  obtain ⟨m, hm, em⟩ : ∃ m, m ≤ 5000 ∧ w = nI m := hk_rg1 (by decide) hw
  have h1 : hk_RI (hk_ud f (80 + 6 * p + 2) w) a b r := hk_RI_v h (by omega) (hk_RP_u (hk_RI_P h) (by omega) (fun _ _ => by omega) (fun _ _ => by omega) (fun _ _ => by omega) (fun _ _ _ => ⟨m, hm, em⟩) (fun _ _ _ => by omega))
  have h2 : hk_RI (hk_ud (hk_ud f (80 + 6 * p + 2) w) (80 + 6 * p + 4) (f 7)) a b r := hk_RI_u h1 (by omega)
  exact hk_RI_u h2 (by omega)
theorem hk_RI_mv {f : Nat → Int32} {a b r p i : Nat} (h : hk_RI f a b r) (hi : i < a) (hp : p < b) : hk_RI (hk_mvF f p i) a b r := by
  have hb := h.1.2.1
  have h1 : hk_RI (hk_ud f (80 + 6 * p) (nI i)) a b r := hk_RI_of h hi hp
  exact hk_RI_u h1 (by omega)
section HKEM
variable {d n a bb r : Nat} {v w x y z : Int32} {s : Nat → Nat → Int32} {lm : Nat → Nat → Int64} {i0 i1 b : Nat} {al : List Nat} {k : Option Value → hk_H → Prop} {f : Nat → Int32}
theorem c_replaceX (hw : hk_TW s) (hR : hk_Rel s 1 f) (h : hk_RI f a bb r) (hb : ¬ (∃ p, v = nI p ∧ p < bb ∧ hk_rg w 1 5000) → k (some (.int (-2))) (s, lm, hk_RH i0 i1 b, al)) (hn : ∀ p i s2, v = nI p → p < bb → hk_rg w 1 5000 → f (80 + 6 * p) = nI i → i < a → hk_R24 s s2 → ¬ hk_mayR f bb p i → k (some (.int (-3))) (s2, lm, hk_RH i0 i1 b, al)) (hg : ∀ p i s2, v = nI p → p < bb → hk_rg w 1 5000 → f (80 + 6 * p) = nI i → i < a → hk_mayR f bb p i → (∀ p q, p ≠ 5 → p ≠ 24 → s2 p q = s p q) → hk_Rel s2 1 (hk_rpF f p w) → k (some (.int 1)) (s2, lm, hk_RH i0 i1 b, al)) : hk_Cl (d + 83) 42 [.ref 0, .int v, .int w] (s, lm, hk_RH i0 i1 b, al) k := by
  have hS := hk_tw2 hw hR h
  have hP := hk_tw4 hw hR h
  have hbb := h.1.2.1
  have ha := h.1.1
  refine hk_mth hk_m42 rfl rfl (n := 1000) ?_
  refine c_hasn (by simp [hk_tb]) hP (fun p e hp => ?_) (fun a => ?_)
  rotate_left
  · refine And.intro (fun _ => ?_) (fun hc => absurd (by decide) hc)
    exact hb (fun ⟨p, q1, q2, _⟩ => a p q1 q2)
  refine And.intro (fun hc => absurd hc (by decide)) (fun _ => ?_)
  refine c_within (fun q1 q2 => ?_) (fun a => ?_)
  rotate_left
  · refine And.intro (fun hc => absurd hc (by decide)) (fun _ => ?_)
    exact hb (fun ⟨p, _, _, q⟩ => a.elim q.1 q.2)
  refine And.intro (fun _ => ?_) (fun hc => absurd (by decide) hc)
  have hrg : hk_rg w 1 5000 := ⟨q1, q2⟩
  obtain ⟨⟨i, hi, ei⟩, _⟩ := h.2.2.2.2.1 p hp
  have ei0 : f (80 + 6 * p + 0) = nI i := ei
  have hn2 := fun s2 => hn p i s2 e hp hrg ei hi
  have hg2 := fun s2 => hg p i s2 e hp hrg ei hi
  subst e
  refine c_gP (c := 0) hP hR hp (by omega) ?_
  rw [ei0]
  refine c_gS (c := 8) hS hR hi (by omega) ?_
  have fin : ∀ (q : Nat) (s3 : Nat → Nat → Int32) (u1 u2 : Int32), hk_R24 s s3 → hk_mayR f bb p i → hk_wp (d + 82) none hk_c42 k (q + 60) (hk_sfx 89 hk_c42) [some (.ref 0), some (.int (nI p)), some (.int w), some (.int u1), some (.int u2)] [] (s3, lm, hk_RH i0 i1 b, al) := by
    intro q s3 u1 u2 h3 hm
    have hR3 : hk_Rel s3 1 f := hk_Rel_f hR (fun p q hp => h3 p q (by omega))
    have hP3 : hk_tw s3 4 bb := hk_tw_f hP (fun q => h3 4 q (by omega))
    refine c_put_in (n := bb) (by simp [hk_tb]) hP3 (i := p) (by show p < 96; omega) (j := 2) (by decide) ?_
    refine c_put_in (n := bb) (by simp [hk_tb]) (hk_tw_f hP3 (fun q => hk_u2o (by omega))) (i := p) (by show p < 96; omega) (j := 4) (by decide) ?_
    refine c_put_in (n := bb) (by simp [hk_tb]) (hk_tw_f hP3 (fun q => (hk_u2o (by omega)).trans (hk_u2o (by omega)))) (i := p) (by show p < 96; omega) (j := 5) (by decide) ?_
    have e7 : hk_u2 s3 5 (p * 6 + 2) w 1 12 = f 7 := by
      rw [hk_u2o (by omega)]
      exact hR3 0 12 7 (hk_lp6 (by omega) (by omega) (by omega))
    have R1 : hk_Rel (hk_u2 s3 5 (p * 6 + 2) w) 1 (hk_ud f (80 + 6 * p + 2) w) := hk_Rel_d (a := 4) hR3 (hk_lp17 (by omega) (by omega))
    have R2 : hk_Rel (hk_u2 (hk_u2 s3 5 (p * 6 + 2) w) 5 (p * 6 + 4) (f 7)) 1 (hk_ud (hk_ud f (80 + 6 * p + 2) w) (80 + 6 * p + 4) (f 7)) := hk_Rel_d (a := 4) R1 (hk_lp17 (by omega) (by omega))
    have R3 : hk_Rel (hk_u2 (hk_u2 (hk_u2 s3 5 (p * 6 + 2) w) 5 (p * 6 + 4) (f 7)) 5 (p * 6 + 5) 0) 1 (hk_rpF f p w) := hk_Rel_d (a := 4) R2 (hk_lp17 (by omega) (by omega))
    have key := hg2 _ hm (fun p q h5 h24 => by rw [hk_u2o (by omega), hk_u2o (by omega), hk_u2o (by omega)]; exact h3 p q h24) R3
    rw [← e7] at key
    exact key
  refine c_floatsX hS hR hi (fun hf => ?_) (fun hf => ?_)
  rotate_left
  · refine And.intro (fun _ => ?_) (fun hc => absurd rfl hc)
    exact hn2 s (hk_R24_r s) (fun q => hf q.1)
  refine And.intro (fun hc => absurd hc (show ¬ (1 : Int32) = 0 by decide)) (fun _ => ?_)
  refine And.intro (fun c2 => ?_) (fun c2 => ?_)
  · have c2 : f (20 + 10 * i + 8) = -1 := c2
    exact fin _ s _ _ (hk_R24_r s) ⟨hf, Or.inl c2⟩
  have c2 : ¬ f (20 + 10 * i + 8) = -1 := c2
  obtain ⟨t, ht, et⟩ := (h.2.2.2.1 i hi).elim (fun e => absurd e c2) id
  have ec : [Value.ref 24, .int (f (20 + 10 * i + 8)), .int (nI p)] = [Value.ref 24, .int (nI t), .int (nI p)] := by rw [et]
  refine hk_Cl_arg ec ?_
  refine c_isTrueX hw hR h ht hp (fun s2 h2 hT => ?_) (fun s2 h2 hT => ?_)
  · refine And.intro (fun _ => ?_) (fun hc => absurd (show ¬ (1 : Int32) = 0 by decide) hc)
    exact fin _ s2 _ _ h2 ⟨hf, Or.inr ⟨t, ht, et, hT⟩⟩
  · refine And.intro (fun hc => absurd hc (show ¬ ¬ (0 : Int32) = 0 by decide)) (fun _ => ?_)
    refine hn2 s2 h2 (fun q => q.2.elim c2 (fun ⟨t2, ht2, et2, hT2⟩ => ?_))
    have := hk_same et et2 (by omega) (by omega)
    subst this
    exact hT hT2
theorem m_replaceX (h : hk_RI (s 41) a bb r) (hb : ¬ (∃ p, v = nI p ∧ p < bb ∧ hk_rg w 1 5000) → k (some (.int (-2))) (s, lm, hk_RH i0 i1 b, al)) (hn : ∀ p i s2 lm2, v = nI p → p < bb → hk_rg w 1 5000 → s 41 (80 + 6 * p) = nI i → i < a → hk_FP s s2 → ¬ hk_mayR (s 41) bb p i → k (some (.int (-3))) (s2, lm2, hk_RH i0 i1 b, al)) (hg : ∀ p i s2 lm2, v = nI p → p < bb → hk_rg w 1 5000 → s 41 (80 + 6 * p) = nI i → i < a → hk_mayR (s 41) bb p i → (∀ p q, p < 40 ∨ 51 ≤ p ∨ p = 43 ∨ p = 44 → s2 p q = s p q) → s2 41 = hk_rpF (s 41) p w → k (some (.int 1)) (s2, lm2, hk_RH i0 i1 b, al)) : hk_Cl (d + 7) 160 [.ref 40, .int v, .int w] (s, lm, hk_RH i0 i1 b, al) k := by
  have ha := h.1.1
  have hbb := h.1.2.1
  refine hk_mth hk_m160 rfl rfl (n := 1000) ?_
  refine m_is (c := 1) (by omega) h.2.1.2.1 (by omega) (fun p e hp => ?_) (fun a0 => ?_)
  rotate_left
  · refine And.intro (fun _ => ?_) (fun hc => absurd (by decide) hc)
    refine hb (fun ⟨p, q1, q2, _⟩ => ?_)
    rw [q1, nI_leI (by omega) (by omega)] at a0
    exact a0.elim (nI_pos (by omega)) (fun q => by omega)
  refine And.intro (fun hc => absurd hc (by decide)) (fun _ => ?_)
  refine m_in (fun q1 q2 => ?_) (fun a => ?_)
  rotate_left
  · refine And.intro (fun hc => absurd hc (by decide)) (fun _ => ?_)
    exact hb (fun ⟨p, _, _, q⟩ => a.elim q.1 q.2)
  refine And.intro (fun _ => ?_) (fun hc => absurd (by decide) hc)
  have hrg : hk_rg w 1 5000 := ⟨q1, q2⟩
  obtain ⟨⟨i, hi, ei⟩, _⟩ := h.2.2.2.2.1 p hp
  have ei' : s 41 (80 + 6 * p + 0) = nI i := ei
  have hn2 := fun s2 lm2 => hn p i s2 lm2 e hp hrg ei hi
  have hg2 := fun s2 lm2 => hg p i s2 lm2 e hp hrg ei hi
  subst e
  refine m_plateOf (c := 0) (by omega) ?_
  have fin : ∀ (q : Nat) (s3 : Nat → Nat → Int32) (lm2 : Nat → Nat → Int64) (v3 : Int32), hk_FP s s3 → hk_mayR (s 41) bb p i → hk_wp (d + 6) none hk_c160 k (q + 90) (hk_sfx 70 hk_c160) [some (.ref 40), some (.int (nI p)), some (.int w), some (.int v3), none] [] (s3, lm2, hk_RH i0 i1 b, al) := by
    intro q s3 lm2 v3 f3 hm
    refine hk_stn (i := 80 + 6 * nI p + 2) (j := 80 + 6 * p + 2) (by simp only [hk_lit, pk_mul, nI_add]) (by omega) (by decide) (fun s4 (hs4 : s4 = hk_u2 s3 41 (80 + 6 * p + 2) w) => ?_)
    refine hk_ldi (i := nI 7) (j := 7) (by simp only [hk_lit, pk_mul, nI_add]) (by omega) (by decide) rfl ?_
    refine hk_stn (i := 80 + 6 * nI p + 4) (j := 80 + 6 * p + 4) (by simp only [hk_lit, pk_mul, nI_add]) (by omega) (by decide) (fun s5 (hs5 : s5 = hk_u2 s4 41 (80 + 6 * p + 4) (s4 41 7)) => ?_)
    refine hk_stn (i := 80 + 6 * nI p + 5) (j := 80 + 6 * p + 5) (by simp only [hk_lit, pk_mul, nI_add]) (by omega) (by decide) (fun s6 (hs6 : s6 = hk_u2 s5 41 (80 + 6 * p + 5) 0) => ?_)
    have e3 := hk_FP_41 f3
    have e4 : s4 41 = hk_ud (s 41) (80 + 6 * p + 2) w := by rw [hs4, ← e3]; exact hk_u2f
    have e47 : s4 41 7 = s 41 7 := by rw [e4]; exact hk_ud_o (by omega)
    have e5 : s5 41 = hk_ud (s4 41) (80 + 6 * p + 4) (s 41 7) := by rw [hs5, e47]; exact hk_u2f
    have e6 : s6 41 = hk_ud (s5 41) (80 + 6 * p + 5) 0 := by rw [hs6]; exact hk_u2f
    refine hg2 s6 lm2 hm (fun p q hp => ?_) (by rw [e6, e5, e4]; rfl)
    rw [hs6, hk_u2o (by omega), hs5, hk_u2o (by omega), hs4, hk_u2o (by omega)]
    exact f3 p q (by omega) (by omega) (by omega) (by omega)
  refine hk_Cl_arg (show [Value.ref 40, .int (s 41 (80 + 6 * p + 0)), .int 6] = [Value.ref 40, .int (nI i), .int 6] by rw [ei']) ?_
  refine m_shipOf (c := 6) (by omega) ?_
  refine And.intro (fun c1 => ?_) (fun c1 => ?_)
  · have c1 : s 41 (20 + 10 * i + 6) = 1 := c1
    exact hn2 s lm (hk_FP_r s) (fun q => absurd (c1.symm.trans q.1) (by decide))
  have c1 : ¬ s 41 (20 + 10 * i + 6) = 1 := c1
  have c1 : s 41 (20 + 10 * i + 6) = 0 := ((hk_RI_P h).2.1 a h.1.1 h.2.1.1 i hi).2.1.elim id (fun e => absurd e c1)
  refine hk_Cl_arg (show [Value.ref 40, .int (s 41 (80 + 6 * p + 0)), .int 8] = [Value.ref 40, .int (nI i), .int 8] by rw [ei']) ?_
  refine m_shipOf (c := 8) (by omega) ?_
  refine And.intro (fun c2 => ?_) (fun c2 => ?_)
  · have c2 : s 41 (20 + 10 * i + 8) = -1 := c2
    exact fin _ s lm _ (hk_FP_r s) ⟨c1, Or.inl c2⟩
  have c2 : ¬ s 41 (20 + 10 * i + 8) = -1 := c2
  obtain ⟨t, ht, et⟩ := (h.2.2.2.1 i hi).elim (fun e => absurd e c2) id
  refine hk_Cl_arg (show [Value.ref 40, .int (s 41 (80 + 6 * p + 0)), .int 8] = [Value.ref 40, .int (nI i), .int 8] by rw [ei']) ?_
  refine m_shipOf (c := 8) (by omega) ?_
  refine hk_Cl_arg (show [Value.ref 40, .int (s 41 (20 + 10 * i + 8)), .int (nI p)] = [Value.ref 40, .int (nI t), .int (nI p)] by rw [et]) ?_
  refine m_isTruthX h ht hp (fun s2 lm2 f2 hT => ?_) (fun s2 lm2 f2 hT => ?_)
  · refine And.intro (fun _ => ?_) (fun hc => absurd (show ¬ (1 : Int32) = 0 by decide) hc)
    exact fin _ s2 lm2 _ f2 ⟨c1, Or.inr ⟨t, ht, et, hT⟩⟩
  · refine And.intro (fun hc => absurd hc (show ¬ ¬ (0 : Int32) = 0 by decide)) (fun _ => ?_)
    refine hn2 s2 lm2 f2 (fun q => q.2.elim c2 (fun ⟨t2, ht2, et2, hT2⟩ => ?_))
    have := hk_same et et2 (by omega) (by omega)
    subst this
    exact hT hT2
theorem q_replaceE : hk_SI 42 160 [.int v, .int w] True := by
  rintro h ⟨s, lm, i0, i1, b, al, rfl, hc, hi⟩
  obtain ⟨a, bb, r, hr⟩ := hi.2.2.1
  have hb4 := hr.1.2.1
  have ha4 := hr.1.1
  refine c_replaceX (d := 917) hi.1 hi.2.1 hr (fun hb => ⟨_, rfl, m_replaceX (d := 993) hr (fun _ => ⟨_, rfl, fun _ => rfl, hk_Inv_mk hc hi⟩) (fun p i s2 lm2 q1 q2 q3 _ _ _ _ => absurd ⟨p, q1, q2, q3⟩ hb) (fun p i s2 lm2 q1 q2 q3 _ _ _ _ _ => absurd ⟨p, q1, q2, q3⟩ hb)⟩) (fun p i s2 q1 q2 q3 q4 q5 hr2 hm => ⟨_, rfl, ?_⟩) (fun p i s2 q1 q2 q3 q4 q5 hm f2 hR2 => ⟨_, rfl, ?_⟩)
  · have e41 : s2 41 = s 41 := funext fun q => hr2 41 q (by omega)
    refine m_replaceX (d := 993) (a := a) (bb := bb) (r := r) (by rw [e41]; exact hr) (fun hb => absurd ⟨p, q1, q2, q3⟩ hb) (fun p' i' s3 lm2 r1 r2 r3 r4 r5 hf _ => ⟨_, rfl, fun _ => rfl, hk_Inv_mk hc (hk_safe hi (hk_CF_p hi.1 (fun p q hp => hr2 p q (by omega))) (hk_Gw_of (hk_FP_G hf)) (by rw [hk_FP_41 hf, e41]; exact hi.2.2.1))⟩) (fun p' i' s3 lm2 r1 r2 r3 r4 r5 hm2 _ _ => ?_)
    have e1 := hk_same q1 r1 (by omega) (by omega)
    subst e1
    rw [e41] at r4 hm2
    have e2 := hk_same q4 r4 (by omega) (by omega)
    subst e2
    exact absurd hm2 hm
  · have e41 : s2 41 = s 41 := funext fun q => f2 41 q (by omega) (by omega)
    refine m_replaceX (d := 993) (a := a) (bb := bb) (r := r) (by rw [e41]; exact hr) (fun hb => absurd ⟨p, q1, q2, q3⟩ hb) (fun p' i' s3 lm2 r1 r2 r3 r4 r5 hf hm2 => ?_) (fun p' i' s3 lm2 r1 r2 r3 r4 r5 hm2 f3 e3 => ⟨_, rfl, fun _ => rfl, hk_Inv_mk hc ?_⟩)
    · have e1 := hk_same q1 r1 (by omega) (by omega)
      subst e1
      rw [e41] at r4 hm2
      have e2 := hk_same q4 r4 (by omega) (by omega)
      subst e2
      exact absurd hm hm2
    · have e1 := hk_same q1 r1 (by omega) (by omega)
      subst e1
      rw [e41] at e3
      exact hk_IS_fin hi (hk_TW_fr hi.1 (fun t q ht => f2 t q (by have := hk_tb35 ht; omega) (by have := hk_tb35 ht; omega))) hR2 (fun p q h1 h2 => f2 p q (by omega) (by omega)) f3 (fun q _ => by rw [e3]) ⟨_, _, _, hk_RI_rp hr q2 q3⟩
theorem c_moveX (hw : hk_TW s) (hR : hk_Rel s 1 f) (h : hk_RI f a bb r) (hb : ¬ (∃ p i, v = nI p ∧ p < bb ∧ w = nI i ∧ i < a ∧ ¬ f (80 + 6 * p) = nI i) → k (some (.int (-2))) (s, lm, hk_RH i0 i1 b, al)) (hn : ∀ p i i2, v = nI p → p < bb → w = nI i → i < a → ¬ f (80 + 6 * p) = nI i → f (80 + 6 * p) = nI i2 → i2 < a → ¬ (f (20 + 10 * i2 + 6) = 0 ∧ f (20 + 10 * i + 6) = 0) → k (some (.int (-3))) (s, lm, hk_RH i0 i1 b, al)) (hg : ∀ p i i2 s2, v = nI p → p < bb → w = nI i → i < a → ¬ f (80 + 6 * p) = nI i → f (80 + 6 * p) = nI i2 → i2 < a → (f (20 + 10 * i2 + 6) = 0 ∧ f (20 + 10 * i + 6) = 0) → (∀ p q, p ≠ 5 → s2 p q = s p q) → hk_Rel s2 1 (hk_mvF f p i) → k (some (.int 1)) (s2, lm, hk_RH i0 i1 b, al)) : hk_Cl (d + 3) 59 [.ref 0, .int v, .int w] (s, lm, hk_RH i0 i1 b, al) k := by
  have hS := hk_tw2 hw hR h
  have hP := hk_tw4 hw hR h
  have hbb := h.1.2.1
  have ha := h.1.1
  refine hk_mth hk_m59 rfl rfl (n := 1000) ?_
  refine c_hasn (by simp [hk_tb]) hP (fun p e hp => ?_) (fun a => ?_)
  rotate_left
  · refine And.intro (fun _ => ?_) (fun hc => absurd (by decide) hc)
    exact hb (fun ⟨p, i, q1, q2, _⟩ => a p q1 q2)
  refine And.intro (fun hc => absurd hc (by decide)) (fun _ => ?_)
  refine c_hasn (by simp [hk_tb]) hS (fun i e2 hi => ?_) (fun a => ?_)
  rotate_left
  · refine And.intro (fun hc => absurd hc (by decide)) (fun _ => ?_)
    exact hb (fun ⟨p, i, _, _, q1, q2, _⟩ => a i q1 q2)
  refine And.intro (fun _ => ?_) (fun hc => absurd (by decide) hc)
  obtain ⟨⟨i2, hi2, ei⟩, _⟩ := h.2.2.2.2.1 p hp
  have ei0 : f (80 + 6 * p + 0) = nI i2 := ei
  have hn2 := hn p i i2 e hp e2 hi
  have hg2 := fun s2 => hg p i i2 s2 e hp e2 hi
  subst e e2
  refine c_gP (c := 0) hP hR hp (by omega) ?_
  refine And.intro (fun c1 => ?_) (fun c1 => ?_)
  rotate_left
  · have c1 : ¬ ¬ f (80 + 6 * p) = nI i := c1
    refine hb (fun ⟨p2, j, q1, _, q3, _, q⟩ => ?_)
    have e1 := (nI_eq (by omega) (by omega)).mp q1
    have e2 := (nI_eq (by omega) (by omega)).mp q3
    subst e1 e2
    exact c1 q
  have c1 : ¬ f (80 + 6 * p) = nI i := c1
  have hn3 := hn2 c1 ei hi2
  have hg3 := fun s2 => hg2 s2 c1 ei hi2
  rw [ei0]
  refine c_floatsX hS hR hi2 (fun hf => ?_) (fun hf => ?_)
  rotate_left
  · refine And.intro (fun _ => ?_) (fun hc => absurd rfl hc)
    exact hn3 (fun q => hf q.1)
  refine And.intro (fun hc => absurd hc (show ¬ (1 : Int32) = 0 by decide)) (fun _ => ?_)
  refine c_floatsX hS hR hi (fun hf2 => ?_) (fun hf2 => ?_)
  rotate_left
  · refine And.intro (fun hc => absurd hc (show ¬ ¬ (0 : Int32) = 0 by decide)) (fun _ => ?_)
    exact hn3 (fun q => hf2 q.2)
  refine And.intro (fun _ => ?_) (fun hc => absurd (show ¬ (1 : Int32) = 0 by decide) hc)
  refine c_put_in (n := bb) (by simp [hk_tb]) hP (i := p) (by show p < 96; omega) (j := 0) (by decide) ?_
  refine c_put_in (n := bb) (by simp [hk_tb]) (hk_tw_f hP (fun q => hk_u2o (by omega))) (i := p) (by show p < 96; omega) (j := 5) (by decide) ?_
  have R1 : hk_Rel (hk_u2 s 5 (p * 6 + 0) (nI i)) 1 (hk_ud f (80 + 6 * p) (nI i)) := hk_Rel_d (a := 4) hR (hk_lp17 (by omega) (by omega))
  have R2 : hk_Rel (hk_u2 (hk_u2 s 5 (p * 6 + 0) (nI i)) 5 (p * 6 + 5) 0) 1 (hk_mvF f p i) := hk_Rel_d (a := 4) R1 (hk_lp17 (by omega) (by omega))
  exact hg3 _ ⟨hf, hf2⟩ (fun p q h5 => by rw [hk_u2o (by omega), hk_u2o (by omega)]) R2
theorem m_moveX (h : hk_RI (s 41) a bb r) (hb : ¬ (∃ p i, v = nI p ∧ p < bb ∧ w = nI i ∧ i < a ∧ ¬ s 41 (80 + 6 * p) = nI i) → k (some (.int (-2))) (s, lm, hk_RH i0 i1 b, al)) (hn : ∀ p i i2, v = nI p → p < bb → w = nI i → i < a → ¬ s 41 (80 + 6 * p) = nI i → s 41 (80 + 6 * p) = nI i2 → i2 < a → ¬ (s 41 (20 + 10 * i2 + 6) = 0 ∧ s 41 (20 + 10 * i + 6) = 0) → k (some (.int (-3))) (s, lm, hk_RH i0 i1 b, al)) (hg : ∀ p i i2 s2, v = nI p → p < bb → w = nI i → i < a → ¬ s 41 (80 + 6 * p) = nI i → s 41 (80 + 6 * p) = nI i2 → i2 < a → (s 41 (20 + 10 * i2 + 6) = 0 ∧ s 41 (20 + 10 * i + 6) = 0) → (∀ p q, p ≠ 41 → s2 p q = s p q) → s2 41 = hk_mvF (s 41) p i → k (some (.int 1)) (s2, lm, hk_RH i0 i1 b, al)) : hk_Cl (d + 3) 173 [.ref 40, .int v, .int w] (s, lm, hk_RH i0 i1 b, al) k := by
  have ha := h.1.1
  have hbb := h.1.2.1
  refine hk_mth hk_m173 rfl rfl (n := 1000) ?_
  refine m_is (c := 1) (by omega) h.2.1.2.1 (by omega) (fun p e hp => ?_) (fun a0 => ?_)
  rotate_left
  · refine And.intro (fun _ => ?_) (fun hc => absurd (by decide) hc)
    refine hb (fun ⟨p, i, q1, q2, _⟩ => ?_)
    rw [q1, nI_leI (by omega) (by omega)] at a0
    exact a0.elim (nI_pos (by omega)) (fun q => by omega)
  refine And.intro (fun hc => absurd hc (by decide)) (fun _ => ?_)
  refine m_is (c := 0) (by omega) h.2.1.1 (by omega) (fun i e2 hi => ?_) (fun a0 => ?_)
  rotate_left
  · refine And.intro (fun _ => ?_) (fun hc => absurd (by decide) hc)
    refine hb (fun ⟨p, i, _, _, q1, q2, _⟩ => ?_)
    rw [q1, nI_leI (by omega) (by omega)] at a0
    exact a0.elim (nI_pos (by omega)) (fun q => by omega)
  refine And.intro (fun hc => absurd hc (by decide)) (fun _ => ?_)
  obtain ⟨⟨i2, hi2, e3⟩, _⟩ := h.2.2.2.2.1 p hp
  have hn2 := hn p i i2 e hp e2 hi
  have hg2 := fun s2 => hg p i i2 s2 e hp e2 hi
  subst e e2
  refine m_plateOf (c := 0) (by omega) ?_
  refine And.intro (fun c1 => ?_) (fun c1 => ?_)
  rotate_left
  · have c1 : ¬ ¬ s 41 (80 + 6 * p) = nI i := c1
    refine hb (fun ⟨p2, j, q1, _, q3, _, q⟩ => ?_)
    have e1 := (nI_eq (by omega) (by omega)).mp q1
    have e2 := (nI_eq (by omega) (by omega)).mp q3
    subst e1 e2
    exact c1 q
  have c1 : ¬ s 41 (80 + 6 * p) = nI i := c1
  have hn3 := hn2 c1 e3 hi2
  have hg3 := fun s2 => hg2 s2 c1 e3 hi2
  refine m_shipOf (c := 6) (by omega) ?_
  refine And.intro (fun c2 => ?_) (fun c2 => ?_)
  · have c2 : s 41 (20 + 10 * i + 6) = 1 := c2
    exact hn3 (fun q => absurd (c2.symm.trans q.2) (by decide))
  have c2 : ¬ s 41 (20 + 10 * i + 6) = 1 := c2
  have c2 : s 41 (20 + 10 * i + 6) = 0 := ((hk_RI_P h).2.1 a h.1.1 h.2.1.1 i hi).2.1.elim id (fun e => absurd e c2)
  refine m_plateOf (c := 0) (by omega) ?_
  have e3' : s 41 (80 + 6 * p + 0) = nI i2 := e3
  rw [e3']
  refine m_shipOf (c := 6) (by omega) ?_
  refine And.intro (fun c3 => ?_) (fun c3 => ?_)
  rotate_left
  · have c3 : ¬ ¬ s 41 (20 + 10 * i2 + 6) = 1 := c3
    have c3 := Classical.not_not.mp c3
    exact hn3 (fun q => absurd (c3.symm.trans q.1) (by decide))
  have c3 : ¬ s 41 (20 + 10 * i2 + 6) = 1 := c3
  have c3 : s 41 (20 + 10 * i2 + 6) = 0 := ((hk_RI_P h).2.1 a h.1.1 h.2.1.1 i2 hi2).2.1.elim id (fun e => absurd e c3)
  refine hk_stn (i := 80 + 6 * nI p) (j := 80 + 6 * p) (by simp only [hk_lit, pk_mul, nI_add]) (by omega) (by decide) (fun s4 (hs4 : s4 = hk_u2 s 41 (80 + 6 * p) (nI i)) => ?_)
  refine hk_stn (i := 80 + 6 * nI p + 5) (j := 80 + 6 * p + 5) (by simp only [hk_lit, pk_mul, nI_add]) (by omega) (by decide) (fun s5 (hs5 : s5 = hk_u2 s4 41 (80 + 6 * p + 5) 0) => ?_)
  have e4 : s4 41 = hk_ud (s 41) (80 + 6 * p) (nI i) := by rw [hs4]; exact hk_u2f
  have e5 : s5 41 = hk_ud (s4 41) (80 + 6 * p + 5) 0 := by rw [hs5]; exact hk_u2f
  refine hg3 s5 ⟨c3, c2⟩ (fun p q hp => ?_) (by rw [e5, e4]; rfl)
  rw [hs5, hk_u2o (by omega), hs4, hk_u2o (by omega)]
theorem q_moveE : hk_SI 59 173 [.int v, .int w] True := by
  rintro h ⟨s, lm, i0, i1, b, al, rfl, hc, hi⟩
  obtain ⟨a, bb, r, hr⟩ := hi.2.2.1
  have hb4 := hr.1.2.1
  have ha4 := hr.1.1
  refine c_moveX (d := 997) hi.1 hi.2.1 hr (fun hb => ⟨_, rfl, m_moveX (d := 997) hr (fun _ => ⟨_, rfl, fun _ => rfl, hk_Inv_mk hc hi⟩) (fun p i i2 q1 q2 q3 q4 q5 _ _ _ => absurd ⟨p, i, q1, q2, q3, q4, q5⟩ hb) (fun p i i2 s2 q1 q2 q3 q4 q5 _ _ _ _ _ => absurd ⟨p, i, q1, q2, q3, q4, q5⟩ hb)⟩) (fun p i i2 q1 q2 q3 q4 q5 q6 q7 hm => ⟨_, rfl, ?_⟩) (fun p i i2 s2 q1 q2 q3 q4 q5 q6 q7 hm f2 hR2 => ⟨_, rfl, ?_⟩)
  · refine m_moveX (d := 997) (a := a) (bb := bb) (r := r) hr (fun hb => absurd ⟨p, i, q1, q2, q3, q4, q5⟩ hb) (fun p' i' j' r1 r2 r3 r4 r5 r6 r7 _ => ⟨_, rfl, fun _ => rfl, hk_Inv_mk hc hi⟩) (fun p' i' j' s2 r1 r2 r3 r4 r5 r6 r7 hm2 _ _ => ?_)
    have e1 := hk_same q1 r1 (by omega) (by omega)
    have e2 := hk_same q3 r3 (by omega) (by omega)
    subst e1 e2
    have e3 := hk_same q6 r6 (by omega) (by omega)
    subst e3
    exact absurd hm2 hm
  · have e41 : s2 41 = s 41 := funext fun q => f2 41 q (by omega)
    refine m_moveX (d := 997) (a := a) (bb := bb) (r := r) (by rw [e41]; exact hr) (fun hb => absurd ⟨p, i, q1, q2, q3, q4, by rw [e41]; exact q5⟩ hb) (fun p' i' j' r1 r2 r3 r4 r5 r6 r7 hm2 => ?_) (fun p' i' j' s3 r1 r2 r3 r4 r5 r6 r7 hm2 f3 e3 => ⟨_, rfl, fun _ => rfl, hk_Inv_mk hc ?_⟩)
    · have e1 := hk_same q1 r1 (by omega) (by omega)
      have e2 := hk_same q3 r3 (by omega) (by omega)
      subst e1 e2
      rw [e41] at r6 hm2
      have e3 := hk_same q6 r6 (by omega) (by omega)
      subst e3
      exact absurd hm hm2
    · have e1 := hk_same q1 r1 (by omega) (by omega)
      have e2 := hk_same q3 r3 (by omega) (by omega)
      subst e1 e2
      rw [e41] at e3
      exact hk_IS_fin hi (hk_TW_fr hi.1 (fun t q ht => f2 t q (by have := hk_tb35 ht; omega))) hR2 (fun p q h1 h2 => f2 p q (by omega)) (fun p q hp => f3 p q (by omega)) (fun q _ => by rw [e3]) ⟨_, _, _, hk_RI_mv hr q4 q2⟩
end HKEM
