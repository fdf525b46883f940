/-! ===== tells, unlike agree ===== -/
/-- how many of the plates from j on that Q says, or the one asked for -/
noncomputable def hk_unR (Q : Nat → Prop) (what : Int32) : Nat → Nat → Int32 → Int32
  | 0, _, c => if what = -1 then c else -1
  | g + 1, j, c => @ite _ (Q j) (Classical.propDecidable (Q j)) (if c = what then nI j else hk_unR Q what g (j + 1) (c + 1)) (hk_unR Q what g (j + 1) c)
theorem hk_unR_n {Q : Nat → Prop} {what c : Int32} {g j : Nat} (h : ¬ Q j) : hk_unR Q what (g + 1) j c = hk_unR Q what g (j + 1) c := by
  rw [hk_unR, if_neg h]
theorem hk_unR_y {Q : Nat → Prop} {what c : Int32} {g j : Nat} (h : Q j) (hc : ¬ c = what) : hk_unR Q what (g + 1) j c = hk_unR Q what g (j + 1) (c + 1) := by
  rw [hk_unR, if_pos h, if_neg hc]
theorem hk_unR_f {Q : Nat → Prop} {what c : Int32} {g j : Nat} (h : Q j) (hc : c = what) : hk_unR Q what (g + 1) j c = nI j := by
  rw [hk_unR, if_pos h, if_pos hc]
def hk_unQ (f : Nat → Int32) (bb : Nat) (v : Int32) (t1 t2 j : Nat) : Prop := f (80 + 6 * j) = v ∧ ¬ (hk_tru f bb t1 j ↔ hk_tru f bb t2 j)
section HKEL
variable {d n a bb r t t1 t2 p : Nat} {v w x y z : Int32} {s : Nat → Nat → Int32} {lm : Nat → Nat → Int64} {i0 i1 b : Nat} {al : List Nat} {k : Option Value → hk_H → Prop} {f : Nat → Int32}
theorem m_isTruthX (h : hk_RI (s 41) a bb r) (ht : t < 4) (hp : p < bb) (h1 : ∀ s2 lm2, hk_FP s s2 → hk_tru (s 41) bb t p → k (some (.int 1)) (s2, lm2, hk_RH i0 i1 b, al)) (h0 : ∀ s2 lm2, hk_FP s s2 → ¬ hk_tru (s 41) bb t p → k (some (.int 0)) (s2, lm2, hk_RH i0 i1 b, al)) : hk_Cl (d + 6) 161 [.ref 40, .int (nI t), .int (nI p)] (s, lm, hk_RH i0 i1 b, al) k := by
  obtain ⟨n, hn, en⟩ := h.2.2.2.2.2.2.2.1 t ht
  have eN : hk_tN (s 41) t = n := by
    unfold hk_tN
    rw [en, nI_clamp (by omega)]
  have eR : hk_tR (s 41) bb t p = hk_sy (fun i => s 41 (1422 + 61 * t + 1 + i)) n (hk_nmV (s 41) bb p) 0 [] [] 0 0 := by
    unfold hk_tR
    rw [eN]
    rfl
  refine hk_mth hk_m161 rfl rfl (n := 1000) ?_
  refine m_readsX (nm := hk_nmV (s 41) bb p) ht hn en (fun s2 hd => ?_)
  rw [← eR] at hd ⊢
  refine And.intro (fun c1 => ?_) (fun c1 => ?_)
  · have c1 : ¬ (hk_tR (s 41) bb t p).1 = -1 := c1
    exact And.intro (Or.inl rfl) (h0 s2 lm hd.1 (fun q => c1 q.1))
  have c1 : ¬ ¬ (hk_tR (s 41) bb t p).1 = -1 := c1
  have c1 := Classical.not_not.mp c1
  obtain ⟨kk, q1, q2, q3, q4⟩ := hd.2 c1
  have hl := hk_ev_len (nm := hk_nmV (s 41) bb p) (e := s2 46) kk 1 (by omega) q3
  rw [q4] at hl
  obtain ⟨u, hu⟩ : ∃ u, (hk_tR (s 41) bb t p).2 = [u] := List.length_eq_one_iff.mp hl
  refine m_tellsOfX (u := u) (a := a) (r := r) (by rw [hk_FP_41 hd.1]; exact h) hp q2 q1 q3 (by rw [hk_FP_41 hd.1, q4, hu]) (fun lm2 => ?_)
  refine And.intro (fun c2 => ?_) (fun c2 => ?_)
  · have c2 : lg_cmp u 0 = 0 := c2
    refine And.intro (Or.inl rfl) (h0 s2 lm2 hd.1 (fun q => q.2 ?_))
    rw [hu, (hk_cm0 u 0).mp c2]
  · have c2 : ¬ lg_cmp u 0 = 0 := c2
    refine And.intro (Or.inr rfl) (h1 s2 lm2 hd.1 ⟨c1, fun q => c2 ((hk_cm0 u 0).mpr ?_)⟩)
    rw [hu] at q
    exact (List.cons.inj q).1
theorem m_tellsX2 (h : hk_RI (s 41) a bb r) (hb : ¬ (∃ t p, v = nI t ∧ t < 4 ∧ w = nI p ∧ p < bb) → k (some (.long (-2000000000000000000))) (s, lm, hk_RH i0 i1 b, al)) (hg : ∀ t p s2 lm2, v = nI t → t < 4 → w = nI p → p < bb → hk_FP s s2 → k (some (.long (hk_tlV (hk_tR (s 41) bb t p)))) (s2, lm2, hk_RH i0 i1 b, al)) : hk_Cl (d + 6) 190 [.ref 40, .int v, .int w] (s, lm, hk_RH i0 i1 b, al) k := by
  have hbb := h.1.2.1
  refine hk_mth hk_m190 rfl rfl (n := 1000) ?_
  refine m_isText2 (fun a => ?_) (fun t e ht => ?_)
  · refine And.intro (fun _ => ?_) (fun hc => absurd (by decide) hc)
    exact hb (fun ⟨t, p, q1, q2, _⟩ => a t q1 q2)
  refine And.intro (fun hc => absurd hc (by decide)) (fun _ => ?_)
  refine m_is (c := 1) (by omega) h.2.1.2.1 (by omega) (fun p e2 hp => ?_) (fun a0 => ?_)
  rotate_left
  · refine And.intro (fun hc => absurd hc (by decide)) (fun _ => ?_)
    refine hb (fun ⟨t, p, _, _, q3, q4⟩ => ?_)
    rw [q3, nI_leI (by omega) (by omega)] at a0
    exact a0.elim (nI_pos (by omega)) (fun q => by omega)
  refine And.intro (fun _ => ?_) (fun hc => absurd (by decide) hc)
  subst e e2
  have key := fun s2 lm2 => hg t p s2 lm2 rfl ht rfl hp
  clear hg hb
  obtain ⟨n, hn, en⟩ := h.2.2.2.2.2.2.2.1 t ht
  have eN : hk_tN (s 41) t = n := by
    unfold hk_tN
    rw [en, nI_clamp (by omega)]
  have eR : hk_tR (s 41) bb t p = hk_sy (fun i => s 41 (1422 + 61 * t + 1 + i)) n (hk_nmV (s 41) bb p) 0 [] [] 0 0 := by
    unfold hk_tR
    rw [eN]
    rfl
  refine m_readsX (nm := hk_nmV (s 41) bb p) ht hn en (fun s2 hd => ?_)
  rw [← eR] at hd ⊢
  unfold hk_tlV at key
  refine And.intro (fun c1 => ?_) (fun c1 => ?_)
  · have c1 : (hk_tR (s 41) bb t p).1 = -1 := c1
    obtain ⟨kk, q1, q2, q3, q4⟩ := hd.2 c1
    have hl := hk_ev_len (nm := hk_nmV (s 41) bb p) (e := s2 46) kk 1 (by omega) q3
    rw [q4] at hl
    obtain ⟨u, hu⟩ : ∃ u, (hk_tR (s 41) bb t p).2 = [u] := List.length_eq_one_iff.mp hl
    refine m_tellsOfX (u := u) (a := a) (r := r) (by rw [hk_FP_41 hd.1]; exact h) hp q2 q1 q3 (by rw [hk_FP_41 hd.1, q4, hu]) (fun lm2 => ?_)
    have key := key s2 lm2 hd.1
    rw [if_pos c1, hu] at key
    exact key
  · have c1 : ¬ (hk_tR (s 41) bb t p).1 = -1 := c1
    have key := key s2 lm hd.1
    rw [if_neg c1] at key
    exact key
theorem q_tellsE : hk_SJ 75 190 [.int v, .int w] True := by
  rintro h ⟨s, lm, i0, i1, b, al, rfl, hc, hi⟩
  obtain ⟨a, bb, r, hr⟩ := hi.2.2.1
  have hb4 := hr.1.2.1
  refine c_tellsX2 (d := 918) hi.1 hi.2.1 hr (fun hb => ⟨_, rfl, m_tellsX2 (d := 994) hr (fun _ => ⟨_, rfl, fun _ => rfl, hk_Inv_mk hc hi⟩) (fun t p s2 lm2 q1 q2 q3 q4 _ => absurd ⟨t, p, q1, q2, q3, q4⟩ hb)⟩) (fun t p s2 q1 q2 q3 q4 hr2 => ⟨_, rfl, ?_⟩)
  have e41 : s2 41 = s 41 := funext fun q => hr2 41 q (by omega)
  refine m_tellsX2 (d := 994) (a := a) (bb := bb) (r := r) (by rw [e41]; exact hr) (fun hb => absurd ⟨t, p, q1, q2, q3, q4⟩ hb) (fun t2 p2 s3 lm2 r1 r2 r3 r4 hf => ⟨_, rfl, fun _ => ?_, hk_Inv_mk hc ?_⟩)
  · have e1 := hk_same q1 r1 (by omega) (by omega)
    have e2 := hk_same q3 r3 (by omega) (by omega)
    rw [e41, e1, e2]
  · exact hk_safe hi (hk_CF_p hi.1 (fun p q hp => hr2 p q (by omega))) (hk_Gw_of (hk_FP_G hf)) (by rw [hk_FP_41 hf, e41]; exact hi.2.2.1)
theorem c_unlikeX (hw : hk_TW s) (hR : hk_Rel s 1 f) (h : hk_RI f a bb r) (hb : ¬ (∃ i t1 t2, v = nI i ∧ i < a ∧ w = nI t1 ∧ t1 < 4 ∧ x = nI t2 ∧ t2 < 4 ∧ ¬ y < -1) → k (some (.int (-2))) (s, lm, hk_RH i0 i1 b, al)) (hg : ∀ i t1 t2 s2, v = nI i → i < a → w = nI t1 → t1 < 4 → x = nI t2 → t2 < 4 → ¬ y < -1 → hk_R24 s s2 → k (some (.int (hk_unR (hk_unQ f bb v t1 t2) y bb 0 0))) (s2, lm, hk_RH i0 i1 b, al)) : hk_Cl (d + 83) 77 [.ref 0, .int v, .int w, .int x, .int y] (s, lm, hk_RH i0 i1 b, al) k := by
  have hS := hk_tw2 hw hR h
  have hP := hk_tw4 hw hR h
  have hbb := h.1.2.1
  refine hk_mth hk_m77 rfl rfl (n := 1000) ?_
  refine c_hasn (by simp [hk_tb]) hS (fun i e hi => ?_) (fun a => ?_)
  rotate_left
  · refine And.intro (fun _ => ?_) (fun hc => absurd (by decide) hc)
    exact hb (fun ⟨i, t1, t2, q1, q2, _⟩ => a i q1 q2)
  refine And.intro (fun hc => absurd hc (by decide)) (fun _ => ?_)
  refine c_hasn (by simp [hk_tb]) hw.2.2 (fun t1 e1 ht1 => ?_) (fun a => ?_)
  rotate_left
  · refine And.intro (fun _ => ?_) (fun hc => absurd (by decide) hc)
    exact hb (fun ⟨i, t1, t2, _, _, q1, q2, _⟩ => a t1 q1 q2)
  refine And.intro (fun hc => absurd hc (by decide)) (fun _ => ?_)
  refine c_hasn (by simp [hk_tb]) hw.2.2 (fun t2 e2 ht2 => ?_) (fun a => ?_)
  rotate_left
  · refine And.intro (fun _ => ?_) (fun hc => absurd (by decide) hc)
    exact hb (fun ⟨i, t1, t2, _, _, _, _, q1, q2, _⟩ => a t2 q1 q2)
  refine And.intro (fun hc => absurd hc (by decide)) (fun _ => ?_)
  refine And.intro (fun c1 => ?_) (fun c1 => ?_)
  rotate_left
  · have c1 : ¬ -1 ≤ y := c1
    exact hb (fun ⟨i, t1, t2, _, _, _, _, _, _, q⟩ => c1 (Int32.not_lt.mp q))
  have c1 : -1 ≤ y := c1
  have hg := fun s2 => hg i t1 t2 s2 e hi e1 ht1 e2 ht2 (Int32.not_lt.mpr c1)
  have loop : ∀ (q j : Nat) (s3 : Nat → Nat → Int32) (c : Int32), j + q = bb → hk_R24 s s3 → (∀ s2, hk_R24 s s2 → k (some (.int (hk_unR (hk_unQ f bb v t1 t2) y q j c))) (s2, lm, hk_RH i0 i1 b, al)) → hk_Rn (d + 82) none hk_c77 (hk_sfx 57 hk_c77) [some (.ref 0), some (.int v), some (.int w), some (.int x), some (.int y), some (.int c), some (.int (nI j))] [] (s3, lm, hk_RH i0 i1 b, al) k := by
    intro q
    induction q with
    | zero =>
      intro j s3 c hj h3 hk
      have ej : j = bb := by omega
      subst ej
      have a1 : s3 4 3 ≤ nI j := by rw [h3 _ _ (by omega), hP.2.2.1]; exact Int32.le_refl _
      have key := hk s3 h3
      rw [hk_unR] at key
      refine hk_hd (n := 1000) (t := 57) rfl ?_
      refine And.intro (fun _ => ?_) (fun hc => absurd a1 hc)
      refine And.intro (fun c2 => ?_) (fun c2 => ?_)
      · have c2 : ¬ y = -1 := c2
        rw [if_neg c2] at key
        exact key
      · have c2 : ¬ ¬ y = -1 := c2
        rw [if_pos (Classical.not_not.mp c2)] at key
        exact key
    | succ q ih =>
      intro j s3 c hj h3 hk
      have a1 : ¬ s3 4 3 ≤ nI j := by rw [h3 _ _ (by omega), hP.2.2.1]; exact hk_nlt (by omega) (by omega)
      have hw3 := hk_R24_TW h3 hw
      have hR3 := hk_Rel_f hR (fun p q hp => h3 p q (by omega))
      have nn : ∀ s4, hk_R24 s s4 → ¬ hk_unQ f bb v t1 t2 j → hk_Rn (d + 82) none hk_c77 (hk_sfx 57 hk_c77) [some (.ref 0), some (.int v), some (.int w), some (.int x), some (.int y), some (.int c), some (.int (nI j + 1))] [] (s4, lm, hk_RH i0 i1 b, al) k := fun s4 h4 hQ => hk_Rn_cast (by rw [nI_1]) (ih (j + 1) s4 c (by omega) h4 (fun s2 hr2 => by
        have := hk s2 hr2
        rw [hk_unR_n hQ] at this
        exact this))
      have nY : ∀ s4, hk_R24 s s4 → hk_unQ f bb v t1 t2 j → ¬ c = y → hk_Rn (d + 82) none hk_c77 (hk_sfx 57 hk_c77) [some (.ref 0), some (.int v), some (.int w), some (.int x), some (.int y), some (.int (c + 1)), some (.int (nI j + 1))] [] (s4, lm, hk_RH i0 i1 b, al) k := fun s4 h4 hQ c4 => hk_Rn_cast (by rw [nI_1]) (ih (j + 1) s4 (c + 1) (by omega) h4 (fun s2 hr2 => by
        have := hk s2 hr2
        rw [hk_unR_y hQ c4] at this
        exact this))
      have nF : ∀ s4, hk_R24 s s4 → hk_unQ f bb v t1 t2 j → c = y → k (some (.int (nI j))) (s4, lm, hk_RH i0 i1 b, al) := fun s4 h4 hQ c4 => by
        have := hk s4 h4
        rw [hk_unR_f hQ c4] at this
        exact this
      have ec : [Value.ref 24, .int w, .int (nI j)] = [Value.ref 24, .int (nI t1), .int (nI j)] := by rw [e1]
      have ec2 : [Value.ref 24, .int x, .int (nI j)] = [Value.ref 24, .int (nI t2), .int (nI j)] := by rw [e2]
      refine hk_hd (n := 1000) (t := 57) rfl ?_
      refine And.intro (fun hc => absurd hc a1) (fun _ => ?_)
      refine c_gP (c := 0) (hk_tw4 hw3 hR3 h) hR3 (by omega) (by omega) ?_
      refine And.intro (fun c2 => ?_) (fun c2 => ?_)
      · have c2 : ¬ f (80 + 6 * j) = v := c2
        exact nn s3 h3 (fun q => c2 q.1)
      have c2 : ¬ ¬ f (80 + 6 * j) = v := c2
      have c2 := Classical.not_not.mp c2
      refine hk_Cl_arg ec ?_
      refine c_isTrueX hw3 hR3 h ht1 (by omega) (fun s4 h4 hT1 => ?_) (fun s4 h4 hT1 => ?_)
      · have h5 := hk_R24_t h3 h4
        refine hk_Cl_arg ec2 ?_
        refine c_isTrueX (hk_R24_TW h5 hw) (hk_Rel_f hR (fun p q hp => h5 p q (by omega))) h ht2 (by omega) (fun s6 h6 hT2 => ?_) (fun s6 h6 hT2 => ?_)
        · refine And.intro (fun _ => ?_) (fun hc => absurd rfl hc)
          exact nn s6 (hk_R24_t h5 h6) (fun q => q.2 ⟨fun _ => hT2, fun _ => hT1⟩)
        · refine And.intro (fun hc => absurd hc (show ¬ (1 : Int32) = 0 by decide)) (fun _ => ?_)
          have hQ : hk_unQ f bb v t1 t2 j := ⟨c2, fun q => hT2 (q.mp hT1)⟩
          refine And.intro (fun c4 => ?_) (fun c4 => ?_)
          · have c4 : ¬ c = y := c4
            exact nY s6 (hk_R24_t h5 h6) hQ c4
          · have c4 : ¬ ¬ c = y := c4
            exact nF s6 (hk_R24_t h5 h6) hQ (Classical.not_not.mp c4)
      · have h5 := hk_R24_t h3 h4
        refine hk_Cl_arg ec2 ?_
        refine c_isTrueX (hk_R24_TW h5 hw) (hk_Rel_f hR (fun p q hp => h5 p q (by omega))) h ht2 (by omega) (fun s6 h6 hT2 => ?_) (fun s6 h6 hT2 => ?_)
        · refine And.intro (fun hc => absurd hc (show ¬ (0 : Int32) = 1 by decide)) (fun _ => ?_)
          have hQ : hk_unQ f bb v t1 t2 j := ⟨c2, fun q => hT1 (q.mpr hT2)⟩
          refine And.intro (fun c4 => ?_) (fun c4 => ?_)
          · have c4 : ¬ c = y := c4
            exact nY s6 (hk_R24_t h5 h6) hQ c4
          · have c4 : ¬ ¬ c = y := c4
            exact nF s6 (hk_R24_t h5 h6) hQ (Classical.not_not.mp c4)
        · refine And.intro (fun _ => ?_) (fun hc => absurd rfl hc)
          exact nn s6 (hk_R24_t h5 h6) (fun q => q.2 ⟨fun q => absurd q hT1, fun q => absurd q hT2⟩)
  exact loop bb 0 s 0 (by omega) (hk_R24_r s) hg
theorem m_unlikeX (h : hk_RI (s 41) a bb r) (hb : ¬ (∃ i t1 t2, v = nI i ∧ i < a ∧ w = nI t1 ∧ t1 < 4 ∧ x = nI t2 ∧ t2 < 4 ∧ ¬ y < -1) → k (some (.int (-2))) (s, lm, hk_RH i0 i1 b, al)) (hg : ∀ i t1 t2 s2 lm2, v = nI i → i < a → w = nI t1 → t1 < 4 → x = nI t2 → t2 < 4 → ¬ y < -1 → hk_FP s s2 → k (some (.int (hk_unR (hk_unQ (s 41) bb v t1 t2) y bb 0 0))) (s2, lm2, hk_RH i0 i1 b, al)) : hk_Cl (d + 7) 192 [.ref 40, .int v, .int w, .int x, .int y] (s, lm, hk_RH i0 i1 b, al) k := by
  have ha := h.1.1
  have hbb := h.1.2.1
  refine hk_mth hk_m192 rfl rfl (n := 1000) ?_
  refine m_is (c := 0) (by omega) h.2.1.1 (by omega) (fun i e hi => ?_) (fun a0 => ?_)
  rotate_left
  · refine And.intro (fun _ => ?_) (fun hc => absurd (by decide) hc)
    refine hb (fun ⟨i, t1, t2, q1, q2, _⟩ => ?_)
    rw [q1, nI_leI (by omega) (by omega)] at a0
    exact a0.elim (nI_pos (by omega)) (fun q => by omega)
  refine And.intro (fun hc => absurd hc (by decide)) (fun _ => ?_)
  refine m_isText2 (fun a => ?_) (fun t1 e1 ht1 => ?_)
  · refine And.intro (fun _ => ?_) (fun hc => absurd (by decide) hc)
    exact hb (fun ⟨i, t1, t2, _, _, q1, q2, _⟩ => a t1 q1 q2)
  refine And.intro (fun hc => absurd hc (by decide)) (fun _ => ?_)
  refine m_isText2 (fun a => ?_) (fun t2 e2 ht2 => ?_)
  · refine And.intro (fun _ => ?_) (fun hc => absurd (by decide) hc)
    exact hb (fun ⟨i, t1, t2, _, _, _, _, q1, q2, _⟩ => a t2 q1 q2)
  refine And.intro (fun hc => absurd hc (by decide)) (fun _ => ?_)
  refine And.intro (fun c1 => ?_) (fun c1 => ?_)
  rotate_left
  · have c1 : ¬ -1 ≤ y := c1
    exact hb (fun ⟨i, t1, t2, _, _, _, _, _, _, q⟩ => c1 (Int32.not_lt.mp q))
  have c1 : -1 ≤ y := c1
  have hgg := fun s2 lm2 => hg i t1 t2 s2 lm2 e hi e1 ht1 e2 ht2 (Int32.not_lt.mpr c1)
  subst e1 e2
  have loop : ∀ (g j : Nat) (s3 : Nat → Nat → Int32) (lm2 : Nat → Nat → Int64) (c : Int32), j + g = bb → hk_FP s s3 → (∀ s2 lm2, hk_FP s s2 → k (some (.int (hk_unR (hk_unQ (s 41) bb v t1 t2) y g j c))) (s2, lm2, hk_RH i0 i1 b, al)) → hk_Rn (d + 6) none hk_c192 (hk_sfx 38 hk_c192) [some (.ref 40), some (.int v), some (.int (nI t1)), some (.int (nI t2)), some (.int y), some (.int c), some (.int (nI j))] [] (s3, lm2, hk_RH i0 i1 b, al) k := by
    intro g
    induction g with
    | zero =>
      intro j s3 lm2 c hj f3 hk
      have h3 : hk_RI (s3 41) a bb r := by rw [hk_FP_41 f3]; exact h
      have ej : j = bb := by omega
      subst ej
      have key := hk s3 lm2 f3
      rw [hk_unR] at key
      refine hk_hd (n := 1000) (t := 38) rfl ?_
      refine hk_ldi (i := nI 1) (j := 1) (by simp only [hk_lit, pk_mul, nI_add]) (by omega) (by decide) h3.2.1.2.1 ?_
      refine And.intro (fun _ => ?_) (fun hc => absurd (Int32.le_refl _) hc)
      refine And.intro (fun c2 => ?_) (fun c2 => ?_)
      · have c2 : ¬ y = -1 := c2
        rw [if_neg c2] at key
        exact key
      · have c2 : ¬ ¬ y = -1 := c2
        rw [if_pos (Classical.not_not.mp c2)] at key
        exact key
    | succ g ih =>
      intro j s3 lm2 c hj f3 hk
      have e41 := hk_FP_41 f3
      have h3 : hk_RI (s3 41) a bb r := by rw [e41]; exact h
      have a1 : ¬ nI bb ≤ nI j := hk_nlt (by omega) (by omega)
      have nn : ∀ s4 lm4, hk_FP s s4 → ¬ hk_unQ (s 41) bb v t1 t2 j → hk_Rn (d + 6) none hk_c192 (hk_sfx 38 hk_c192) [some (.ref 40), some (.int v), some (.int (nI t1)), some (.int (nI t2)), some (.int y), some (.int c), some (.int (nI j + 1))] [] (s4, lm4, hk_RH i0 i1 b, al) k := fun s4 lm4 h4 hQ => hk_Rn_cast (by rw [nI_1]) (ih (j + 1) s4 lm4 c (by omega) h4 (fun s2 l2 hr2 => by
        have := hk s2 l2 hr2
        rw [hk_unR_n hQ] at this
        exact this))
      have nY : ∀ s4 lm4, hk_FP s s4 → hk_unQ (s 41) bb v t1 t2 j → ¬ c = y → hk_Rn (d + 6) none hk_c192 (hk_sfx 38 hk_c192) [some (.ref 40), some (.int v), some (.int (nI t1)), some (.int (nI t2)), some (.int y), some (.int (c + 1)), some (.int (nI j + 1))] [] (s4, lm4, hk_RH i0 i1 b, al) k := fun s4 lm4 h4 hQ c4 => hk_Rn_cast (by rw [nI_1]) (ih (j + 1) s4 lm4 (c + 1) (by omega) h4 (fun s2 l2 hr2 => by
        have := hk s2 l2 hr2
        rw [hk_unR_y hQ c4] at this
        exact this))
      have nF : ∀ s4 lm4, hk_FP s s4 → hk_unQ (s 41) bb v t1 t2 j → c = y → k (some (.int (nI j))) (s4, lm4, hk_RH i0 i1 b, al) := fun s4 lm4 h4 hQ c4 => by
        have := hk s4 lm4 h4
        rw [hk_unR_f hQ c4] at this
        exact this
      refine hk_hd (n := 1000) (t := 38) rfl ?_
      refine hk_ldi (i := nI 1) (j := 1) (by simp only [hk_lit, pk_mul, nI_add]) (by omega) (by decide) h3.2.1.2.1 ?_
      refine And.intro (fun hc => absurd hc a1) (fun _ => ?_)
      refine m_plateOf (c := 0) (by omega) ?_
      refine And.intro (fun c2 => ?_) (fun c2 => ?_)
      · have c2 : ¬ s3 41 (80 + 6 * j) = v := c2
        rw [e41] at c2
        exact nn s3 lm2 f3 (fun q => c2 q.1)
      have c2 : ¬ ¬ s3 41 (80 + 6 * j) = v := c2
      rw [e41] at c2
      have c2 := Classical.not_not.mp c2
      refine m_isTruthX (s := s3) (lm := lm2) h3 ht1 (by omega) (fun s4 lm4 f4 hT1 => ?_) (fun s4 lm4 f4 hT1 => ?_)
      · have f5 := hk_FP_t f3 f4
        have h5 : hk_RI (s4 41) a bb r := by rw [hk_FP_41 f5]; exact h
        rw [e41] at hT1
        refine m_isTruthX (s := s4) (lm := lm4) h5 ht2 (by omega) (fun s6 lm6 f6 hT2 => ?_) (fun s6 lm6 f6 hT2 => ?_)
        · rw [hk_FP_41 f5] at hT2
          refine And.intro (fun _ => ?_) (fun hc => absurd rfl hc)
          exact nn s6 lm6 (hk_FP_t f5 f6) (fun q => q.2 ⟨fun _ => hT2, fun _ => hT1⟩)
        · rw [hk_FP_41 f5] at hT2
          refine And.intro (fun hc => absurd hc (show ¬ (1 : Int32) = 0 by decide)) (fun _ => ?_)
          have hQ : hk_unQ (s 41) bb v t1 t2 j := ⟨c2, fun q => hT2 (q.mp hT1)⟩
          refine And.intro (fun c4 => ?_) (fun c4 => ?_)
          · have c4 : ¬ c = y := c4
            exact nY s6 lm6 (hk_FP_t f5 f6) hQ c4
          · have c4 : ¬ ¬ c = y := c4
            exact nF s6 lm6 (hk_FP_t f5 f6) hQ (Classical.not_not.mp c4)
      · have f5 := hk_FP_t f3 f4
        have h5 : hk_RI (s4 41) a bb r := by rw [hk_FP_41 f5]; exact h
        rw [e41] at hT1
        refine m_isTruthX (s := s4) (lm := lm4) h5 ht2 (by omega) (fun s6 lm6 f6 hT2 => ?_) (fun s6 lm6 f6 hT2 => ?_)
        · rw [hk_FP_41 f5] at hT2
          refine And.intro (fun hc => absurd hc (show ¬ (0 : Int32) = 1 by decide)) (fun _ => ?_)
          have hQ : hk_unQ (s 41) bb v t1 t2 j := ⟨c2, fun q => hT1 (q.mpr hT2)⟩
          refine And.intro (fun c4 => ?_) (fun c4 => ?_)
          · have c4 : ¬ c = y := c4
            exact nY s6 lm6 (hk_FP_t f5 f6) hQ c4
          · have c4 : ¬ ¬ c = y := c4
            exact nF s6 lm6 (hk_FP_t f5 f6) hQ (Classical.not_not.mp c4)
        · rw [hk_FP_41 f5] at hT2
          refine And.intro (fun _ => ?_) (fun hc => absurd rfl hc)
          exact nn s6 lm6 (hk_FP_t f5 f6) (fun q => q.2 ⟨fun q => absurd q hT1, fun q => absurd q hT2⟩)
  exact loop bb 0 s lm 0 (by omega) (hk_FP_r s) hgg
theorem q_unlikeE : hk_SI 77 192 [.int v, .int w, .int x, .int y] True := by
  rintro h ⟨s, lm, i0, i1, b, al, rfl, hc, hi⟩
  obtain ⟨a, bb, r, hr⟩ := hi.2.2.1
  have hb4 := hr.1.2.1
  have ha4 := hr.1.1
  refine c_unlikeX (d := 917) hi.1 hi.2.1 hr (fun hb => ⟨_, rfl, m_unlikeX (d := 993) hr (fun _ => ⟨_, rfl, fun _ => rfl, hk_Inv_mk hc hi⟩) (fun i t1 t2 s2 lm2 q1 q2 q3 q4 q5 q6 q7 _ => absurd ⟨i, t1, t2, q1, q2, q3, q4, q5, q6, q7⟩ hb)⟩) (fun i t1 t2 s2 q1 q2 q3 q4 q5 q6 q7 hr2 => ⟨_, rfl, ?_⟩)
  have e41 : s2 41 = s 41 := funext fun q => hr2 41 q (by omega)
  refine m_unlikeX (d := 993) (a := a) (bb := bb) (r := r) (by rw [e41]; exact hr) (fun hb => absurd ⟨i, t1, t2, q1, q2, q3, q4, q5, q6, q7⟩ hb) (fun i' t1' t2' s3 lm2 r1 r2 r3 r4 r5 r6 r7 hf => ⟨_, rfl, fun _ => ?_, hk_Inv_mk hc ?_⟩)
  · have e1 := hk_same q3 r3 (by omega) (by omega)
    have e2 := hk_same q5 r5 (by omega) (by omega)
    rw [e41, e1, e2]
  · exact hk_safe hi (hk_CF_p hi.1 (fun p q hp => hr2 p q (by omega))) (hk_Gw_of (hk_FP_G hf)) (by rw [hk_FP_41 hf, e41]; exact hi.2.2.1)
end HKEL
