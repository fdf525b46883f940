/-! ===== the reference's worst storm; worst agrees ===== -/
section HKEQ
variable {d n a bb r : Nat} {v w x y z : Int32} {s : Nat → Nat → Int32} {lm : Nat → Nat → Int64} {i0 i1 b : Nat} {al : List Nat} {k : Option Value → hk_H → Prop} {f g : Nat → Int32}
def hk_Wt (s s3 : Nat → Nat → Int32) : Prop := (∀ p q, p < 40 ∨ 51 ≤ p ∨ p = 43 ∨ p = 44 → s3 p q = s p q) ∧ ∀ q, q < 2448 → s3 42 q = s 41 q
set_option maxHeartbeats 1000000 in
theorem m_worstX {q : Nat} (h : hk_RI (s 41) a bb r) (hq : s 41 7 = nI q) (hq2 : q < 600) (hb : ¬ (hk_rg v 1 100000 ∧ (∃ m, w = nI m ∧ 1 ≤ m ∧ m ≤ 60 ∧ q + m < 600) ∧ hk_rg x 0 1) → k (some (.int (-2))) (s, lm, hk_RH i0 i1 b, al)) (hg : ∀ m s2, hk_rg v 1 100000 → w = nI m → 1 ≤ m → m ≤ 60 → q + m < 600 → hk_rg x 0 1 → (∀ p q, p < 40 ∨ 51 ≤ p ∨ p = 43 ∨ p = 44 → s2 p q = s p q) → s2 41 = s 41 → k (some (.int (hk_woV (s 41) a bb v q m x))) (s2, lm, hk_RH i0 i1 b, al)) : hk_Cl (d + 6) 216 [.ref 40, .int v, .int w, .int x] (s, lm, hk_RH i0 i1 b, al) k := by
  have ha := h.1.1
  have hbb := h.1.2.1
  refine hk_mth hk_m216 rfl rfl (n := 1000) ?_
  refine m_in (fun q1 q2 => ?_) (fun a => ?_)
  rotate_left
  · refine And.intro (fun _ => ?_) (fun hc => absurd (by decide) hc)
    exact hb (fun q => a.elim q.1.1 q.1.2)
  refine And.intro (fun hc => absurd hc (by decide)) (fun _ => ?_)
  refine m_isAhead (fun a => ?_) (fun a1 => ?_)
  · refine And.intro (fun _ => ?_) (fun hc => absurd (by decide) hc)
    refine hb (fun ⟨_, ⟨m, em, m1, m2, m3⟩, _⟩ => a ?_)
    rw [hq]
    exact hk_may2 em m1 m2 m3
  refine And.intro (fun hc => absurd hc (by decide)) (fun _ => ?_)
  refine m_in (fun q3 q4 => ?_) (fun a => ?_)
  rotate_left
  · refine And.intro (fun hc => absurd hc (by decide)) (fun _ => ?_)
    exact hb (fun q => a.elim q.2.2.1 q.2.2.2)
  refine And.intro (fun _ => ?_) (fun hc => absurd (by decide) hc)
  rw [hq] at a1
  obtain ⟨m, em, m1, m2, m3⟩ := hk_may hq2 a1
  have hg2 := fun s2 => hg m s2 ⟨q1, q2⟩ em m1 m2 m3 ⟨q3, q4⟩
  subst em
  have hwS : ∀ i, hk_wS (s 41) a bb v q m i ≤ 360 := fun i => by
    have := hk_sks_le (f := hk_fxs (s 41) v (q + i)) (bb := bb) ha m
    unfold hk_wS
    omega
  have loop : ∀ (g i : Nat) (W M : Int32) (s2 : Nat → Nat → Int32) (l8 l9 : Option Value), i + g = m → ((i = 0 ∧ W = -1 ∧ M = 0) ∨ (0 < i ∧ W = nI (hk_wbs (hk_wS (s 41) a bb v q m) q i).1 ∧ M = nI (hk_wbs (hk_wS (s 41) a bb v q m) q i).2)) → hk_Wt s s2 → s2 41 = s 41 → hk_Rn (d + 5) none hk_c216 (hk_sfx 80 hk_c216) [some (.ref 40), some (.int v), some (.int (nI m)), some (.int x), some (.int (nI q)), some (.int W), some (.int M), some (.int (nI (q + i))), l8, l9] [] (s2, lm, hk_RH i0 i1 b, al) k := by
    intro g
    induction g with
    | zero =>
      intro i W M s2 l8 l9 hi hWM hJ hr
      have e : i = m := by omega
      subst e
      obtain ⟨eW, eM⟩ : W = nI (hk_wbs (hk_wS (s 41) a bb v q i) q i).1 ∧ M = nI (hk_wbs (hk_wS (s 41) a bb v q i) q i).2 := hWM.elim (fun e => by omega) (fun e => e.2)
      have b1 : nI q + nI i ≤ nI (q + i) := by rw [nI_add]; exact Int32.le_refl _
      have key := hg2 s2 hJ.1 hr
      unfold hk_woV at key
      refine hk_hd (n := 1000) (t := 80) rfl ?_
      refine And.intro (fun _ => ?_) (fun hc => absurd b1 hc)
      refine And.intro (fun c1 => ?_) (fun c1 => ?_)
      · have c1 : ¬ x = 0 := c1
        rw [if_neg c1, ← eM] at key
        exact key
      · have c1 : ¬ ¬ x = 0 := c1
        rw [if_pos (Classical.not_not.mp c1), ← eW] at key
        exact key
    | succ g ih =>
      intro i W M s2 l8 l9 hi hWM hJ hr
      have b1 : ¬ nI q + nI m ≤ nI (q + i) := by rw [nI_add]; exact hk_nlt (by omega) (by omega)
      have le := hk_wbs_le (q := q) hwS i
      have lS := hwS i
      have l155 : ∀ (g j : Nat) (W M : Int32) (v8 : Int32) (s3 : Nat → Nat → Int32), j + g = 2448 → W = nI (hk_wbs (hk_wS (s 41) a bb v q m) q (i + 1)).1 → M = nI (hk_wbs (hk_wS (s 41) a bb v q m) q (i + 1)).2 → hk_Wt s s3 → (∀ z, z < j ∨ 2448 ≤ z → s3 41 z = s 41 z) → hk_Rn (d + 5) none hk_c216 (hk_sfx 155 hk_c216) [some (.ref 40), some (.int v), some (.int (nI m)), some (.int x), some (.int (nI q)), some (.int W), some (.int M), some (.int (nI (q + i))), some (.int v8), some (.int (nI j))] [] (s3, lm, hk_RH i0 i1 b, al) k := by
        intro g
        induction g with
        | zero =>
          intro j W M v8 s3 hj eW eM hJ3 hr3
          have e : j = 2448 := by omega
          subst e
          refine hk_hd (n := 1000) (t := 155) rfl ?_
          refine And.intro (fun _ => ?_) (fun hc => absurd (show (2448 : Int32) ≤ nI 2448 by decide) hc)
          exact hk_Rn_cast (by rw [← Nat.add_assoc, ← nI_1 (q + i)]; rfl) (ih (i + 1) W M s3 (some (.int v8)) (some (.int (nI 2448))) (by omega) (Or.inr ⟨by omega, eW, eM⟩) hJ3 (funext fun z => hr3 z (by omega)))
        | succ g ih2 =>
          intro j W M v8 s3 hj eW eM hJ3 hr3
          have b2 : ¬ nI 2448 ≤ nI j := hk_nlt (by omega) (by omega)
          refine hk_hd (n := 1000) (t := 155) rfl ?_
          refine And.intro (fun hc => absurd hc b2) (fun _ => ?_)
          refine hk_ldi (i := nI j) (j := j) (by simp only [hk_lit, pk_mul, nI_add]) (by omega) (by decide) (hJ3.2 j (by omega)) ?_
          refine hk_stn (i := nI j) (j := j) (by simp only [hk_lit, pk_mul, nI_add]) (by omega) (by decide) (fun s4 (hs4 : s4 = hk_u2 s3 41 (j) (s 41 j)) => ?_)
          refine hk_Rn_cast (by rw [← nI_1 j]; rfl) (ih2 (j + 1) W M v8 s4 (by omega) eW eM ⟨fun p z hp => ?_, fun z hz => ?_⟩ (fun z hz => ?_))
          · rw [hs4, hk_u2o (by omega)]; exact hJ3.1 p z hp
          · rw [hs4, hk_u2o (by omega)]; exact hJ3.2 z hz
          · rw [hs4]
            by_cases e : z = j
            · subst e; rw [hk_u2s]
            · rw [hk_u2o (by omega)]; exact hr3 z (by omega)
      have hx : hk_RI (hk_fxs (s 41) v (q + i)) a bb r := hk_RI_fx h
      have hxq : hk_fxs (s 41) v (q + i) 7 = nI q := (hk_ud_o (by omega)).trans hq
      have l110 : ∀ (g j : Nat) (s3 : Nat → Nat → Int32), j + g = m → hk_Wt s s3 → s3 41 = hk_mns (hk_fxs (s 41) v (q + i)) a bb j → hk_Rn (d + 5) none hk_c216 (hk_sfx 110 hk_c216) [some (.ref 40), some (.int v), some (.int (nI m)), some (.int x), some (.int (nI q)), some (.int W), some (.int M), some (.int (nI (q + i))), some (.int (nI (hk_sks (hk_fxs (s 41) v (q + i)) a bb j))), some (.int (nI j))] [] (s3, lm, hk_RH i0 i1 b, al) k := by
        intro g
        induction g with
        | zero =>
          intro j s3 hj hJ3 e3
          have e : j = m := by omega
          subst e
          have out : ∀ z, z < 0 ∨ 2448 ≤ z → s3 41 z = s 41 z := fun z hz => by
            rw [e3, hk_mns_o ha hbb (by omega) (by omega)]
            exact hk_ud_o (by omega)
          have set2 : (hk_wbs (hk_wS (s 41) a bb v q j) q i).2 < hk_wS (s 41) a bb v q j i ∨ i = 0 → hk_wbs (hk_wS (s 41) a bb v q j) q (i + 1) = (q + i, hk_wS (s 41) a bb v q j i) := fun e => by
            rcases e with e | e
            · rw [hk_wbs, if_pos e]
            · subst e
              exact hk_wbs_1
          refine hk_hd (n := 1000) (t := 110) rfl ?_
          refine And.intro (fun _ => ?_) (fun hc => absurd (Int32.le_refl _) hc)
          refine And.intro (fun c1 => ?_) (fun c1 => ?_)
          · have c1 : W = -1 := c1
            have e0 : i = 0 := hWM.elim (fun e => e.1) (fun e => absurd (e.2.1.symm.trans c1) (hk_nm1 (by omega)))
            have es := set2 (Or.inr e0)
            exact l155 2448 0 _ _ _ s3 (by omega) (by rw [es]) (by rw [es]; rfl) hJ3 out
          have c1 : ¬ W = -1 := c1
          obtain ⟨i1, eW, eM⟩ := hWM.elim (fun e => absurd e.2.1 c1) id
          refine And.intro (fun c2 => ?_) (fun c2 => ?_)
          · have c2 : nI (hk_wS (s 41) a bb v q j i) ≤ M := c2
            rw [eM, nI_leI (by omega) (by omega)] at c2
            have es : hk_wbs (hk_wS (s 41) a bb v q j) q (i + 1) = hk_wbs (hk_wS (s 41) a bb v q j) q i := by
              rw [hk_wbs, if_neg (by omega)]
            exact l155 2448 0 W M _ s3 (by omega) (by rw [es]; exact eW) (by rw [es]; exact eM) hJ3 out
          · have c2 : ¬ nI (hk_wS (s 41) a bb v q j i) ≤ M := c2
            rw [eM, nI_leI (by omega) (by omega)] at c2
            have es := set2 (Or.inl (by omega))
            exact l155 2448 0 _ _ _ s3 (by omega) (by rw [es]) (by rw [es]; rfl) hJ3 out
        | succ g ih2 =>
          intro j s3 hj hJ3 e3
          have b2 : ¬ nI m ≤ nI j := hk_nlt (by omega) (by omega)
          obtain ⟨g1, g2⟩ := hk_RI_mns hx hxq j (by omega)
          refine hk_hd (n := 1000) (t := 110) rfl ?_
          refine And.intro (fun hc => absurd hc b2) (fun _ => ?_)
          refine m_goesX (s := s3) (a := a) (bb := bb) (r := r) (by rw [e3]; exact g1) (by rw [e3]; exact g2) (by omega) (fun s4 f4 e4 => ?_)
          rw [e3] at e4 ⊢
          refine hk_Rn_cast ?_ (ih2 (j + 1) s4 (by omega) ⟨fun p z hp => (f4 p z (by omega)).trans (hJ3.1 p z hp), fun z hz => (f4 42 z (by omega)).trans (hJ3.2 z hz)⟩ e4)
          rw [hk_sks, ← nI_add (hk_sks (hk_fxs (s 41) v (q + i)) a bb j), ← nI_1 j]
          rfl
      refine hk_hd (n := 1000) (t := 80) rfl ?_
      refine And.intro (fun hc => absurd hc b1) (fun _ => ?_)
      refine hk_ldi (i := 1848 + nI (q + i)) (j := 1848 + (q + i)) (by simp only [hk_lit, pk_mul, nI_add]) (by omega) (by decide) rfl ?_
      refine hk_stn (i := 1848 + nI (q + i)) (j := 1848 + (q + i)) (by simp only [hk_lit, pk_mul, nI_add]) (by omega) (by decide) (fun s3 (hs3 : s3 = hk_u2 s2 41 (1848 + (q + i)) (s2 41 (1848 + (q + i)) + v)) => ?_)
      refine l110 m 0 s3 (by omega) ⟨fun p z hp => ?_, fun z hz => ?_⟩ ?_
      · rw [hs3, hk_u2o (by omega)]; exact hJ.1 p z hp
      · rw [hs3, hk_u2o (by omega)]; exact hJ.2 z hz
      · rw [hs3, hr]
        unfold hk_mns hk_fxs
        rw [← hr]
        exact hk_u2f
  have l33 : ∀ (g i : Nat) (s3 : Nat → Nat → Int32), i + g = 2448 → (∀ z, z < i → s3 42 z = s 41 z) → (∀ p z, p ≠ 42 → s3 p z = s p z) → hk_Rn (d + 5) none hk_c216 (hk_sfx 33 hk_c216) [some (.ref 40), some (.int v), some (.int (nI m)), some (.int x), some (.int (nI i)), none, none, none, none, none] [] (s3, lm, hk_RH i0 i1 b, al) k := by
    intro g
    induction g with
    | zero =>
      intro i s3 hi hz h3
      have e : i = 2448 := by omega
      subst e
      refine hk_hd (n := 1000) (t := 33) rfl ?_
      refine And.intro (fun _ => ?_) (fun hc => absurd (show (2448 : Int32) ≤ nI 2448 by decide) hc)
      refine hk_ldi (i := nI 7) (j := 7) (by simp only [hk_lit, pk_mul, nI_add]) (by omega) (by decide) ((h3 41 7 (by omega)).trans hq) ?_
      exact loop m 0 (-1) 0 s3 none none (by omega) (Or.inl ⟨rfl, rfl, rfl⟩) ⟨fun p q hp => h3 p q (by omega), hz⟩ (funext fun z => h3 _ _ (by omega))
    | succ g ih =>
      intro i s3 hi hz h3
      have b1 : ¬ nI 2448 ≤ nI i := hk_nlt (by omega) (by omega)
      refine hk_hd (n := 1000) (t := 33) rfl ?_
      refine And.intro (fun hc => absurd hc b1) (fun _ => ?_)
      refine hk_ldi (i := nI i) (j := i) (by simp only [hk_lit, pk_mul, nI_add]) (by omega) (by decide) (h3 41 i (by omega)) ?_
      refine hk_stn (i := nI i) (j := i) (by simp only [hk_lit, pk_mul, nI_add]) (by omega) (by decide) (fun s4 (hs4 : s4 = hk_u2 s3 42 (i) (s 41 i)) => ?_)
      refine hk_Rn_cast (by rw [← nI_1 i]; rfl) (ih (i + 1) s4 (by omega) (fun z hz2 => ?_) (fun p z hp => ?_))
      · rw [hs4]
        by_cases e : z = i
        · subst e; rw [hk_u2s]
        · rw [hk_u2o (by omega)]; exact hz z (by omega)
      · rw [hs4, hk_u2o (by omega)]; exact h3 p z hp
  exact l33 2448 0 s (by omega) (fun z hz => absurd hz (Nat.not_lt_zero z)) (fun _ _ _ => rfl)
theorem q_worstE : hk_SI 119 216 [.int v, .int w, .int x] True := by
  rintro h ⟨s, lm, i0, i1, b, al, rfl, hc, hi⟩
  obtain ⟨a, bb, r, hr⟩ := hi.2.2.1
  obtain ⟨q, hq2, hq⟩ := hr.2.2.2.2.2.2.1
  refine c_worstX (d := 993) hi.1 hi.2.1 hr hq hq2 (fun hb => ⟨_, rfl, m_worstX (d := 994) hr hq hq2 (fun _ => ⟨_, rfl, fun _ => rfl, hk_Inv_mk hc hi⟩) (fun m s2 q1 q2 q3 q4 q5 q6 _ _ => absurd ⟨q1, ⟨m, q2, q3, q4, q5⟩, q6⟩ hb)⟩) (fun m s2 q1 q2 q3 q4 q5 q6 f2 => ⟨_, rfl, ?_⟩)
  have e41 : s2 41 = s 41 := funext fun q => f2 41 q (by omega)
  refine m_worstX (d := 994) (a := a) (bb := bb) (r := r) (by rw [e41]; exact hr) (by rw [e41]; exact hq) hq2 (fun hb => absurd ⟨q1, ⟨m, q2, q3, q4, q5⟩, q6⟩ hb) (fun m2 s3 r1 r2 r3 r4 r5 r6 f3 e3 => ⟨_, rfl, fun _ => ?_, hk_Inv_mk hc ?_⟩)
  · have e1 := hk_same q2 r2 (by omega) (by omega)
    rw [e41, e1]
  · exact hk_safe hi (hk_CF_p hi.1 (fun p q hp => f2 p q (by omega))) ⟨f3, fun q _ => by rw [e3]⟩ (by rw [e3, e41]; exact hi.2.2.1)
end HKEQ
