/-! ===== the reference's plan: the row of bests ===== -/
section HKD3
variable {d n a bb r : Nat} {v w x z : Int32} {s : Nat → Nat → Int32} {lm : Nat → Nat → Int64} {i0 i1 b : Nat} {al : List Nat} {k : Option Value → hk_H → Prop} {hp : hk_H}
theorem hk_Hu_fr {f g : Nat → Int32} {fl gn cn : Nat → Nat} {N D I : Nat} (h : hk_Hu f fl gn cn N D I) (e : ∀ q, g q = f q) : hk_Hu g fl gn cn N D I := by
  rw [show g = f from funext e]
  exact h
/-- one state of a year: its best -/
def hk_gF (s s3 : Nat → Nat → Int32) : Prop := ∀ p q, p ≠ 49 → p ≠ 50 → s3 p q = s p q
set_option maxHeartbeats 1000000 in
theorem m_best_x {fl gn cn : Nat → Nat} {N D I y X : Nat} (H : hk_Hu (s 41) fl gn cn N D I) (hy : y ≤ 9) (hX : X < 14641) (hB : ∀ X2, hk_Gd cn N I (y + 1) X2 → ∃ v, v ≤ 256 * (9 - y) ∧ s 49 ((y + 1) * 14641 + X2) = nI v) {l4 l5 l6 l7 l8 l9 : Option Value} (h1 : ∀ (s5 : Nat → Nat → Int32) (l4 l5 l6 l7 l8 l9 : Option Value), hk_gF s s5 → (∀ q, q ≠ y * 14641 + X → s5 49 q = s 49 q) → (hk_Gd cn N I y X → hk_Bq (s5 49) fl gn cn N D I y X) → hk_Rn (d + 4) none hk_c196 (hk_sfx 43 hk_c196) [some (.ref 40), some (.int (nI (2 ^ N))), some (.int (nI y)), some (.int (nI (X + 1))), l4, l5, l6, l7, l8, l9] [] (s5, lm, hk_RH i0 i1 b, al) k) : hk_Rn (d + 4) none hk_c196 (hk_sfx 43 hk_c196) [some (.ref 40), some (.int (nI (2 ^ N))), some (.int (nI y)), some (.int (nI X)), l4, l5, l6, l7, l8, l9] [] (s, lm, hk_RH i0 i1 b, al) k := by
  have hN := H.1
  have h2N : 2 ^ N ≤ 16 := Nat.pow_le_pow_right (n := 2) (by omega) hN
  have h2N1 : 1 ≤ 2 ^ N := Nat.one_le_two_pow
  have b1 : ¬ nI 14641 ≤ nI X := hk_nlt (by omega) (by omega)
  refine hk_hd (n := 1000) (t := 43) rfl ?_
  refine And.intro (fun hc => absurd hc b1) (fun _ => ?_)
  refine m_findD (u := X) (by omega) (fun s4 h4 hd => ?_)
  have H4 : hk_Hu (s4 41) fl gn cn N D I := hk_Hu_fr H (fun q => h4 41 q (by omega))
  have e3 : s4 41 3 = nI N := H4.2.2.2.1
  have f49 : ∀ q, s4 49 q = s 49 q := fun q => h4 49 q (by omega)
  have fcl : ∀ h, hk_fc fl gn X y h ≤ h := fun h => hk_fc_le h
  -- the store
  have st : ∀ (q : Nat) (M : Int32) (l4 l7 l8 l9 : Option Value), (hk_Gd cn N I y X → ∃ set m', set < 2 ^ N ∧ hk_dr fl gn cn N D I X y set ∧ s 49 ((y + 1) * 14641 + hk_dt X set N) - nI (hk_pc set) = M ∧ M = nI m' ∧ m' ≤ 256 * (9 - y)) → hk_wp (d + 4) none hk_c196 k (q + 60) (hk_sfx 229 hk_c196) [some (.ref 40), some (.int (nI (2 ^ N))), some (.int (nI y)), some (.int (nI X)), l4, some (.int (nI (hk_fc fl gn X y N))), some (.int M), l7, l8, l9] [] (s4, lm, hk_RH i0 i1 b, al) := by
    intro q M l4 l7 l8 l9 hg
    refine hk_stn (i := nI y * 14641 + nI X) (j := y * 14641 + X) hk_yx (by omega) (by decide) (fun s5 hs5 => ?_)
    have o5 : ∀ q, q ≠ y * 14641 + X → s5 49 q = s 49 q := fun q hq => by rw [hs5, hk_u2o (fun e => hq e.2)]; exact f49 q
    refine hk_Rn_cast (by rw [← nI_1 X]; rfl) (h1 s5 l4 (some (.int (nI (hk_fc fl gn X y N)))) (some (.int M)) l7 l8 l9 (fun p q p1 p2 => by rw [hs5, hk_u2o (fun e => p1 e.1)]; exact h4 p q p2) o5 (fun hG => ?_))
    obtain ⟨set, m', q1, q2, q3, q4, q5⟩ := hg hG
    have hnx := hk_Gd_next hN hy hG q2
    have eM : M + 64 * nI (hk_fc fl gn X y N) = nI (m' + 64 * hk_fc fl gn X y N) := by
      rw [q4, show (64 : Int32) * nI (hk_fc fl gn X y N) = nI (64 * hk_fc fl gn X y N) from pk_mul 64 _, nI_add]
    have hs : s5 49 (y * 14641 + X) = nI (m' + 64 * hk_fc fl gn X y N) := by rw [hs5, hk_u2s, ← eM]
    refine ⟨m' + 64 * hk_fc fl gn X y N, by have := fcl N; omega, hs, fun _ => ⟨set, q1, q2, ?_⟩⟩
    rw [o5 _ (by have := hnx.1; omega), q3, hs, eM]
  -- the sets
  have l152 : ∀ (g j : Nat) (M : Int32) (ma : Int32) (l8 l9 : Option Value), j + g = 2 ^ N → (ma = 0 → ¬ hk_Gd cn N I y X) → (¬ ma = 0 → ∀ h, h < 4 → hk_dg X h ≤ 9) → (hk_Gd cn N I y X → (j = 0 ∧ M = -100000) ∨ (0 < j ∧ ∃ set m', set < 2 ^ N ∧ hk_dr fl gn cn N D I X y set ∧ s 49 ((y + 1) * 14641 + hk_dt X set N) - nI (hk_pc set) = M ∧ M = nI m' ∧ m' ≤ 256 * (9 - y))) → hk_Rn (d + 4) none hk_c196 (hk_sfx 152 hk_c196) [some (.ref 40), some (.int (nI (2 ^ N))), some (.int (nI y)), some (.int (nI X)), some (.int ma), some (.int (nI (hk_fc fl gn X y N))), some (.int M), some (.int (nI j)), l8, l9] [] (s4, lm, hk_RH i0 i1 b, al) k := by
    intro g
    induction g with
    | zero =>
      intro j M ma l8 l9 hj hm0 hm9 hI
      have ej : j = 2 ^ N := by omega
      have a1 : nI (2 ^ N) ≤ nI j := by rw [ej]; exact Int32.le_refl _
      refine hk_hd (n := 1000) (t := 152) rfl ?_
      refine And.intro (fun _ => ?_) (fun hc => absurd a1 hc)
      exact st _ M _ _ l8 l9 (fun hG => (hI hG).elim (fun e => by omega) (fun e => e.2))
    | succ g ih =>
      intro j M ma l8 l9 hj hm0 hm9 hI
      have a1 : ¬ nI (2 ^ N) ≤ nI j := hk_nlt (by omega) (by omega)
      refine hk_hd (n := 1000) (t := 152) rfl ?_
      refine And.intro (fun hc => absurd hc a1) (fun _ => ?_)
      refine And.intro (fun cm => ?_) (fun cm => ?_)
      · have cm : ma = 0 := cm
        exact st _ M _ _ l8 l9 (fun hG => absurd hG (hm0 cm))
      have cm : ¬ ma = 0 := cm
      have h9 := hm9 cm
      obtain ⟨tb, _⟩ := hk_dg_dt (y := y) (set := j) hN hX h9
      have nx : ∀ (M2 : Int32) (v8 v9 : Int32), (hk_Gd cn N I y X → ∃ set m', set < 2 ^ N ∧ hk_dr fl gn cn N D I X y set ∧ s 49 ((y + 1) * 14641 + hk_dt X set N) - nI (hk_pc set) = M2 ∧ M2 = nI m' ∧ m' ≤ 256 * (9 - y)) → hk_Rn (d + 4) none hk_c196 (hk_sfx 152 hk_c196) [some (.ref 40), some (.int (nI (2 ^ N))), some (.int (nI y)), some (.int (nI X)), some (.int ma), some (.int (nI (hk_fc fl gn X y N))), some (.int M2), some (.int (nI j + 1)), some (.int v8), some (.int v9)] [] (s4, lm, hk_RH i0 i1 b, al) k := fun M2 v8 v9 hh => hk_Rn_cast (by rw [nI_1]) (ih (j + 1) M2 ma _ _ (by omega) hm0 hm9 (fun hG => Or.inr ⟨by omega, hh hG⟩))
      have hpl := hk_pc_le j j (Nat.le_refl _)
      refine m_docksThen (d := d + 1) H4 hd hX (by omega) (by omega) (fun hr => ?_) (fun hr => ?_)
      · have b2 : ¬ nI (hk_dt X j N) = -1 := fun e => nI_pos (n := hk_dt X j N) (by omega) (by rw [e]; decide)
        have b3 : (nI y + 1) * 14641 + nI (hk_dt X j N) = nI ((y + 1) * 14641 + hk_dt X j N) := by rw [nI_1, hk_yx]
        refine And.intro (fun _ => ?_) (fun hc => absurd b2 hc)
        refine hk_ldi (i := (nI y + 1) * 14641 + nI (hk_dt X j N)) (j := (y + 1) * 14641 + hk_dt X j N) b3 (by omega) (by decide) (f49 _) ?_
        refine m_popE (by omega) ?_
        have val : hk_Gd cn N I y X → ∃ v, v ≤ 256 * (9 - y) ∧ s 49 ((y + 1) * 14641 + hk_dt X j N) = nI v := fun hG => hB _ (hk_Gd_next hN hy hG hr)
        have hpD := hr.1
        have hD := H.2.1
        refine And.intro (fun c2 => ?_) (fun c2 => ?_)
        · have c2 : s 49 ((y + 1) * 14641 + hk_dt X j N) - nI (hk_pc j) ≤ M := c2
          refine nx M _ _ (fun hG => ?_)
          rcases hI hG with ⟨ej, eM⟩ | ⟨_, hw⟩
          · exfalso
            obtain ⟨v, hv, ev⟩ := val hG
            rw [eM, ev, Int32.le_iff_toInt_le, pk_sub_toInt (by omega) (by omega)] at c2
            have : ((-100000 : Int32)).toInt = -100000 := by decide
            omega
          · exact hw
        · have c2 : ¬ s 49 ((y + 1) * 14641 + hk_dt X j N) - nI (hk_pc j) ≤ M := c2
          refine nx _ _ _ (fun hG => ?_)
          obtain ⟨v, hv, ev⟩ := val hG
          have hvp : hk_pc j ≤ v := by
            rcases hI hG with ⟨ej, eM⟩ | ⟨_, set, m', _, _, _, eM, _⟩
            · subst ej
              rw [hk_pc, dif_pos rfl]
              omega
            · rw [eM, ev, Int32.le_iff_toInt_le, pk_sub_toInt (by omega) (by omega), nI_toInt (by omega)] at c2
              omega
          exact ⟨j, v - hk_pc j, by omega, hr, rfl, by rw [ev]; exact pk_sub hvp, by omega⟩
      · refine And.intro (fun hc => absurd hc (by decide)) (fun _ => ?_)
        refine And.intro (fun c2 => ?_) (fun c2 => ?_)
        · refine nx M _ _ (fun hG => ?_)
          rcases hI hG with ⟨ej, eM⟩ | ⟨_, hw⟩
          · subst ej
            exact absurd (hk_dr0 hG) hr
          · exact hw
        · have c2 : ¬ (-100000 : Int32) ≤ M := c2
          refine nx _ _ _ (fun hG => ?_)
          rcases hI hG with ⟨ej, eM⟩ | ⟨_, set, m', _, _, _, eM, hm'⟩
          · subst ej
            exact absurd (hk_dr0 hG) hr
          · exfalso
            rw [eM, Int32.le_iff_toInt_le, nI_toInt (by omega)] at c2
            have : ((-100000 : Int32)).toInt = -100000 := by decide
            omega
  -- the places
  have l64 : ∀ (g h : Nat) (ma : Int32), h + g = 4 → (ma = 0 ∨ ma = 1) → (ma = 1 ↔ ∀ h', h' < h → hk_dg X h' ≤ hk_cap N y h') → hk_Rn (d + 4) none hk_c196 (hk_sfx 64 hk_c196) [some (.ref 40), some (.int (nI (2 ^ N))), some (.int (nI y)), some (.int (nI X)), some (.int ma), some (.int (nI (hk_fc fl gn X y (min h N)))), some (.int (nI h)), l7, l8, l9] [] (s4, lm, hk_RH i0 i1 b, al) k := by
    intro g
    induction g with
    | zero =>
      intro h ma hh hma hI
      have eh : h = 4 := by omega
      subst eh
      have e1 : min 4 N = N := by omega
      rw [e1]
      refine hk_hd (n := 1000) (t := 64) rfl ?_
      refine And.intro (fun _ => ?_) (fun hc => absurd (show (4 : Int32) ≤ nI 4 by decide) hc)
      refine l152 (2 ^ N) 0 (-100000) ma l8 l9 (by omega) (fun e hG => ?_) (fun e h hh => ?_) (fun _ => Or.inl ⟨rfl, rfl⟩)
      · have := hI.mpr (fun h' hh' => hG.2.1 h' hh')
        rw [e] at this
        exact absurd this (by decide)
      · have := hI.mp (hma.elim (fun q => absurd q e) id) h hh
        unfold hk_cap at this
        split at this <;> omega
    | succ g ih =>
      intro h ma hh hma hI
      have b2 : ¬ nI 4 ≤ nI h := hk_nlt (by omega) (by omega)
      have hdg : hk_dg X h < 11 := Nat.mod_lt _ (by omega)
      have nx : ∀ (ma2 w : Int32), (ma2 = 0 ∨ ma2 = 1) → (ma2 = 1 ↔ ma = 1 ∧ hk_dg X h ≤ hk_cap N y h) → w = nI (hk_fc fl gn X y (min (h + 1) N)) → hk_Rn (d + 4) none hk_c196 (hk_sfx 64 hk_c196) [some (.ref 40), some (.int (nI (2 ^ N))), some (.int (nI y)), some (.int (nI X)), some (.int ma2), some (.int w), some (.int (nI h + 1)), l7, l8, l9] [] (s4, lm, hk_RH i0 i1 b, al) k := fun ma2 w h0 hi hw => hk_Rn_cast (by rw [nI_1, hw]) (ih (h + 1) ma2 (by omega) h0 ⟨fun e h' hh' => by
        by_cases e2 : h' = h
        · subst e2; exact (hi.mp e).2
        · exact hI.mp (hi.mp e).1 h' (by omega), fun hall => hi.mpr ⟨hI.mpr (fun h' hh' => hall h' (by omega)), hall h (by omega)⟩⟩)
      by_cases hN2 : h < N
      · have b3 : ¬ nI N ≤ nI h := hk_nlt hN2 (by omega)
        have ec : hk_cap N y h = y := if_pos hN2
        have em : min h N = h := by omega
        have em1 : min (h + 1) N = h + 1 := by omega
        have w1 : y < fl h + gn h * hk_dg X h → nI (hk_fc fl gn X y (min h N)) + 1 = nI (hk_fc fl gn X y (min (h + 1) N)) := fun hf => by rw [nI_1, em, em1, hk_fc, if_pos hf]
        have w0 : ¬ y < fl h + gn h * hk_dg X h → nI (hk_fc fl gn X y (min h N)) + 0 = nI (hk_fc fl gn X y (min (h + 1) N)) := fun hf => by rw [hk_zI, nI_add, em, em1, hk_fc, if_neg hf]
        refine hk_hd (n := 1000) (t := 64) rfl ?_
        refine And.intro (fun hc => absurd hc b2) (fun _ => ?_)
        refine And.intro (fun c1 => ?_) (fun c1 => ?_)
        · have c1 : ma = 0 := c1
          refine hk_ldi (i := nI 3) (j := 3) (by simp only [hk_lit, pk_mul, nI_add]) (by omega) (by decide) e3 ?_
          refine And.intro (fun hc => absurd hc b3) (fun _ => ?_)
          refine m_floatsE H4 hd hN2 (by omega) (fun hf => ?_) (fun hf => ?_)
          · refine And.intro (fun hc => absurd hc (by decide)) (fun _ => ?_)
            exact nx 0 _ (Or.inl rfl) ⟨fun q => absurd q (by decide), fun q => absurd (c1.symm.trans q.1) (by decide)⟩ (w1 hf)
          · refine And.intro (fun _ => ?_) (fun hc => absurd (by decide) hc)
            exact nx 0 _ (Or.inl rfl) ⟨fun q => absurd q (by decide), fun q => absurd (c1.symm.trans q.1) (by decide)⟩ (w0 hf)
        · have c1 : ma = 1 := hma.elim (fun q => absurd q c1) id
          refine hk_ldi (i := nI h) (j := h) (by simp only [hk_lit, pk_mul, nI_add]) (by omega) (by decide) (hd h (by omega)) ?_
          refine hk_ldi (i := nI 3) (j := 3) (by simp only [hk_lit, pk_mul, nI_add]) (by omega) (by decide) e3 ?_
          refine And.intro (fun hc => absurd hc b3) (fun _ => ?_)
          refine And.intro (fun c2 => ?_) (fun c2 => ?_)
          · have c2 : nI y < nI (hk_dg X h) := c2
            rw [nI_ltI (by omega) (by omega)] at c2
            refine hk_ldi (i := nI 3) (j := 3) (by simp only [hk_lit, pk_mul, nI_add]) (by omega) (by decide) e3 ?_
            refine And.intro (fun hc => absurd hc b3) (fun _ => ?_)
            refine m_floatsE H4 hd hN2 (by omega) (fun hf => ?_) (fun hf => ?_)
            · refine And.intro (fun hc => absurd hc (by decide)) (fun _ => ?_)
              exact nx 0 _ (Or.inl rfl) ⟨fun q => absurd q (by decide), fun q => by have := q.2; omega⟩ (w1 hf)
            · refine And.intro (fun _ => ?_) (fun hc => absurd (by decide) hc)
              exact nx 0 _ (Or.inl rfl) ⟨fun q => absurd q (by decide), fun q => by have := q.2; omega⟩ (w0 hf)
          · have c2 : ¬ nI y < nI (hk_dg X h) := c2
            rw [nI_ltI (by omega) (by omega)] at c2
            refine hk_ldi (i := nI 3) (j := 3) (by simp only [hk_lit, pk_mul, nI_add]) (by omega) (by decide) e3 ?_
            refine And.intro (fun hc => absurd hc b3) (fun _ => ?_)
            refine m_floatsE H4 hd hN2 (by omega) (fun hf => ?_) (fun hf => ?_)
            · refine And.intro (fun hc => absurd hc (by decide)) (fun _ => ?_)
              exact nx 1 _ (Or.inr rfl) ⟨fun _ => ⟨c1, by omega⟩, fun _ => rfl⟩ (w1 hf)
            · refine And.intro (fun _ => ?_) (fun hc => absurd (by decide) hc)
              exact nx 1 _ (Or.inr rfl) ⟨fun _ => ⟨c1, by omega⟩, fun _ => rfl⟩ (w0 hf)
      · have b3 : nI N ≤ nI h := nI_le (by omega) (by omega)
        have ec : hk_cap N y h = 0 := if_neg hN2
        have em : min h N = N := by omega
        have em1 : min (h + 1) N = N := by omega
        have w0 : nI (hk_fc fl gn X y (min h N)) + 0 = nI (hk_fc fl gn X y (min (h + 1) N)) := by rw [hk_zI, nI_add, em, em1, Nat.add_zero]
        refine hk_hd (n := 1000) (t := 64) rfl ?_
        refine And.intro (fun hc => absurd hc b2) (fun _ => ?_)
        refine And.intro (fun c1 => ?_) (fun c1 => ?_)
        · have c1 : ma = 0 := c1
          refine hk_ldi (i := nI 3) (j := 3) (by simp only [hk_lit, pk_mul, nI_add]) (by omega) (by decide) e3 ?_
          refine And.intro (fun _ => ?_) (fun hc => absurd b3 hc)
          exact nx 0 _ (Or.inl rfl) ⟨fun q => absurd q (by decide), fun q => absurd (c1.symm.trans q.1) (by decide)⟩ w0
        · have c1 : ma = 1 := hma.elim (fun q => absurd q c1) id
          refine hk_ldi (i := nI h) (j := h) (by simp only [hk_lit, pk_mul, nI_add]) (by omega) (by decide) (hd h (by omega)) ?_
          refine hk_ldi (i := nI 3) (j := 3) (by simp only [hk_lit, pk_mul, nI_add]) (by omega) (by decide) e3 ?_
          refine And.intro (fun _ => ?_) (fun hc => absurd b3 hc)
          refine And.intro (fun c2 => ?_) (fun c2 => ?_)
          · have c2 : nI 0 < nI (hk_dg X h) := c2
            rw [nI_ltI (by omega) (by omega)] at c2
            refine hk_ldi (i := nI 3) (j := 3) (by simp only [hk_lit, pk_mul, nI_add]) (by omega) (by decide) e3 ?_
            refine And.intro (fun _ => ?_) (fun hc => absurd b3 hc)
            exact nx 0 _ (Or.inl rfl) ⟨fun q => absurd q (by decide), fun q => by have := q.2; omega⟩ w0
          · have c2 : ¬ nI 0 < nI (hk_dg X h) := c2
            rw [nI_ltI (by omega) (by omega)] at c2
            refine hk_ldi (i := nI 3) (j := 3) (by simp only [hk_lit, pk_mul, nI_add]) (by omega) (by decide) e3 ?_
            refine And.intro (fun _ => ?_) (fun hc => absurd b3 hc)
            exact nx 1 _ (Or.inr rfl) ⟨fun _ => ⟨c1, by omega⟩, fun _ => rfl⟩ w0
  exact l64 4 0 1 (by omega) (Or.inr rfl) ⟨fun _ h' hh => absurd hh (Nat.not_lt_zero _), fun _ => rfl⟩
end HKD3
