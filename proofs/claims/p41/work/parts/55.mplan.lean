/-! ===== the reference's plan ends ===== -/
theorem hk_dg00 (h : Nat) : hk_dg 0 h = 0 := by
  unfold hk_dg
  rw [Nat.zero_div]
theorem hk_dq00 {cn : Nat → Nat} : ∀ h, hk_dq cn 0 0 h = 0
  | 0 => rfl
  | h + 1 => by rw [hk_dq, hk_dq00 h, hk_dg00, if_neg (hk_bit0 h), Nat.zero_mul]
section HKD4
variable {d n a bb r : Nat} {v w x z : Int32} {s : Nat → Nat → Int32} {lm : Nat → Nat → Int64} {i0 i1 b : Nat} {al : List Nat} {k : Option Value → hk_H → Prop} {hp : hk_H}
theorem hk_Bq_of {f g : Nat → Int32} {fl gn cn : Nat → Nat} {N D I y X : Nat} (hN : N ≤ 4) (hy : y ≤ 10) (hG : hk_Gd cn N I y X) (h : hk_Bq f fl gn cn N D I y X) (e : ∀ q, y * 14641 ≤ q → g q = f q) : hk_Bq g fl gn cn N D I y X := by
  obtain ⟨v, h1, h2, h3⟩ := h
  refine ⟨v, h1, by rw [e _ (by omega)]; exact h2, fun h10 => ?_⟩
  obtain ⟨set, q1, q2, q3⟩ := h3 h10
  exact ⟨set, q1, q2, by rw [e _ (by omega), e _ (by omega)]; exact q3⟩
set_option maxHeartbeats 1000000 in
theorem m_findBest {fl gn cn : Nat → Nat} {N D I : Nat} (H : hk_Hu (s 41) fl gn cn N D I) (h1 : ∀ s2, hk_gF s s2 → (∀ y, y ≤ 10 → ∀ X, hk_Gd cn N I y X → hk_Bq (s2 49) fl gn cn N D I y X) → k none (s2, lm, hk_RH i0 i1 b, al)) : hk_Cl (d + 5) 196 [.ref 40] (s, lm, hk_RH i0 i1 b, al) k := by
  have hN := H.1
  have eb : (1 : Int32) <<< (nI N &&& 31) = nI (2 ^ N) := by
    match N, hN with
    | 0, _ => decide
    | 1, _ => decide
    | 2, _ => decide
    | 3, _ => decide
    | 4, _ => decide
  have l37 : ∀ (g : Nat) (s3 : Nat → Nat → Int32) (l3 l4 l5 l6 l7 l8 l9 : Option Value), g ≤ 10 → hk_gF s s3 → (∀ y, g ≤ y → y ≤ 10 → ∀ X, hk_Gd cn N I y X → hk_Bq (s3 49) fl gn cn N D I y X) → hk_Rn (d + 4) none hk_c196 (hk_sfx 37 hk_c196) [some (.ref 40), some (.int (nI (2 ^ N))), some (.int (hk_dn g)), l3, l4, l5, l6, l7, l8, l9] [] (s3, lm, hk_RH i0 i1 b, al) k := by
    intro g
    induction g with
    | zero =>
      intro s3 l3 l4 l5 l6 l7 l8 l9 _ f3 hb
      refine hk_hd (n := 1000) (t := 37) rfl ?_
      refine And.intro (fun _ => ?_) (fun hc => absurd (show (-1 : Int32) < 0 by decide) hc)
      exact h1 s3 f3 (fun y hy => hb y (Nat.zero_le _) hy)
    | succ g ih =>
      intro s3 l3 l4 l5 l6 l7 l8 l9 hg f3 hb
      have l43 : ∀ (q u : Nat) (s3 : Nat → Nat → Int32) (l4 l5 l6 l7 l8 l9 : Option Value), u + q = 14641 → hk_gF s s3 → (∀ y, g + 1 ≤ y → y ≤ 10 → ∀ X, hk_Gd cn N I y X → hk_Bq (s3 49) fl gn cn N D I y X) → (∀ X, X < u → hk_Gd cn N I g X → hk_Bq (s3 49) fl gn cn N D I g X) → hk_Rn (d + 4) none hk_c196 (hk_sfx 43 hk_c196) [some (.ref 40), some (.int (nI (2 ^ N))), some (.int (nI g)), some (.int (nI u)), l4, l5, l6, l7, l8, l9] [] (s3, lm, hk_RH i0 i1 b, al) k := by
        intro q
        induction q with
        | zero =>
          intro u s3 l4 l5 l6 l7 l8 l9 hu f3 hb hx
          have e : u = 14641 := by omega
          subst e
          refine hk_hd (n := 1000) (t := 43) rfl ?_
          refine And.intro (fun _ => ?_) (fun hc => absurd (show (14641 : Int32) ≤ nI 14641 by decide) hc)
          exact hk_Rn_cast (by rw [← hk_dn_s]; rfl) (ih s3 (some (.int (nI 14641))) l4 l5 l6 l7 l8 l9 (by omega) f3 (fun y a1 a2 X hG => by
            by_cases e : y = g
            · subst e; exact hx X hG.1 hG
            · exact hb y (by omega) a2 X hG))
        | succ q ih2 =>
          intro u s3 l4 l5 l6 l7 l8 l9 hu f3 hb hx
          have H3 : hk_Hu (s3 41) fl gn cn N D I := hk_Hu_fr H (fun q => f3 41 q (by omega) (by omega))
          refine m_best_x H3 (by omega) (by omega) (fun X2 hG => ?_) (fun s5 l4 l5 l6 l7 l8 l9 f5 o5 hB5 => ?_)
          · obtain ⟨v, q1, q2, _⟩ := hb (g + 1) (by omega) (by omega) X2 hG
            exact ⟨v, by omega, q2⟩
          · refine ih2 (u + 1) s5 l4 l5 l6 l7 l8 l9 (by omega) (fun p q p1 p2 => (f5 p q p1 p2).trans (f3 p q p1 p2)) (fun y a1 a2 X hG => ?_) (fun X hX hG => ?_)
            · exact hk_Bq_of hN a2 hG (hb y a1 a2 X hG) (fun q hq => o5 q (by omega))
            · by_cases e : X = u
              · subst e; exact hB5 hG
              · have hw := hx X (by omega) hG
                obtain ⟨v, q1, q2, q3⟩ := hw
                refine ⟨v, q1, by rw [o5 _ (by omega)]; exact q2, fun h10 => ?_⟩
                obtain ⟨set, r1, r2, r3⟩ := q3 h10
                exact ⟨set, r1, r2, by rw [o5 _ (by omega), o5 _ (by omega)]; exact r3⟩
      have b1 : ¬ nI g < 0 := nI_pos (by omega)
      refine hk_hd (n := 1000) (t := 37) rfl ?_
      refine And.intro (fun hc => absurd hc b1) (fun _ => ?_)
      exact l43 14641 0 s3 l4 l5 l6 l7 l8 l9 (by omega) f3 (fun y a1 a2 => hb y a1 a2) (fun X hX => absurd hX (Nat.not_lt_zero X))
  have l11 : ∀ (q u : Nat) (s3 : Nat → Nat → Int32), u + q = 14641 → hk_gF s s3 → (∀ X, X < u → s3 49 (146410 + X) = 0) → hk_Rn (d + 4) none hk_c196 (hk_sfx 11 hk_c196) [some (.ref 40), some (.int (nI (2 ^ N))), some (.int (nI u)), none, none, none, none, none, none, none] [] (s3, lm, hk_RH i0 i1 b, al) k := by
    intro q
    induction q with
    | zero =>
      intro u s3 hu f3 hx
      have e : u = 14641 := by omega
      subst e
      refine hk_hd (n := 1000) (t := 11) rfl ?_
      refine And.intro (fun _ => ?_) (fun hc => absurd (show (14641 : Int32) ≤ nI 14641 by decide) hc)
      exact l37 10 s3 none none none none none none none (by omega) f3 (fun y a1 a2 X hG => by
        have e : y = 10 := by omega
        subst e
        exact ⟨0, by omega, hx X hG.1, fun q => by omega⟩)
    | succ q ih =>
      intro u s3 hu f3 hx
      have b1 : ¬ nI 14641 ≤ nI u := hk_nlt (by omega) (by omega)
      refine hk_hd (n := 1000) (t := 11) rfl ?_
      refine And.intro (fun hc => absurd hc b1) (fun _ => ?_)
      refine hk_stn (i := 146410 + nI u) (j := 146410 + u) (by simp only [hk_lit, pk_mul, nI_add]) (by omega) (by decide) (fun s4 (hs4 : s4 = hk_u2 s3 49 (146410 + u) 0) => ?_)
      refine hk_Rn_cast (by rw [← nI_1 u]; rfl) (ih (u + 1) s4 (by omega) (fun p q p1 p2 => by rw [hs4, hk_u2o (fun e => p1 e.1)]; exact f3 p q p1 p2) (fun X hX => ?_))
      rw [hs4]
      by_cases e : X = u
      · subst e; rw [hk_u2s]
      · rw [hk_u2o (by omega)]; exact hx X (by omega)
  refine hk_mth hk_m196 rfl rfl (n := 1000) ?_
  refine hk_ldi (i := nI 3) (j := 3) (by simp only [hk_lit, pk_mul, nI_add]) (by omega) (by decide) H.2.2.2.1 ?_
  exact hk_Rn_cast (by rw [← eb]; rfl) (l11 14641 0 s (by omega) (fun _ _ _ _ => rfl) (fun X hX => absurd hX (Nat.not_lt_zero X)))
theorem m_letGo {fl gn cn : Nat → Nat} {N D I X : Nat} (H : hk_Hu (s 41) fl gn cn N D I) (hd : ∀ q, q < 4 → s 50 q = nI (hk_dg X q)) (h1 : ∀ u, k (some (.int u)) (s, lm, hk_RH i0 i1 b, al)) : hk_Cl (d + 2) 204 [.ref 40] (s, lm, hk_RH i0 i1 b, al) k := by
  have hN := H.1
  have e3 := H.2.2.2.1
  have loop : ∀ (g h : Nat) (e : Int32), h + g = N → hk_Rn (d + 1) none hk_c204 (hk_sfx 4 hk_c204) [some (.ref 40), some (.int e), some (.int (nI h))] [] (s, lm, hk_RH i0 i1 b, al) k := by
    intro g
    induction g with
    | zero =>
      intro h e hh
      have eh : h = N := by omega
      subst eh
      refine hk_hd (n := 1000) (t := 4) rfl ?_
      refine hk_ldi (i := nI 3) (j := 3) (by simp only [hk_lit, pk_mul, nI_add]) (by omega) (by decide) e3 ?_
      refine And.intro (fun _ => ?_) (fun hc => absurd (Int32.le_refl _) hc)
      exact h1 _
    | succ g ih =>
      intro h e hh
      have a1 : ¬ nI N ≤ nI h := hk_nlt (by omega) (by omega)
      refine hk_hd (n := 1000) (t := 4) rfl ?_
      refine hk_ldi (i := nI 3) (j := 3) (by simp only [hk_lit, pk_mul, nI_add]) (by omega) (by decide) e3 ?_
      refine And.intro (fun hc => absurd hc a1) (fun _ => ?_)
      refine m_floatsE (y := 9) H hd (by omega) (by omega) (fun _ => ?_) (fun _ => ?_)
      · refine And.intro (fun hc => absurd hc (by decide)) (fun _ => ?_)
        exact hk_Rn_cast (by rw [← nI_1 h]; rfl) (ih (h + 1) _ (by omega))
      · refine And.intro (fun _ => ?_) (fun hc => absurd (by decide) hc)
        exact hk_Rn_cast (by rw [← nI_1 h]; rfl) (ih (h + 1) _ (by omega))
  refine hk_mth hk_m204 rfl rfl (n := 1000) ?_
  exact loop N 0 0 (by omega)
set_option maxHeartbeats 1000000 in
theorem m_goesBy {fl gn cn : Nat → Nat} {N D I : Nat} (H : hk_Hu (s 41) fl gn cn N D I) (hB : ∀ y, y ≤ 10 → ∀ X, hk_Gd cn N I y X → hk_Bq (s 49) fl gn cn N D I y X) (h1 : ∀ s2 u, hk_gF s s2 → k (some (.int u)) (s2, lm, hk_RH i0 i1 b, al)) : hk_Cl (d + 5) 203 [.ref 40, .int z] (s, lm, hk_RH i0 i1 b, al) k := by
  have hN := H.1
  have h2N : 2 ^ N ≤ 16 := Nat.pow_le_pow_right (n := 2) (by omega) hN
  have loop : ∀ (g u X : Nat) (s3 : Nat → Nat → Int32) (e : Int32) (l5 l6 l7 : Option Value), u + g = 10 → hk_Gd cn N I u X → (∀ p q, p ≠ 50 → s3 p q = s p q) → hk_Rn (d + 4) none hk_c203 (hk_sfx 7 hk_c203) [some (.ref 40), some (.int z), some (.int (nI X)), some (.int e), some (.int (nI u)), l5, l6, l7] [] (s3, lm, hk_RH i0 i1 b, al) k := by
    intro g
    induction g with
    | zero =>
      intro u X s3 e l5 l6 l7 hu hG f3
      have eu : u = 10 := by omega
      subst eu
      have hX := hG.1
      refine hk_hd (n := 1000) (t := 7) rfl ?_
      refine And.intro (fun _ => ?_) (fun hc => absurd (show (10 : Int32) ≤ nI 10 by decide) hc)
      refine m_findD (u := X) (by omega) (fun s4 f4 hd => ?_)
      have f5 : hk_gF s s4 := fun p q p1 p2 => (f4 p q p2).trans (f3 p q p2)
      have H4 : hk_Hu (s4 41) fl gn cn N D I := hk_Hu_fr H (fun q => f5 41 q (by omega) (by omega))
      refine And.intro (fun c1 => ?_) (fun c1 => ?_)
      · exact h1 s4 _ f5
      exact m_letGo H4 hd (fun u => h1 s4 u f5)
    | succ g ih =>
      intro u X s3 e l5 l6 l7 hu hG f3
      have hX := hG.1
      have b1 : ¬ nI 10 ≤ nI u := hk_nlt (by omega) (by omega)
      refine hk_hd (n := 1000) (t := 7) rfl ?_
      refine And.intro (fun hc => absurd hc b1) (fun _ => ?_)
      refine m_findD (u := X) (by omega) (fun s4 f4 hd => ?_)
      have f5 : ∀ p q, p ≠ 50 → s4 p q = s p q := fun p q p2 => (f4 p q p2).trans (f3 p q p2)
      have f6 : hk_gF s s4 := fun p q p1 p2 => f5 p q p2
      have H4 : hk_Hu (s4 41) fl gn cn N D I := hk_Hu_fr H (fun q => f5 41 q (by omega))
      have e3 := H4.2.2.2.1
      obtain ⟨vv, hv1, hv2, hv3⟩ := hB u (by omega) X hG
      obtain ⟨wt, wt1, wt2, wt3⟩ := hv3 (by omega)
      -- the sets from the least
      have l77 : ∀ (q j : Nat) (t : Int32), j + q = wt → (hk_dr fl gn cn N D I X u j → t = nI (hk_dt X j N)) → (¬ hk_dr fl gn cn N D I X u j → t = -1) → hk_Rn (d + 4) none hk_c203 (hk_sfx 77 hk_c203) [some (.ref 40), some (.int z), some (.int (nI X)), some (.int e), some (.int (nI u)), some (.int (nI (hk_fc fl gn X u N))), some (.int (nI j)), some (.int t)] [] (s4, lm, hk_RH i0 i1 b, al) k := by
        have ex : ∀ (m j : Nat) , j ≤ wt → hk_dr fl gn cn N D I X u j → hk_wp (d + 4) none hk_c203 k (m + 60) (hk_sfx 144 hk_c203) [some (.ref 40), some (.int z), some (.int (nI X)), some (.int e), some (.int (nI u)), some (.int (nI (hk_fc fl gn X u N))), some (.int (nI j)), some (.int (nI (hk_dt X j N)))] [] (s4, lm, hk_RH i0 i1 b, al) := by
          intro m j hj hr
          refine And.intro (fun c1 => ?_) (fun c1 => ?_)
          · refine m_popE (by omega) ?_
            exact hk_Rn_cast (by rw [← nI_1 u]; rfl) (ih (u + 1) (hk_dt X j N) s4 (e + nI (hk_pc j)) (some (.int (nI (hk_fc fl gn X u N)))) (some (.int (nI j))) (some (.int (nI (hk_dt X j N)))) (by omega) (hk_Gd_next hN (by omega) hG hr) f5)
          · exact h1 s4 _ f6
        have ldA : ∀ j, hk_dr fl gn cn N D I X u j → (nI u + 1) * 14641 + nI (hk_dt X j N) = nI ((u + 1) * 14641 + hk_dt X j N) ∧ hk_dt X j N < 14641 := fun j hr => ⟨by rw [nI_1, hk_yx], (hk_Gd_next hN (by omega) hG hr).1⟩
        have nxt : ∀ (m j : Nat) (t : Int32), j + 1 ≤ wt → (∀ t2, (hk_dr fl gn cn N D I X u (j + 1) → t2 = nI (hk_dt X (j + 1) N)) → (¬ hk_dr fl gn cn N D I X u (j + 1) → t2 = -1) → hk_Rn (d + 4) none hk_c203 (hk_sfx 77 hk_c203) [some (.ref 40), some (.int z), some (.int (nI X)), some (.int e), some (.int (nI u)), some (.int (nI (hk_fc fl gn X u N))), some (.int (nI (j + 1))), some (.int t2)] [] (s4, lm, hk_RH i0 i1 b, al) k) → hk_wp (d + 4) none hk_c203 k (m + 60) (hk_sfx 127 hk_c203) [some (.ref 40), some (.int z), some (.int (nI X)), some (.int e), some (.int (nI u)), some (.int (nI (hk_fc fl gn X u N))), some (.int (nI j)), some (.int t)] [] (s4, lm, hk_RH i0 i1 b, al) := by
          intro m j t hj hk
          refine hk_Cl_arg (a2 := [.ref 40, .int (nI X), .int (nI u), .int (nI (j + 1))]) (by rw [← nI_1 j]; rfl) ?_
          refine m_docksThen (d := d + 1) (set := j + 1) H4 hd hX (by omega) (by omega) (fun hr => ?_) (fun hr => ?_)
          · exact hk_Rn_cast (by rw [← nI_1 j]; rfl) (hk _ (fun _ => rfl) (fun q => absurd hr q))
          · exact hk_Rn_cast (by rw [← nI_1 j]; rfl) (hk _ (fun q => absurd q hr) (fun _ => rfl))
        have f49 : ∀ q, s4 49 q = s 49 q := fun q => f5 49 q (by omega)
        intro q
        induction q with
        | zero =>
          intro j t hj ht1 _
          have ej : j = wt := by omega
          subst ej
          have et := ht1 wt2
          subst et
          obtain ⟨ea, eb⟩ := ldA j wt2
          have b2 : ¬ nI (hk_dt X j N) = -1 := fun e => nI_pos (n := hk_dt X j N) (by omega) (by rw [e]; decide)
          refine hk_hd (n := 1000) (t := 77) rfl ?_
          refine And.intro (fun hc => absurd hc b2) (fun _ => ?_)
          refine hk_ldi (i := (nI u + 1) * 14641 + nI (hk_dt X j N)) (j := (u + 1) * 14641 + hk_dt X j N) ea (by omega) (by decide) (f49 _) ?_
          refine m_popE (by omega) ?_
          refine hk_ldi (i := nI u * 14641 + nI X) (j := u * 14641 + X) hk_yx (by omega) (by decide) (f49 _) ?_
          refine And.intro (fun _ => ?_) (fun hc => absurd wt3 hc)
          exact ex _ j (Nat.le_refl _) wt2
        | succ q ih2 =>
          intro j t hj ht1 ht2
          by_cases hr : hk_dr fl gn cn N D I X u j
          · have et := ht1 hr
            subst et
            obtain ⟨ea, eb⟩ := ldA j hr
            have b2 : ¬ nI (hk_dt X j N) = -1 := fun e => nI_pos (n := hk_dt X j N) (by omega) (by rw [e]; decide)
            refine hk_hd (n := 1000) (t := 77) rfl ?_
            refine And.intro (fun hc => absurd hc b2) (fun _ => ?_)
            refine hk_ldi (i := (nI u + 1) * 14641 + nI (hk_dt X j N)) (j := (u + 1) * 14641 + hk_dt X j N) ea (by omega) (by decide) (f49 _) ?_
            refine m_popE (by omega) ?_
            refine hk_ldi (i := nI u * 14641 + nI X) (j := u * 14641 + X) hk_yx (by omega) (by decide) (f49 _) ?_
            refine And.intro (fun c3 => ?_) (fun c3 => ?_)
            · exact ex _ j (by omega) hr
            · exact nxt _ j _ (by omega) (fun t2 q1 q2 => ih2 (j + 1) t2 (by omega) q1 q2)
          · have et := ht2 hr
            subst et
            refine hk_hd (n := 1000) (t := 77) rfl ?_
            refine And.intro (fun _ => ?_) (fun hc => absurd (by decide) hc)
            exact nxt _ j _ (by omega) (fun t2 q1 q2 => ih2 (j + 1) t2 (by omega) q1 q2)
      have l25 : ∀ (q h : Nat), h + q = N → ∀ (l6 l7 : Option Value), hk_Rn (d + 4) none hk_c203 (hk_sfx 25 hk_c203) [some (.ref 40), some (.int z), some (.int (nI X)), some (.int e), some (.int (nI u)), some (.int (nI (hk_fc fl gn X u h))), some (.int (nI h)), l7] [] (s4, lm, hk_RH i0 i1 b, al) k := by
        intro q
        induction q with
        | zero =>
          intro h hh l6 l7
          have eh : h = N := by omega
          subst eh
          refine hk_hd (n := 1000) (t := 25) rfl ?_
          refine hk_ldi (i := nI 3) (j := 3) (by simp only [hk_lit, pk_mul, nI_add]) (by omega) (by decide) e3 ?_
          refine And.intro (fun _ => ?_) (fun hc => absurd (Int32.le_refl _) hc)
          refine m_docksThen (d := d + 1) (set := 0) H4 hd hX (by omega) (by omega) (fun hr => ?_) (fun hr => ?_)
          · exact l77 wt 0 _ (by omega) (fun _ => rfl) (fun q => absurd hr q)
          · exact absurd (hk_dr0 hG) hr
        | succ q ih2 =>
          intro h hh l6 l7
          have a1 : ¬ nI N ≤ nI h := hk_nlt (by omega) (by omega)
          refine hk_hd (n := 1000) (t := 25) rfl ?_
          refine hk_ldi (i := nI 3) (j := 3) (by simp only [hk_lit, pk_mul, nI_add]) (by omega) (by decide) e3 ?_
          refine And.intro (fun hc => absurd hc a1) (fun _ => ?_)
          refine m_floatsE H4 hd (by omega) (by omega) (fun hf => ?_) (fun hf => ?_)
          · refine And.intro (fun hc => absurd hc (by decide)) (fun _ => ?_)
            refine hk_Rn_cast ?_ (ih2 (h + 1) (by omega) none l7)
            rw [hk_fc, if_pos hf, ← nI_1, ← nI_1]
            rfl
          · refine And.intro (fun _ => ?_) (fun hc => absurd (by decide) hc)
            refine hk_Rn_cast ?_ (ih2 (h + 1) (by omega) none l7)
            rw [hk_fc, if_neg hf, ← nI_add, ← nI_1]
            rfl
      exact l25 N 0 (by omega) none l7
  have g0 : hk_Gd cn N I 0 0 := ⟨by omega, fun h _ => by rw [hk_dg00]; exact Nat.zero_le _, by rw [hk_dq00]; exact Nat.zero_le _⟩
  refine hk_mth hk_m203 rfl rfl (n := 1000) ?_
  exact loop 10 0 0 s 0 none none none (by omega) g0 (fun _ _ _ => rfl)
theorem m_plan (h : hk_RI (s 41) a bb r) (h1 : ∀ s2 u, hk_Gm s s2 → hk_RI (s2 41) a bb r → k (some (.int u)) (s2, lm, hk_RH i0 i1 b, al)) : hk_Cl (d + 6) 195 [.ref 40, .int z] (s, lm, hk_RH i0 i1 b, al) k := by
  obtain ⟨fl, gn, cn, N, D, I, H⟩ := hk_Hu_of h
  have fin : ∀ s2 u, hk_gF s s2 → k (some (.int u)) (s2, lm, hk_RH i0 i1 b, al) := fun s2 u f => h1 s2 u ⟨fun p q hp => f p q (by omega) (by omega), fun q _ => f 41 q (by omega) (by omega)⟩ (by
    rw [show s2 41 = s 41 from funext (fun q => f 41 q (by omega) (by omega))]
    exact h)
  refine hk_mth hk_m195 rfl rfl (n := 1000) ?_
  refine m_in (fun _ _ => ?_) (fun _ => ?_)
  rotate_left
  · refine And.intro (fun hc => absurd hc (by decide)) (fun _ => ?_)
    exact h1 s _ (hk_Gm_r s) h
  refine And.intro (fun _ => ?_) (fun hc => absurd (by decide) hc)
  refine m_findBest H (fun s2 f2 hB => ?_)
  refine And.intro (fun c1 => ?_) (fun c1 => ?_)
  · refine m_goesBy (hk_Hu_fr H (fun q => f2 41 q (by omega) (by omega))) hB (fun s3 u f3 => fin s3 u (fun p q p1 p2 => (f3 p q p1 p2).trans (f2 p q p1 p2)))
  · refine hk_ldi (i := nI 0) (j := 0) (by simp only [hk_lit, pk_mul, nI_add]) (by omega) (by decide) rfl ?_
    refine And.intro (by decide) ?_
    exact fin s2 _ f2
end HKD4
