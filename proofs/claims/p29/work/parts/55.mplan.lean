/-! ===== the reference's plan ends ===== -/
theorem hk_dg00 (h : Nat) : hk_dg 0 h = 0 := by
  unfold hk_dg
  rw [Nat.zero_div]
theorem hk_dq00 {cn : Nat → Nat} : ∀ h, hk_dq cn 0 0 h = 0
  | 0 => rfl
  | h + 1 => by rw [hk_dq, hk_dq00 h, hk_dg00, if_neg (hk_bit0 h), Nat.zero_mul]
section HKD4
variable {d n a bb r : Nat} {v w x z : Int32} {s : Nat → Nat → Int32} {lm : Nat → Nat → Int64} {i0 i1 b : Nat} {al : List Nat} {k : Option Value → hk_H → Prop} {hp : hk_H}
theorem hk_Bq_of {f g : Nat → Int32} {fl gn cn : Nat → Nat} {N D I y X : Nat} (hN : N ≤ 4) (hy : y ≤ 10) (hG : hk_Gd cn N I y X) (h : hk_Bq f fl gn cn N D I y X) (e : ∀ q, y * 14641 ≤ q → g q = f q) : hk_Bq g fl gn cn N D I y X := by
  obtain ⟨v, h1, h2, h3, h4, h5⟩ := h
  refine ⟨v, h1, by rw [e _ (by omega)]; exact h2, fun h10 => ?_, h4, fun h10 set q1 q2 => ?_⟩
  · obtain ⟨set, q1, q2, q3⟩ := h3 h10
    exact ⟨set, q1, q2, by rw [e _ (by omega), e _ (by omega)]; exact q3⟩
  · obtain ⟨v2, r1, r2⟩ := h5 h10 set q1 q2
    exact ⟨v2, by rw [e _ (by omega)]; exact r1, r2⟩
set_option maxHeartbeats 1000000 in
theorem m_findBest {fl gn cn : Nat → Nat} {N D I : Nat} (H : hk_Hu (s 41) fl gn cn N D I) (h1 : ∀ s2, hk_gF s s2 → (∀ y, y ≤ 10 → ∀ X, hk_Gd cn N I y X → hk_Bq (s2 49) fl gn cn N D I y X) → k none (s2, lm, hk_RH i0 i1 b, al)) : hk_Cl (d + 5) 196 [.ref 40] (s, lm, hk_RH i0 i1 b, al) k := by
  have hN := H.1
  have eb : (1 : Int32) <<< (nI N &&& 31) = nI (2 ^ N) := by
    match N, hN with
    | 0, _ => decide
    | 1, _ => decide
    | 2, _ => decide
    | 3, _ => decide
    | 4, _ => decide
  have l37 : ∀ (g : Nat) (s3 : Nat → Nat → Int32) (l3 l4 l5 l6 l7 l8 l9 : Option Value), g ≤ 10 → hk_gF s s3 → (∀ y, g ≤ y → y ≤ 10 → ∀ X, hk_Gd cn N I y X → hk_Bq (s3 49) fl gn cn N D I y X) → hk_Rn (d + 4) none hk_c196 (hk_sfx 37 hk_c196) [some (.ref 40), some (.int (nI (2 ^ N))), some (.int (hk_dn g)), l3, l4, l5, l6, l7, l8, l9] [] (s3, lm, hk_RH i0 i1 b, al) k := by
    intro g
    induction g with
    | zero =>
      intro s3 l3 l4 l5 l6 l7 l8 l9 _ f3 hb
      refine hk_hd (n := 1000) (t := 37) rfl ?_
      refine And.intro (fun _ => ?_) (fun hc => absurd (show (-1 : Int32) < 0 by decide) hc)
      exact h1 s3 f3 (fun y hy => hb y (Nat.zero_le _) hy)
    | succ g ih =>
      intro s3 l3 l4 l5 l6 l7 l8 l9 hg f3 hb
      have l43 : ∀ (q u : Nat) (s3 : Nat → Nat → Int32) (l4 l5 l6 l7 l8 l9 : Option Value), u + q = 14641 → hk_gF s s3 → (∀ y, g + 1 ≤ y → y ≤ 10 → ∀ X, hk_Gd cn N I y X → hk_Bq (s3 49) fl gn cn N D I y X) → (∀ X, X < u → hk_Gd cn N I g X → hk_Bq (s3 49) fl gn cn N D I g X) → hk_Rn (d + 4) none hk_c196 (hk_sfx 43 hk_c196) [some (.ref 40), some (.int (nI (2 ^ N))), some (.int (nI g)), some (.int (nI u)), l4, l5, l6, l7, l8, l9] [] (s3, lm, hk_RH i0 i1 b, al) k := by
        intro q
        induction q with
        | zero =>
          intro u s3 l4 l5 l6 l7 l8 l9 hu f3 hb hx
          have e : u = 14641 := by omega
          subst e
          refine hk_hd (n := 1000) (t := 43) rfl ?_
          refine And.intro (fun _ => ?_) (fun hc => absurd (show (14641 : Int32) ≤ nI 14641 by decide) hc)
          exact hk_Rn_cast (by rw [← hk_dn_s]; rfl) (ih s3 (some (.int (nI 14641))) l4 l5 l6 l7 l8 l9 (by omega) f3 (fun y a1 a2 X hG => by
            by_cases e : y = g
            · subst e; exact hx X hG.1 hG
            · exact hb y (by omega) a2 X hG))
        | succ q ih2 =>
          intro u s3 l4 l5 l6 l7 l8 l9 hu f3 hb hx
          have H3 : hk_Hu (s3 41) fl gn cn N D I := hk_Hu_fr H (fun q => f3 41 q (by omega) (by omega))
          refine m_best_x H3 (by omega) (by omega) (fun X2 hG => ?_) (fun s5 l4 l5 l6 l7 l8 l9 f5 o5 hB5 => ?_)
          · obtain ⟨v, q1, q2, _⟩ := hb (g + 1) (by omega) (by omega) X2 hG
            exact ⟨v, by omega, q2⟩
          · refine ih2 (u + 1) s5 l4 l5 l6 l7 l8 l9 (by omega) (fun p q p1 p2 => (f5 p q p1 p2).trans (f3 p q p1 p2)) (fun y a1 a2 X hG => ?_) (fun X hX hG => ?_)
            · exact hk_Bq_of hN a2 hG (hb y a1 a2 X hG) (fun q hq => o5 q (by omega))
            · by_cases e : X = u
              · subst e; exact hB5 hG
              · have hw := hx X (by omega) hG
                have n1 : g * 14641 + X ≠ g * 14641 + u := by omega
                have n3 := Nat.add_mul g 1 14641
                have n4 : u < 14641 := by omega
                have n2 : ∀ Z, (g + 1) * 14641 + Z ≠ g * 14641 + u := fun Z eZ => absurd (show g * 14641 + u < (g + 1) * 14641 + Z from Nat.lt_of_lt_of_le (Nat.add_lt_add_left n4 _) (by rw [n3, Nat.one_mul]; exact Nat.le_add_right _ _)) (by rw [eZ]; exact Nat.lt_irrefl _)
                obtain ⟨v, q1, q2, q3, q4, q5⟩ := hw
                refine ⟨v, q1, by rw [o5 _ n1]; exact q2, fun h10 => ?_, q4, fun h10 set r1 r2 => ?_⟩
                · obtain ⟨set, r1, r2, r3⟩ := q3 h10
                  exact ⟨set, r1, r2, by rw [o5 _ (n2 _), o5 _ n1]; exact r3⟩
                · obtain ⟨v2, r3, r4⟩ := q5 h10 set r1 r2
                  exact ⟨v2, by rw [o5 _ (n2 _)]; exact r3, r4⟩
      have b1 : ¬ nI g < 0 := nI_pos (by omega)
      refine hk_hd (n := 1000) (t := 37) rfl ?_
      refine And.intro (fun hc => absurd hc b1) (fun _ => ?_)
      exact l43 14641 0 s3 l4 l5 l6 l7 l8 l9 (by omega) f3 (fun y a1 a2 => hb y a1 a2) (fun X hX => absurd hX (Nat.not_lt_zero X))
  have l11 : ∀ (q u : Nat) (s3 : Nat → Nat → Int32), u + q = 14641 → hk_gF s s3 → (∀ X, X < u → s3 49 (146410 + X) = 0) → hk_Rn (d + 4) none hk_c196 (hk_sfx 11 hk_c196) [some (.ref 40), some (.int (nI (2 ^ N))), some (.int (nI u)), none, none, none, none, none, none, none] [] (s3, lm, hk_RH i0 i1 b, al) k := by
    intro q
    induction q with
    | zero =>
      intro u s3 hu f3 hx
      have e : u = 14641 := by omega
      subst e
      refine hk_hd (n := 1000) (t := 11) rfl ?_
      refine And.intro (fun _ => ?_) (fun hc => absurd (show (14641 : Int32) ≤ nI 14641 by decide) hc)
      exact l37 10 s3 none none none none none none none (by omega) f3 (fun y a1 a2 X hG => by
        have e : y = 10 := by omega
        subst e
        exact ⟨0, by omega, hx X hG.1, fun q => by omega, fun _ => rfl, fun q => by omega⟩)
    | succ q ih =>
      intro u s3 hu f3 hx
      have b1 : ¬ nI 14641 ≤ nI u := hk_nlt (by omega) (by omega)
      refine hk_hd (n := 1000) (t := 11) rfl ?_
      refine And.intro (fun hc => absurd hc b1) (fun _ => ?_)
      refine hk_stn (i := 146410 + nI u) (j := 146410 + u) (by simp only [hk_lit, pk_mul, nI_add]) (by omega) (by decide) (fun s4 (hs4 : s4 = hk_u2 s3 49 (146410 + u) 0) => ?_)
      refine hk_Rn_cast (by rw [← nI_1 u]; rfl) (ih (u + 1) s4 (by omega) (fun p q p1 p2 => by rw [hs4, hk_u2o (fun e => p1 e.1)]; exact f3 p q p1 p2) (fun X hX => ?_))
      rw [hs4]
      by_cases e : X = u
      · subst e; rw [hk_u2s]
      · rw [hk_u2o (by omega)]; exact hx X (by omega)
  refine hk_mth hk_m196 rfl rfl (n := 1000) ?_
  refine hk_ldi (i := nI 3) (j := 3) (by simp only [hk_lit, pk_mul, nI_add]) (by omega) (by decide) H.2.2.2.1 ?_
  exact hk_Rn_cast (by rw [← eb]; rfl) (l11 14641 0 s (by omega) (fun _ _ _ _ => rfl) (fun X hX => absurd hX (Nat.not_lt_zero X)))
end HKD4
