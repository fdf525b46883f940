/-! ===== the reference's plan with no ship told ===== -/
/-- a count downwards -/
def hk_dn (g : Nat) : Int32 := match g with
  | 0 => -1
  | g + 1 => nI g
theorem hk_dn_s (g : Nat) : nI g + (-1) = hk_dn g := by
  cases g with
  | zero => decide
  | succ g => exact pk_m1 g
theorem hk_yx {g x : Nat} : nI g * 14641 + nI x = nI (g * 14641 + x) := by
  rw [show nI g * (14641 : Int32) = nI (g * 14641) from pk_mul g 14641, nI_add]
theorem hk_yx0 {g : Nat} : nI g * 14641 + 0 = nI (g * 14641) := by
  rw [show nI g * (14641 : Int32) = nI (g * 14641) from pk_mul g 14641, hk_zI, nI_add, Nat.add_zero]
section HKN1
variable {d t c n : Nat} {r v w x y z : Int32} {s : Nat → Nat → Int32} {lm : Nat → Nat → Int64} {i0 i1 b : Nat} {al : List Nat} {k : Option Value → hk_H → Prop} {hp : hk_H}
theorem m_findBest0 (h3 : s 41 3 = 0) (h10 : s 41 10 = 1) (h11 : s 41 11 = 100) (h1 : ∀ s2, (∀ p q, p ≠ 49 → p ≠ 50 → s2 p q = s p q) → (∀ y, y ≤ 10 → s2 49 (y * 14641) = 0) → k none (s2, lm, hk_RH i0 i1 b, al)) : hk_Cl (d + 3) 196 [.ref 40] (s, lm, hk_RH i0 i1 b, al) k := by
  have l37 : ∀ (g : Nat) (s3 : Nat → Nat → Int32) (l3 l4 l5 l6 l7 l8 l9 : Option Value), g ≤ 10 → (∀ p q, p ≠ 49 → p ≠ 50 → s3 p q = s p q) → (∀ y, g ≤ y → y ≤ 10 → s3 49 (y * 14641) = 0) → hk_Rn (d + 2) none hk_c196 (hk_sfx 37 hk_c196) [some (.ref 40), some (.int 1), some (.int (hk_dn g)), l3, l4, l5, l6, l7, l8, l9] [] (s3, lm, hk_RH i0 i1 b, al) k := by
    intro g
    induction g with
    | zero =>
      intro s3 l3 l4 l5 l6 l7 l8 l9 _ h2 hy
      refine hk_hd (n := 1000) (t := 37) rfl ?_
      refine And.intro (fun _ => ?_) (fun hc => absurd (show (-1 : Int32) < 0 by decide) hc)
      exact h1 s3 h2 (fun y hy2 => hy y (Nat.zero_le _) hy2)
    | succ g ih =>
      intro s3 l3 l4 l5 l6 l7 l8 l9 hg h2 hy
      have l43 : ∀ (r u : Nat) (s3 : Nat → Nat → Int32) (l4 l5 l6 l7 l8 l9 : Option Value), u + r = 14641 → (∀ p q, p ≠ 49 → p ≠ 50 → s3 p q = s p q) → (∀ y, g + 1 ≤ y → y ≤ 10 → s3 49 (y * 14641) = 0) → (0 < u → s3 49 (g * 14641) = 0) → hk_Rn (d + 2) none hk_c196 (hk_sfx 43 hk_c196) [some (.ref 40), some (.int 1), some (.int (nI g)), some (.int (nI u)), l4, l5, l6, l7, l8, l9] [] (s3, lm, hk_RH i0 i1 b, al) k := by
        intro r
        induction r with
        | zero =>
          intro u s3 l4 l5 l6 l7 l8 l9 hu h2 hy h0
          have e : u = 14641 := by omega
          subst e
          refine hk_hd (n := 1000) (t := 43) rfl ?_
          refine And.intro (fun _ => ?_) (fun hc => absurd (show (14641 : Int32) ≤ nI 14641 by decide) hc)
          exact hk_Rn_cast (by rw [← hk_dn_s]; rfl) (ih s3 (some (.int (nI 14641))) l4 l5 l6 l7 l8 l9 (by omega) h2 (fun y a1 a2 => by
            by_cases e : y = g
            · subst e; exact h0 (by omega)
            · exact hy y (by omega) a2))
        | succ r ih2 =>
          intro u s3 l4 l5 l6 l7 l8 l9 hu h2 hy h0
          have b1 : ¬ nI 14641 ≤ nI u := hk_nlt (by omega) (by omega)
          refine hk_hd (n := 1000) (t := 43) rfl ?_
          refine And.intro (fun hc => absurd hc b1) (fun _ => ?_)
          refine m_findDocked0 (u := u) (fun s4 h4 h5 => ?_) (by omega)
          have e3 : s4 41 3 = 0 := by rw [h4 _ _ (by omega), h2 _ _ (by omega) (by omega)]; exact h3
          have nx : ∀ (s5 : Nat → Nat → Int32) (va : Int32) (l4 l5 l6 l7 l8 l9 : Option Value), s5 = hk_u2 s4 49 (g * 14641 + u) va → (u = 0 → va = 0) → hk_Rn (d + 2) none hk_c196 (hk_sfx 43 hk_c196) [some (.ref 40), some (.int 1), some (.int (nI g)), some (.int (nI (u + 1))), l4, l5, l6, l7, l8, l9] [] (s5, lm, hk_RH i0 i1 b, al) k := by
            intro s5 va l4 l5 l6 l7 l8 l9 e5 hv
            refine ih2 (u + 1) s5 l4 l5 l6 l7 l8 l9 (by omega) (fun p q a1 a2 => ?_) (fun y a1 a2 => ?_) (fun _ => ?_)
            · rw [e5, hk_u2o (fun q => a1 q.1), h4 _ _ a2]; exact h2 p q a1 a2
            · rw [e5, hk_u2o (by omega), h4 _ _ (by omega)]; exact hy y a1 a2
            · rw [e5]
              by_cases e : u = 0
              · subst e
                rw [hv rfl, Nat.add_zero, hk_u2s]
              · rw [hk_u2o (by omega), h4 _ _ (by omega)]; exact h0 (by omega)
          have l64 : ∀ (q h : Nat) (ma : Int32), h + q = 4 → (u = 0 → ma = 1) → hk_Rn (d + 2) none hk_c196 (hk_sfx 64 hk_c196) [some (.ref 40), some (.int 1), some (.int (nI g)), some (.int (nI u)), some (.int ma), some (.int 0), some (.int (nI h)), l7, l8, l9] [] (s4, lm, hk_RH i0 i1 b, al) k := by
            intro q
            induction q with
            | zero =>
              intro h ma hh hma
              have e : h = 4 := by omega
              subst e
              have b2 : ¬ nI u = -1 := fun e => nI_pos (n := u) (by omega) (by rw [e]; decide)
              have b3 : (nI g + 1) * 14641 + nI u = nI ((g + 1) * 14641 + u) := by rw [nI_1, hk_yx]
              refine hk_hd (n := 1000) (t := 64) rfl ?_
              refine And.intro (fun _ => ?_) (fun hc => absurd (show (4 : Int32) ≤ nI 4 by decide) hc)
              refine hk_hd (n := 1000) (t := 152) rfl ?_
              refine And.intro (fun hc => absurd hc (by decide)) (fun _ => ?_)
              refine And.intro (fun c1 => ?_) (fun c1 => ?_)
              · have c1 : ma = 0 := c1
                refine hk_stn (i := nI g * 14641 + nI u) (j := g * 14641 + u) hk_yx (by omega) (by decide) (fun s5 hs5 => ?_)
                exact hk_Rn_cast (by rw [← nI_1 u]; rfl) (nx s5 _ _ _ _ _ _ _ hs5 (fun e => absurd ((hma e).symm.trans c1) (by decide)))
              refine m_docksThen0 e3 (by rw [h4 _ _ (by omega), h2 _ _ (by omega) (by omega)]; exact h10) (by rw [h4 _ _ (by omega), h2 _ _ (by omega) (by omega)]; exact h11) (by omega) ?_
              refine And.intro (fun _ => ?_) (fun hc => absurd b2 hc)
              refine hk_ldi (i := (nI g + 1) * 14641 + nI u) (j := (g + 1) * 14641 + u) b3 (by omega) (by decide) rfl ?_
              refine m_size0 ?_
              refine And.intro (fun c2 => ?_) (fun c2 => ?_)
              · have c2 : s4 49 ((g + 1) * 14641 + u) - 0 ≤ -100000 := c2
                refine hk_hd (n := 1000) (t := 152) rfl ?_
                refine And.intro (fun _ => ?_) (fun hc => absurd (by decide) hc)
                refine hk_stn (i := nI g * 14641 + nI u) (j := g * 14641 + u) hk_yx (by omega) (by decide) (fun s5 hs5 => ?_)
                refine hk_Rn_cast (by rw [← nI_1 u]; rfl) (nx s5 _ _ _ _ _ _ _ hs5 (fun e => ?_))
                subst e
                rw [Nat.add_zero, h4 _ _ (by omega), hy (g + 1) (by omega) (by omega)] at c2
                exact absurd c2 (by decide)
              · refine hk_hd (n := 1000) (t := 152) rfl ?_
                refine And.intro (fun _ => ?_) (fun hc => absurd (by decide) hc)
                refine hk_stn (i := nI g * 14641 + nI u) (j := g * 14641 + u) hk_yx (by omega) (by decide) (fun s5 hs5 => ?_)
                refine hk_Rn_cast (by rw [← nI_1 u]; rfl) (nx s5 (s4 49 ((g + 1) * 14641 + u) - 0 + 64 * 0) _ _ _ _ _ _ hs5 (fun e => ?_))
                subst e
                rw [Nat.add_zero, h4 _ _ (by omega), hy (g + 1) (by omega) (by omega)]
                decide
            | succ q ih3 =>
              intro h ma hh hma
              have b2 : ¬ nI 4 ≤ nI h := hk_nlt (by omega) (by omega)
              have b3 : (0 : Int32) ≤ nI h := nI_pos' (by omega)
              refine hk_hd (n := 1000) (t := 64) rfl ?_
              refine And.intro (fun hc => absurd hc b2) (fun _ => ?_)
              refine And.intro (fun c1 => ?_) (fun c1 => ?_)
              · have c1 : ma = 0 := c1
                refine hk_ldi (i := nI 3) (j := 3) (by simp only [hk_lit, pk_mul, nI_add]) (by omega) (by decide) e3 ?_
                refine And.intro (fun _ => ?_) (fun hc => absurd b3 hc)
                exact hk_Rn_cast (by rw [← nI_1 h]; rfl) (ih3 (h + 1) 0 (by omega) (fun e => absurd ((hma e).symm.trans c1) (by decide)))
              · refine hk_ldi (i := nI h) (j := h) (by simp only [hk_lit, pk_mul, nI_add]) (by omega) (by decide) rfl ?_
                refine hk_ldi (i := nI 3) (j := 3) (by simp only [hk_lit, pk_mul, nI_add]) (by omega) (by decide) e3 ?_
                refine And.intro (fun _ => ?_) (fun hc => absurd b3 hc)
                refine And.intro (fun c2 => ?_) (fun c2 => ?_)
                · have c2 : (0 : Int32) < s4 50 h := c2
                  refine hk_ldi (i := nI 3) (j := 3) (by simp only [hk_lit, pk_mul, nI_add]) (by omega) (by decide) e3 ?_
                  refine And.intro (fun _ => ?_) (fun hc => absurd b3 hc)
                  exact hk_Rn_cast (by rw [← nI_1 h]; rfl) (ih3 (h + 1) 0 (by omega) (fun e => absurd c2 (by rw [h5 e h (by omega)]; decide)))
                · refine hk_ldi (i := nI 3) (j := 3) (by simp only [hk_lit, pk_mul, nI_add]) (by omega) (by decide) e3 ?_
                  refine And.intro (fun _ => ?_) (fun hc => absurd b3 hc)
                  exact hk_Rn_cast (by rw [← nI_1 h]; rfl) (ih3 (h + 1) 1 (by omega) (fun _ => rfl))
          exact l64 4 0 1 (by omega) (fun _ => rfl)
      have b1 : ¬ nI g < 0 := nI_pos (by omega)
      refine hk_hd (n := 1000) (t := 37) rfl ?_
      refine And.intro (fun hc => absurd hc b1) (fun _ => ?_)
      exact l43 14641 0 s3 l4 l5 l6 l7 l8 l9 (by omega) h2 (fun y a1 a2 => hy y a1 a2) (fun q => absurd q (Nat.lt_irrefl 0))
  have l11 : ∀ (r u : Nat) (s3 : Nat → Nat → Int32), u + r = 14641 → (∀ p q, p ≠ 49 → p ≠ 50 → s3 p q = s p q) → (0 < u → s3 49 146410 = 0) → hk_Rn (d + 2) none hk_c196 (hk_sfx 11 hk_c196) [some (.ref 40), some (.int 1), some (.int (nI u)), none, none, none, none, none, none, none] [] (s3, lm, hk_RH i0 i1 b, al) k := by
    intro r
    induction r with
    | zero =>
      intro u s3 hu h2 h0
      have e : u = 14641 := by omega
      subst e
      refine hk_hd (n := 1000) (t := 11) rfl ?_
      refine And.intro (fun _ => ?_) (fun hc => absurd (show (14641 : Int32) ≤ nI 14641 by decide) hc)
      exact l37 10 s3 none none none none none none none (by omega) h2 (fun y a1 a2 => by
        have e : y = 10 := by omega
        subst e
        exact h0 (by omega))
    | succ r ih =>
      intro u s3 hu h2 h0
      have b1 : ¬ nI 14641 ≤ nI u := hk_nlt (by omega) (by omega)
      refine hk_hd (n := 1000) (t := 11) rfl ?_
      refine And.intro (fun hc => absurd hc b1) (fun _ => ?_)
      refine hk_stn (i := 146410 + nI u) (j := 146410 + u) (by simp only [hk_lit, pk_mul, nI_add]) (by omega) (by decide) (fun s4 (hs4 : s4 = hk_u2 s3 49 (146410 + u) 0) => ?_)
      refine hk_Rn_cast (by rw [← nI_1]; rfl) (ih (u + 1) s4 (by omega) (fun p q a1 a2 => ?_) (fun _ => ?_))
      · rw [hs4, hk_u2o (fun q => a1 q.1)]; exact h2 p q a1 a2
      · rw [hs4]
        by_cases e : u = 0
        · subst e; exact hk_u2s
        · rw [hk_u2o (by omega)]; exact h0 (by omega)
  refine hk_mth hk_m196 rfl rfl (n := 1000) ?_
  refine hk_ldi (i := nI 3) (j := 3) (by simp only [hk_lit, pk_mul, nI_add]) (by omega) (by decide) h3 ?_
  exact l11 14641 0 s (by omega) (fun _ _ _ _ => rfl) (fun q => absurd q (Nat.lt_irrefl 0))
theorem m_goesBy0 (h3 : s 41 3 = 0) (h10 : s 41 10 = 1) (h11 : s 41 11 = 100) (hy : ∀ y, y ≤ 10 → s 49 (y * 14641) = 0) (h1 : ∀ s2, k (some (.int 0)) (s2, lm, hk_RH i0 i1 b, al)) : hk_Cl (d + 3) 203 [.ref 40, .int z] (s, lm, hk_RH i0 i1 b, al) k := by
  have loop : ∀ (g u : Nat) (s3 : Nat → Nat → Int32) (l5 l6 l7 : Option Value), u + g = 10 → (∀ p q, p ≠ 50 → s3 p q = s p q) → hk_Rn (d + 2) none hk_c203 (hk_sfx 7 hk_c203) [some (.ref 40), some (.int z), some (.int 0), some (.int 0), some (.int (nI u)), l5, l6, l7] [] (s3, lm, hk_RH i0 i1 b, al) k := by
    intro g
    induction g with
    | zero =>
      intro u s3 l5 l6 l7 hu h2
      have e : u = 10 := by omega
      subst e
      refine hk_hd (n := 1000) (t := 7) rfl ?_
      refine And.intro (fun _ => ?_) (fun hc => absurd (show (10 : Int32) ≤ nI 10 by decide) hc)
      refine m_findDocked0 (u := 0) (fun s4 h4 _ => ?_) (by omega)
      refine And.intro (fun c1 => ?_) (fun c1 => ?_)
      · exact h1 s4
      refine m_letGo0 (by rw [h4 _ _ (by omega), h2 _ _ (by omega)]; exact h3) ?_
      exact h1 s4
    | succ g ih =>
      intro u s3 l5 l6 l7 hu h2
      have b1 : ¬ nI 10 ≤ nI u := hk_nlt (by omega) (by omega)
      refine hk_hd (n := 1000) (t := 7) rfl ?_
      refine And.intro (fun hc => absurd hc b1) (fun _ => ?_)
      refine m_findDocked0 (u := 0) (fun s4 h4 _ => ?_) (by omega)
      have e3 : s4 41 3 = 0 := by rw [h4 _ _ (by omega), h2 _ _ (by omega)]; exact h3
      have b3 : (nI u + 1) * 14641 + 0 = nI ((u + 1) * 14641) := by rw [nI_1]; exact hk_yx0
      have b4 : nI u * 14641 + 0 = nI (u * 14641) := hk_yx0
      have y1 : s4 49 ((u + 1) * 14641) = 0 := by rw [h4 _ _ (by omega), h2 _ _ (by omega)]; exact hy (u + 1) (by omega)
      have y0 : s4 49 (u * 14641) = 0 := by rw [h4 _ _ (by omega), h2 _ _ (by omega)]; exact hy u (by omega)
      refine hk_hd (n := 1000) (t := 25) rfl ?_
      refine hk_ldi (i := nI 3) (j := 3) (by simp only [hk_lit, pk_mul, nI_add]) (by omega) (by decide) e3 ?_
      refine And.intro (fun _ => ?_) (fun hc => absurd (by decide) hc)
      refine m_docksThen0 e3 (by rw [h4 _ _ (by omega), h2 _ _ (by omega)]; exact h10) (by rw [h4 _ _ (by omega), h2 _ _ (by omega)]; exact h11) (by omega) ?_
      refine hk_hd (n := 1000) (t := 77) rfl ?_
      refine And.intro (fun hc => absurd hc (by decide)) (fun _ => ?_)
      refine hk_ldi (i := (nI u + 1) * 14641 + 0) (j := (u + 1) * 14641) b3 (by omega) (by decide) y1 ?_
      refine m_size0 ?_
      refine hk_ldi (i := nI u * 14641 + 0) (j := u * 14641) b4 (by omega) (by decide) y0 ?_
      refine And.intro (fun _ => ?_) (fun hc => absurd (by decide) hc)
      refine And.intro (fun c2 => ?_) (fun c2 => ?_)
      · refine m_size0 ?_
        exact hk_Rn_cast (by rw [← nI_1]; rfl) (ih (u + 1) s4 (some (.int 0)) (some (.int 0)) (some (.int 0)) (by omega) (fun p q hp => by rw [h4 p q hp]; exact h2 p q hp))
      · exact h1 s4
  refine hk_mth hk_m203 rfl rfl (n := 1000) ?_
  exact loop 10 0 s none none none (by omega) (fun _ _ _ => rfl)
theorem m_plan0 (h3 : s 41 3 = 0) (h10 : s 41 10 = 1) (h11 : s 41 11 = 100) (hb : ¬ hk_rg z (-1) 11 → k (some (.int (-2))) (s, lm, hk_RH i0 i1 b, al)) (hg : hk_rg z (-1) 11 → ∀ s2, k (some (.int 0)) (s2, lm, hk_RH i0 i1 b, al)) : hk_Cl (d + 4) 195 [.ref 40, .int z] (s, lm, hk_RH i0 i1 b, al) k := by
  refine hk_mth hk_m195 rfl rfl (n := 1000) ?_
  refine m_in0 (fun (a : z < (-1) ∨ 11 < z) => ?_) (fun (p0 : ¬ z < (-1)) (q0 : ¬ 11 < z) => ?_)
  · refine And.intro (fun hc => absurd hc (by decide)) (fun _ => ?_)
    exact hb (fun q => a.elim q.1 q.2)
  refine And.intro (fun _ => ?_) (fun hc => absurd (by decide) hc)
  have hg2 := hg ⟨p0, q0⟩
  refine m_findBest0 h3 h10 h11 (fun s2 h2 hy => ?_)
  refine And.intro (fun c1 => ?_) (fun c1 => ?_)
  · refine m_goesBy0 (by rw [h2 _ _ (by omega) (by omega)]; exact h3) (by rw [h2 _ _ (by omega) (by omega)]; exact h10) (by rw [h2 _ _ (by omega) (by omega)]; exact h11) hy ?_
    exact hg2
  · refine hk_ldi (i := nI 0) (j := 0) (by simp only [hk_lit, pk_mul, nI_add]) (by omega) (by decide) (hy 0 (by omega)) ?_
    refine And.intro (by decide) ?_
    exact hg2 s2
theorem hk_rmo2 : hk_rmo (List.range 51 ++ [95]) := ⟨by decide +kernel, by decide +kernel⟩
theorem p_plan : hk_P2 81 195 [.int z] :=
  c_plan0 (d := 972) rfl rfl rfl rfl rfl (fun hb => ⟨_, rfl, m_plan0 (d := 996) rfl rfl rfl (fun _ => ⟨rfl, hk_rmo0⟩) (fun hg => absurd hg hb)⟩) (fun hg s2 h2 => ⟨_, rfl, m_plan0 (d := 996) (by rw [h2 _ _ (by omega)]; rfl) (by rw [h2 _ _ (by omega)]; rfl) (by rw [h2 _ _ (by omega)]; rfl) (fun hb => absurd hg hb) (fun _ s3 => ⟨rfl, hk_rmo2⟩)⟩)
end HKN1
