/-! ===== the reference: calls that change ships and plates ===== -/
/-- a cell that RI doesn't speak of, or as before -/
theorem hk_RI_u {f : Nat → Int32} {a b r q : Nat} {v : Int32} (h : hk_RI f a b r) (h1 : 12 ≤ q ∧ q < 20 ∨ q = 8 ∨ q = 9 ∨ (20 ≤ q ∧ q < 80 ∧ q % 10 ≠ 0 ∧ q % 10 ≠ 8) ∨ (80 ≤ q ∧ q < 656 ∧ q % 6 ≠ 2 ∧ q % 6 ≠ 3) ∨ (1410 ≤ q ∧ q < 1422) ∨ 1678 ≤ q ∧ (q < 1808 ∨ 1848 ≤ q)) : hk_RI (fun j => if j = q then v else f j) a b r := by
  obtain ⟨⟨p1, p2, p3⟩, ⟨c0, c1, c2⟩, har, hch, hpl, hrd, ⟨n7, hn7, e7⟩, htx, ⟨h3, hh3, e3, hhu⟩, ⟨h4, hh4, e4⟩, ⟨h5, hh5, e5⟩, ⟨h6, hh6, e6, x6⟩, ⟨h10, hh10, e10⟩, ⟨h11, hh11, e11⟩⟩ := h
  have g : ∀ j, j ≠ q → (fun j => if j = q then v else f j) j = f j := fun j hj => if_neg hj
  have g1 : ∀ {j : Nat} {x : Int32}, f j = x → j ≠ q → (if j = q then v else f j) = x := fun e hj => (if_neg hj).trans e
  refine ⟨⟨p1, p2, p3⟩, ⟨g1 c0 (by omega), g1 c1 (by omega), g1 c2 (by omega)⟩, fun i hi => ?_, fun i hi => ?_, fun p hp => ?_, fun j hj => ?_, ⟨n7, hn7, g1 e7 (by omega)⟩, fun t ht => ?_, ⟨h3, hh3, g1 e3 (by omega), fun i hi => ?_⟩, ⟨h4, hh4, g1 e4 (by omega)⟩, ⟨h5, hh5, g1 e5 (by omega)⟩, ⟨h6, hh6, g1 e6 (by omega), hk_RZ_e x6 (fun j hj => if_neg (by omega))⟩, ⟨h10, hh10, g1 e10 (by omega)⟩, ⟨h11, hh11, g1 e11 (by omega)⟩⟩
  · show ¬ (if 20 + 10 * i = q then v else f (20 + 10 * i)) = 0
    rw [if_neg (by omega)]
    exact har i hi
  · show (if 20 + 10 * i + 8 = q then v else f (20 + 10 * i + 8)) = -1 ∨ ∃ j, j < 4 ∧ (if 20 + 10 * i + 8 = q then v else f (20 + 10 * i + 8)) = nI j
    rw [if_neg (by omega)]
    exact hch i hi
  · show (∃ i, i < a ∧ (if 80 + 6 * p = q then v else f (80 + 6 * p)) = nI i) ∧ ∃ z, z < 3 ∧ (if 80 + 6 * p + 1 = q then v else f (80 + 6 * p + 1)) = nI z
    rw [if_neg (by omega), if_neg (by omega)]
    exact hpl p hp
  · show (∃ p, p < b ∧ (if 660 + 5 * j = q then v else f (660 + 5 * j)) = nI p) ∧ (∃ m, m < 600 ∧ (if 660 + 5 * j + 1 = q then v else f (660 + 5 * j + 1)) = nI m) ∧ ∃ g, g < 4 ∧ (if 660 + 5 * j + 2 = q then v else f (660 + 5 * j + 2)) = nI g
    rw [if_neg (by omega), if_neg (by omega), if_neg (by omega)]
    exact hrd j hj
  · show ∃ m, m ≤ 60 ∧ (if 1422 + 61 * t = q then v else f (1422 + 61 * t)) = nI m
    rw [if_neg (by omega)]
    exact htx t ht
  · show ∃ x y z, x ≤ 10 ∧ 1 ≤ y ∧ y ≤ 10 ∧ z ≤ 1000 ∧ (if 1666 + 3 * i = q then v else f (1666 + 3 * i)) = nI x ∧ (if 1666 + 3 * i + 1 = q then v else f (1666 + 3 * i + 1)) = nI y ∧ (if 1666 + 3 * i + 2 = q then v else f (1666 + 3 * i + 2)) = nI z
    rw [if_neg (by omega), if_neg (by omega), if_neg (by omega)]
    exact hhu i hi
/-- a plate's ship -/
theorem hk_RI_of {f : Nat → Int32} {a b r p i : Nat} (h : hk_RI f a b r) (hi : i < a) (hp : p < b) : hk_RI (fun j => if j = 80 + 6 * p then nI i else f j) a b r := by
  obtain ⟨⟨p1, p2, p3⟩, ⟨c0, c1, c2⟩, har, hch, hpl, hrd, ⟨n7, hn7, e7⟩, htx, ⟨h3, hh3, e3, hhu⟩, ⟨h4, hh4, e4⟩, ⟨h5, hh5, e5⟩, ⟨h6, hh6, e6, x6⟩, ⟨h10, hh10, e10⟩, ⟨h11, hh11, e11⟩⟩ := h
  have g1 : ∀ {j : Nat} {x : Int32}, f j = x → j ≠ 80 + 6 * p → (if j = 80 + 6 * p then nI i else f j) = x := fun e hj => (if_neg hj).trans e
  refine ⟨⟨p1, p2, p3⟩, ⟨g1 c0 (by omega), g1 c1 (by omega), g1 c2 (by omega)⟩, fun i hi => ?_, fun i hi => ?_, fun p2 hp2 => ⟨?_, ?_⟩, fun j hj => ?_, ⟨n7, hn7, g1 e7 (by omega)⟩, fun t ht => ?_, ⟨h3, hh3, g1 e3 (by omega), fun i hi => ?_⟩, ⟨h4, hh4, g1 e4 (by omega)⟩, ⟨h5, hh5, g1 e5 (by omega)⟩, ⟨h6, hh6, g1 e6 (by omega), hk_RZ_e x6 (fun j hj => if_neg (by omega))⟩, ⟨h10, hh10, g1 e10 (by omega)⟩, ⟨h11, hh11, g1 e11 (by omega)⟩⟩
  · dsimp only
    rw [if_neg (by omega)]
    exact har i hi
  · dsimp only
    rw [if_neg (by omega)]
    exact hch i hi
  · dsimp only
    by_cases e : p2 = p
    · subst e
      rw [if_pos rfl]
      exact ⟨i, hi, rfl⟩
    · rw [if_neg (by omega)]
      exact (hpl p2 hp2).1
  · dsimp only
    rw [if_neg (by omega)]
    exact (hpl p2 hp2).2
  · dsimp only
    rw [if_neg (by omega), if_neg (by omega), if_neg (by omega)]
    exact hrd j hj
  · dsimp only
    rw [if_neg (by omega)]
    exact htx t ht
  · dsimp only
    rw [if_neg (by omega), if_neg (by omega), if_neg (by omega)]
    exact hhu i hi
theorem hk_u2f {s : Nat → Nat → Int32} {p q : Nat} {v : Int32} : hk_u2 s p q v p = fun j => if j = q then v else s p j := by
  funext j
  by_cases e : j = q
  · subst e; rw [hk_u2s, if_pos rfl]
  · rw [hk_u2o (fun h => e h.2), if_neg e]
theorem hk_RI_41 {s : Nat → Nat → Int32} {a b r q : Nat} {v : Int32} (h : hk_RI (s 41) a b r) (h1 : 12 ≤ q ∧ q < 20 ∨ q = 8 ∨ q = 9 ∨ (20 ≤ q ∧ q < 80 ∧ q % 10 ≠ 0 ∧ q % 10 ≠ 8) ∨ (80 ≤ q ∧ q < 656 ∧ q % 6 ≠ 2 ∧ q % 6 ≠ 3) ∨ (1410 ≤ q ∧ q < 1422) ∨ 1678 ≤ q ∧ (q < 1808 ∨ 1848 ≤ q)) : hk_RI (hk_u2 s 41 q v 41) a b r := by
  rw [hk_u2f]
  exact hk_RI_u h h1
theorem hk_RI_o {s : Nat → Nat → Int32} {a b r p q : Nat} {v : Int32} (h : hk_RI (s 41) a b r) (hp : p ≠ 41) : hk_RI (hk_u2 s p q v 41) a b r := by
  have e : hk_u2 s p q v 41 = s 41 := by
    funext j
    exact hk_u2o (fun e => hp e.1.symm)
  rw [e]
  exact h
theorem hk_Gm_u {s s2 : Nat → Nat → Int32} {p q : Nat} {v : Int32} (g : hk_Gm s s2) (h1 : 40 ≤ p ∧ p ≤ 50 ∧ p ≠ 42 ∧ p ≠ 43 ∧ p ≠ 44) (h2 : p = 41 → ¬ hk_ez q) : hk_Gm s (hk_u2 s2 p q v) :=
  ⟨fun p' q' h => by rw [hk_u2o (by omega)]; exact g.1 p' q' h, fun q' h => by
    by_cases e : p = 41
    · subst e
      rw [hk_u2o (fun e => h2 rfl (by rw [← e.2]; exact h))]
      exact g.2 q' h
    · rw [hk_u2o (fun e2 => e e2.1.symm)]
      exact g.2 q' h⟩
theorem hk_nez {q : Nat} (h : 80 ≤ q ∧ q < 1410 ∨ q = 2 ∨ (20 ≤ q ∧ q < 80 ∧ (q % 10 = 5 ∨ q % 10 = 6 ∨ q % 10 = 7))) : ¬ hk_ez q := fun e => by
  unfold hk_ez at e
  omega
theorem hk_Gn_u {s s2 : Nat → Nat → Int32} {p q : Nat} {v : Int32} (g : hk_Gn s s2) (h1 : 40 ≤ p ∧ p ≤ 50 ∧ p ≠ 42 ∧ p ≠ 43 ∧ p ≠ 44) (h2 : p = 41 → q ≠ 7 → ¬ hk_ez q) : hk_Gn s (hk_u2 s2 p q v) :=
  ⟨fun p' q' h => by rw [hk_u2o (by omega)]; exact g.1 p' q' h, fun q' h h7 => by
    by_cases e : p = 41
    · subst e
      rw [hk_u2o (fun e => h2 rfl (by rw [← e.2]; exact h7) (by rw [← e.2]; exact h))]
      exact g.2 q' h h7
    · rw [hk_u2o (fun e2 => e e2.1.symm)]
      exact g.2 q' h h7⟩
section HKB2
variable {d n a bb r : Nat} {v w x y z : Int32} {s : Nat → Nat → Int32} {lm : Nat → Nat → Int64} {i0 i1 b : Nat} {al : List Nat} {k : Option Value → hk_H → Prop}
theorem m_lay (h : hk_RI (s 41) a bb r) (h1 : ∀ s2 u, hk_Gm s s2 → hk_RI (s2 41) a bb r → k (some (.int u)) (s2, lm, hk_RH i0 i1 b, al)) : hk_Cl (d + 3) 140 [.ref 40, .int v] (s, lm, hk_RH i0 i1 b, al) k := by
  have ha := h.1.1
  have hb := h.1.2.1
  refine hk_mth hk_m140 rfl rfl (n := 1000) ?_
  refine m_isn (c := 0) (by omega) h.2.1.1 (by omega) ?_ (fun i e hi => ?_)
  · refine And.intro (fun hc => absurd hc (by decide)) (fun _ => ?_)
    exact h1 s _ (hk_Gm_r s) h
  refine And.intro (fun _ => ?_) (fun hc => absurd (by decide) hc)
  subst e
  have l96 : ∀ (q j : Nat) (s3 : Nat → Nat → Int32) (e f : Int32), j + q = bb → hk_Gm s s3 → hk_RI (s3 41) a bb r → hk_Rn (d + 2) none hk_c140 (hk_sfx 96 hk_c140) [some (.ref 40), some (.int (nI i)), some (.int e), some (.int f), some (.int (nI j))] [] (s3, lm, hk_RH i0 i1 b, al) k := by
    intro q
    induction q with
    | zero =>
      intro j s3 e f hj hg h3
      have e1 : j = bb := by omega
      subst e1
      refine hk_hd (n := 1000) (t := 96) rfl ?_
      refine hk_ldi (i := nI 1) (j := 1) (by simp only [hk_lit, pk_mul, nI_add]) (by omega) (by decide) h3.2.1.2.1 ?_
      refine And.intro (fun _ => ?_) (fun hc => absurd (Int32.le_refl _) hc)
      exact h1 s3 _ hg h3
    | succ q ih =>
      intro j s3 e f hj hg h3
      have a1 : ¬ nI bb ≤ nI j := hk_nlt (by omega) (by omega)
      have nx : ∀ (s4 : Nat → Nat → Int32) (u : Int32), s4 = hk_u2 s3 41 (80 + 6 * j + 5) u → hk_Rn (d + 2) none hk_c140 (hk_sfx 96 hk_c140) [some (.ref 40), some (.int (nI i)), some (.int e), some (.int f), some (.int (nI j + 1))] [] (s4, lm, hk_RH i0 i1 b, al) k := fun s4 u e4 => hk_Rn_cast (by rw [nI_1]) (ih (j + 1) s4 e f (by omega) (by rw [e4]; exact hk_Gm_u hg (by omega) (fun _ => hk_nez (by omega))) (by rw [e4]; exact hk_RI_41 h3 (by omega)))
      refine hk_hd (n := 1000) (t := 96) rfl ?_
      refine hk_ldi (i := nI 1) (j := 1) (by simp only [hk_lit, pk_mul, nI_add]) (by omega) (by decide) h3.2.1.2.1 ?_
      refine And.intro (fun hc => absurd hc a1) (fun _ => ?_)
      refine m_plateOf (c := 0) (by omega) ?_
      refine And.intro (fun c1 => ?_) (fun c1 => ?_)
      · refine m_plateOf (c := 5) (by omega) ?_
        refine hk_stn (i := 80 + 6 * nI j + 5) (j := 80 + 6 * j + 5) (by simp only [hk_lit, pk_mul, nI_add]) (by omega) (by decide) (fun s4 (hs4 : s4 = hk_u2 s3 41 (80 + 6 * j + 5) (s3 41 (80 + 6 * j + 5))) => ?_)
        exact nx s4 _ hs4
      · refine hk_stn (i := 80 + 6 * nI j + 5) (j := 80 + 6 * j + 5) (by simp only [hk_lit, pk_mul, nI_add]) (by omega) (by decide) (fun s4 (hs4 : s4 = hk_u2 s3 41 (80 + 6 * j + 5) 1) => ?_)
        exact nx s4 _ hs4
  have l19 : ∀ (q j : Nat) (e f : Int32), j + q = bb → hk_Rn (d + 2) none hk_c140 (hk_sfx 19 hk_c140) [some (.ref 40), some (.int (nI i)), some (.int e), some (.int f), some (.int (nI j))] [] (s, lm, hk_RH i0 i1 b, al) k := by
    intro q
    induction q with
    | zero =>
      intro j e f hj
      have e1 : j = bb := by omega
      subst e1
      refine hk_hd (n := 1000) (t := 19) rfl ?_
      refine hk_ldi (i := nI 1) (j := 1) (by simp only [hk_lit, pk_mul, nI_add]) (by omega) (by decide) h.2.1.2.1 ?_
      refine And.intro (fun _ => ?_) (fun hc => absurd (Int32.le_refl _) hc)
      refine m_shipOf (c := 7) (by omega) ?_
      refine And.intro (fun c1 => ?_) (fun c1 => ?_)
      · exact h1 s _ (hk_Gm_r s) h
      refine And.intro (fun c2 => ?_) (fun c2 => ?_)
      rotate_left
      · exact h1 s _ (hk_Gm_r s) h
      refine hk_stn (i := 20 + 10 * nI i + 7) (j := 20 + 10 * i + 7) (by simp only [hk_lit, pk_mul, nI_add]) (by omega) (by decide) (fun s4 (hs4 : s4 = hk_u2 s 41 (20 + 10 * i + 7) f) => ?_)
      exact l96 j 0 s4 e f (by omega) (by rw [hs4]; exact hk_Gm_u (hk_Gm_r s) (by omega) (fun _ => hk_nez (by omega))) (by rw [hs4]; exact hk_RI_41 h (by omega))
    | succ q ih =>
      intro j e f hj
      have a1 : ¬ nI bb ≤ nI j := hk_nlt (by omega) (by omega)
      refine hk_hd (n := 1000) (t := 19) rfl ?_
      refine hk_ldi (i := nI 1) (j := 1) (by simp only [hk_lit, pk_mul, nI_add]) (by omega) (by decide) h.2.1.2.1 ?_
      refine And.intro (fun hc => absurd hc a1) (fun _ => ?_)
      refine m_plateOf (c := 0) (by omega) ?_
      refine And.intro (fun c1 => ?_) (fun c1 => ?_)
      · exact hk_Rn_cast (by rw [← nI_1 j]; rfl) (ih (j + 1) _ _ (by omega))
      refine m_plateOf (c := 3) (by omega) ?_
      exact hk_Rn_cast (by rw [← nI_1 j]; rfl) (ih (j + 1) _ _ (by omega))
  exact l19 bb 0 0 0 (by omega)
theorem m_move (h : hk_RI (s 41) a bb r) (h1 : ∀ s2 u, hk_Gm s s2 → hk_RI (s2 41) a bb r → k (some (.int u)) (s2, lm, hk_RH i0 i1 b, al)) : hk_Cl (d + 3) 173 [.ref 40, .int v, .int w] (s, lm, hk_RH i0 i1 b, al) k := by
  have ha := h.1.1
  have hb := h.1.2.1
  refine hk_mth hk_m173 rfl rfl (n := 1000) ?_
  refine m_isn (c := 1) (by omega) h.2.1.2.1 (by omega) ?_ (fun p e hp => ?_)
  · refine And.intro (fun _ => ?_) (fun hc => absurd (by decide) hc)
    exact h1 s _ (hk_Gm_r s) h
  refine And.intro (fun hc => absurd hc (by decide)) (fun _ => ?_)
  refine m_isn (c := 0) (by omega) h.2.1.1 (by omega) ?_ (fun i e2 hi => ?_)
  · refine And.intro (fun _ => ?_) (fun hc => absurd (by decide) hc)
    exact h1 s _ (hk_Gm_r s) h
  refine And.intro (fun hc => absurd hc (by decide)) (fun _ => ?_)
  subst e e2
  obtain ⟨⟨i2, hi2, e3⟩, _⟩ := h.2.2.2.2.1 p hp
  refine m_plateOf (c := 0) (by omega) ?_
  refine And.intro (fun c1 => ?_) (fun c1 => ?_)
  rotate_left
  · exact h1 s _ (hk_Gm_r s) h
  refine m_shipOf (c := 6) (by omega) ?_
  refine And.intro (fun c2 => ?_) (fun c2 => ?_)
  · exact h1 s _ (hk_Gm_r s) h
  refine m_plateOf (c := 0) (by omega) ?_
  have e3' : s 41 (80 + 6 * p + 0) = nI i2 := e3
  rw [e3']
  refine m_shipOf (c := 6) (by omega) ?_
  refine And.intro (fun c3 => ?_) (fun c3 => ?_)
  rotate_left
  · exact h1 s _ (hk_Gm_r s) h
  refine hk_stn (i := 80 + 6 * nI p) (j := 80 + 6 * p) (by simp only [hk_lit, pk_mul, nI_add]) (by omega) (by decide) (fun s4 (hs4 : s4 = hk_u2 s 41 (80 + 6 * p) (nI i)) => ?_)
  refine hk_stn (i := 80 + 6 * nI p + 5) (j := 80 + 6 * p + 5) (by simp only [hk_lit, pk_mul, nI_add]) (by omega) (by decide) (fun s5 (hs5 : s5 = hk_u2 s4 41 (80 + 6 * p + 5) 0) => ?_)
  have g4 : hk_Gm s s4 := by rw [hs4]; exact hk_Gm_u (hk_Gm_r s) (by omega) (fun _ => hk_nez (by omega))
  have r4 : hk_RI (s4 41) a bb r := by rw [hs4, hk_u2f]; exact hk_RI_of h hi hp
  exact h1 s5 _ (by rw [hs5]; exact hk_Gm_u g4 (by omega) (fun _ => hk_nez (by omega))) (by rw [hs5]; exact hk_RI_41 r4 (by omega))
/-- one ship's month -/
def hk_gI (s s3 : Nat → Nat → Int32) (a bb r q : Nat) : Prop := hk_Gn s s3 ∧ hk_RI (s3 41) a bb r ∧ s3 41 7 = nI q
theorem hk_gI_u {s s3 : Nat → Nat → Int32} {a bb r q c : Nat} {u : Int32} (h : hk_gI s s3 a bb r q) (hc : (20 ≤ c ∧ c < 80 ∧ (c % 10 = 5 ∨ c % 10 = 6 ∨ c % 10 = 7)) ∨ (80 ≤ c ∧ c < 656 ∧ c % 6 ≠ 2 ∧ c % 6 ≠ 3)) : hk_gI s (hk_u2 s3 41 c u) a bb r q :=
  ⟨hk_Gn_u h.1 (by omega) (fun _ _ => hk_nez (by omega)), hk_RI_41 h.2.1 (by omega), by rw [hk_u2o (by omega)]; exact h.2.2⟩
end HKB2
