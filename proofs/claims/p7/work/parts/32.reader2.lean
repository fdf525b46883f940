/-! ===== the class's reader ends on any text: the words of its grammar ===== -/
section HKA3
variable {d L o : Nat} {v w : Int32} {s : Nat → Nat → Int32} {lm : Nat → Nat → Int64} {i0 i1 b : Nat} {al : List Nat} {k : Option Value → hk_H → Prop}
/-- a word's method ends: only the reader's own numbers change -/
def hk_RV (lm : Nat → Nat → Int64) (i0 i1 b : Nat) (al : List Nat) (e M L o : Nat) : Prop := ∀ (s : Nat → Nat → Int32) (k : Option Value → hk_H → Prop), hk_PS L s → (∀ s2 x, hk_PS L s2 → hk_R24 s s2 → k (some (.long x)) (s2, lm, hk_RH i0 i1 b, al)) → hk_Cl e M [.ref 24, .int (nI o)] (s, lm, hk_RH i0 i1 b, al) k
/-- as hk_RV, the place before the text's end -/
def hk_RW (lm : Nat → Nat → Int64) (i0 i1 b : Nat) (al : List Nat) (e M L o : Nat) : Prop := ∀ (s : Nat → Nat → Int32) (k : Option Value → hk_H → Prop), hk_PS L s → (∃ y, y < L ∧ s 24 4 = nI y) → (∀ s2 x, hk_PS L s2 → hk_R24 s s2 → k (some (.long x)) (s2, lm, hk_RH i0 i1 b, al)) → hk_Cl e M [.ref 24, .int (nI o)] (s, lm, hk_RH i0 i1 b, al) k
theorem c_inside (hL : L ≤ 60) (ho : o ≤ 8) (hV : o < 8 → hk_RV lm i0 i1 b al (d + 8) 45 L (o + 1)) : hk_RW lm i0 i1 b al (d + 9) 57 L o := by
  intro s k h ⟨y, hy, hp⟩ h1
  by_cases h8 : o < 8
  · have e1 : s 24 4 + 1 = nI (y + 1) := by rw [hp, nI_1]
    have a1 : nI o < 8 := nI_lt (b := 8) h8 (by omega)
    have h2 := hk_PS_u h (b := y + 1) (by omega)
    rw [← e1] at h2
    refine hk_mth hk_m57 rfl rfl (n := 1000) ?_
    refine And.intro (fun _ => ?_) (fun hc => absurd a1 hc)
    refine hk_Cl_arg (a2 := [.ref 24, .int (nI (o + 1))]) (by rw [← nI_1]; rfl) ?_
    refine hV h8 _ _ h2 (fun s3 u h3 hr3 => ?_)
    refine c_peek hL h3 (fun s4 x h4 hr4 ⟨y2, hy2, hp2, hx2⟩ => ?_)
    have hr := hk_R24_t (hk_R24_t (hk_R24_u (hk_R24_r s)) hr3) hr4
    refine And.intro (fun c1 => ?_) (fun c1 => ?_)
    · refine c_failA h4 (fun s5 h5 hr5 => ?_)
      exact h1 s5 u h5 (hk_R24_t hr hr5)
    · have e2 : s4 24 4 + 1 = nI (y2 + 1) := by rw [hp2, nI_1]
      have h5 := hk_PS_u h4 (b := y2 + 1) (by have := hx2 (by rw [Classical.not_not.mp c1]; decide); omega)
      rw [← e2] at h5
      exact h1 _ u h5 (hk_R24_u hr)
  · have a1 : ¬ nI o < 8 := by
      have : o = 8 := by omega
      subst this
      decide
    refine hk_mth hk_m57 rfl rfl (n := 1000) ?_
    refine And.intro (fun hc => absurd hc a1) (fun _ => ?_)
    refine c_failA h (fun s2 h2 hr => ?_)
    exact h1 s2 _ h2 hr
theorem c_core (hL : L ≤ 60) (hI : hk_RW lm i0 i1 b al (d + 9) 57 L o) : hk_RV lm i0 i1 b al (d + 10) 54 L o := by
  intro s k h h1
  refine hk_mth hk_m54 rfl rfl (n := 1000) ?_
  refine c_peek hL h (fun s2 x h2 hr ⟨y, hy, hp, hx⟩ => ?_)
  have nx : ∀ (m : Nat), x ≠ -1 → hk_wp (d + 9) none hk_c54 k (m + 60) (hk_sfx 94 hk_c54) [some (.ref 24), some (.int (nI o)), some (.int x)] [] (s2, lm, hk_RH i0 i1 b, al) := by
    intro m hx2
    have e : s2 24 4 + 1 = nI (y + 1) := by rw [hp, nI_1]
    have h3 := hk_PS_u h2 (b := y + 1) (by have := hx hx2; omega)
    rw [← e] at h3
    refine c_letter h3.1 (fun u => ?_)
    exact h1 _ u h3 (hk_R24_u hr)
  have fl : ∀ (m : Nat), hk_wp (d + 9) none hk_c54 k (m + 60) (hk_sfx 110 hk_c54) [some (.ref 24), some (.int (nI o)), some (.int x)] [] (s2, lm, hk_RH i0 i1 b, al) := by
    intro m
    refine c_failA h2 (fun s3 h3 hr3 => ?_)
    exact h1 s3 _ h3 (hk_R24_t hr hr3)
  have sw : ∀ (m : Nat), hk_wp (d + 9) none hk_c54 k (m + 70) (hk_sfx 22 hk_c54) [some (.ref 24), some (.int (nI o)), some (.int x)] [] (s2, lm, hk_RH i0 i1 b, al) := by
    intro m
    refine And.intro (fun c0 => ?_) (fun c0 => ?_)
    · exact hI s2 _ h2 ⟨y, hx (by rw [c0]; decide), hp⟩ (fun s3 u h3 hr3 => h1 s3 u h3 (hk_R24_t hr hr3))
    refine And.intro (fun c1 => ?_) (fun c1 => ?_)
    · exact nx _ (by rw [c1]; decide)
    refine And.intro (fun c2 => ?_) (fun c2 => ?_)
    · exact nx _ (by rw [c2]; decide)
    refine And.intro (fun c3 => ?_) (fun c3 => ?_)
    · exact nx _ (by rw [c3]; decide)
    refine And.intro (fun c4 => ?_) (fun c4 => ?_)
    · exact nx _ (by rw [c4]; decide)
    refine And.intro (fun c5 => ?_) (fun c5 => ?_)
    · exact nx _ (by rw [c5]; decide)
    refine And.intro (fun c6 => ?_) (fun c6 => ?_)
    · exact nx _ (by rw [c6]; decide)
    exact fl _
  refine And.intro (fun a1 => ?_) (fun a1 => ?_)
  · exact sw _
  refine And.intro (fun a2 => ?_) (fun a2 => ?_)
  · exact sw _
  exact c_digits hL h2 (fun s3 u h3 hr3 => h1 s3 u h3 (hk_R24_t hr hr3))
theorem c_unit (hL : L ≤ 60) (hC : hk_RV lm i0 i1 b al (d + 10) 54 L o) : hk_RV lm i0 i1 b al (d + 11) 50 L o := by
  intro s k h h1
  obtain ⟨g, hg, hgp⟩ := h.2.2
  have l72 : ∀ (q : Nat) (z : Int32) (s3 : Nat → Nat → Int32) (en : Int32) (u : Int64), (g + q = 0 ∧ z = -1 ∨ (∃ j, j < 100 ∧ z = nI j ∧ j + 1 = g + q) ∨ (z < nI g)) → hk_PS L s3 → hk_R24 s s3 → ∀ l3 : Int32, hk_Rn (d + 10) none hk_c50 (hk_sfx 72 hk_c50) [some (.ref 24), some (.int (nI o)), some (.int (nI g)), some (.int l3), some (.int en), some (.long u), none, some (.int z)] [] (s3, lm, hk_RH i0 i1 b, al) k := by
    intro q
    induction q with
    | zero =>
      intro z s3 en u hz h3 hr l3
      have a1 : z < nI g := by
        rcases hz with ⟨_, e⟩ | ⟨j, hj, e, hjg⟩ | e
        · subst e
          exact Int32.lt_of_lt_of_le (show (-1 : Int32) < 0 by decide) (nI_pos' (by omega))
        · subst e
          exact nI_lt (by omega) (by omega)
        · exact e
      refine hk_hd (n := 1000) (t := 72) rfl ?_
      refine And.intro (fun _ => ?_) (fun hc => absurd a1 hc)
      exact h1 s3 u h3 hr
    | succ q ih =>
      intro z s3 en u hz h3 hr l3
      by_cases a1 : z < nI g
      · refine hk_hd (n := 1000) (t := 72) rfl ?_
        refine And.intro (fun _ => ?_) (fun hc => absurd a1 hc)
        exact h1 s3 u h3 hr
      have hz2 : ∃ j, j < 100 ∧ z = nI j ∧ j + 1 = g + (q + 1) := by
        rcases hz with ⟨e, _⟩ | e | e
        · omega
        · exact e
        · exact absurd e a1
      obtain ⟨j, hj, e, hjq⟩ := hz2
      have nx : ∀ u, hk_Rn (d + 10) none hk_c50 (hk_sfx 72 hk_c50) [some (.ref 24), some (.int (nI o)), some (.int (nI g)), some (.int l3), some (.int en), some (.long u), none, some (.int (z + -1))] [] (s3, lm, hk_RH i0 i1 b, al) k := by
        intro u
        refine ih (z + -1) s3 en u ?_ h3 hr l3
        subst e
        cases j with
        | zero => exact Or.inl ⟨by omega, by decide⟩
        | succ j => exact Or.inr (Or.inl ⟨j, by omega, pk_m1 j, by omega⟩)
      refine hk_hd (n := 1000) (t := 72) rfl ?_
      refine And.intro (fun hc => absurd hc a1) (fun _ => ?_)
      refine c_signAt h3.1 (fun x => ?_)
      refine And.intro (fun c1 => ?_) (fun c1 => ?_)
      · refine c_signAt h3.1 (fun x => ?_)
        refine And.intro (fun c2 => ?_) (fun c2 => ?_)
        · exact nx _
        · exact nx _
      · refine And.intro (fun c2 => ?_) (fun c2 => ?_)
        · exact nx _
        · exact nx _
  have l13 : ∀ (q j : Nat) (s3 : Nat → Nat → Int32) (x : Int32), j + q = 60 → hk_PS L s3 → hk_R24 s s3 → (∃ y, y ≤ L ∧ s3 24 4 = nI y ∧ (x ≠ -1 → y < L)) → hk_Rn (d + 10) none hk_c50 (hk_sfx 13 hk_c50) [some (.ref 24), some (.int (nI o)), some (.int (nI g)), some (.int x), some (.int (nI j)), none, none, none] [] (s3, lm, hk_RH i0 i1 b, al) k := by
    have fin : ∀ (m : Nat) (s3 : Nat → Nat → Int32) (l3 : Int32) (l4 : Option Value), hk_PS L s3 → hk_R24 s s3 → hk_wp (d + 10) none hk_c50 k (m + 60) (hk_sfx 53 hk_c50) [some (.ref 24), some (.int (nI o)), some (.int (nI g)), some (.int l3), l4, none, none, none] [] (s3, lm, hk_RH i0 i1 b, al) := by
      intro m s3 l3 l4 h3 hr
      obtain ⟨y, hy, hyp⟩ := h3.2.2
      refine hC s3 _ h3 (fun s4 u h4 hr4 => ?_)
      refine l72 (y - g) (s3 24 4 - 1) s4 (s3 24 4) u ?_ h4 (hk_R24_t hr hr4) l3
      rw [hyp]
      by_cases e : y < g
      · refine Or.inr (Or.inr ?_)
        cases y with
        | zero => exact Int32.lt_of_lt_of_le (show nI 0 - 1 < 0 by decide) (nI_pos' (by omega))
        | succ y => rw [nI_pred]; exact nI_lt (by omega) (by omega)
      · cases y with
        | zero => exact Or.inl ⟨by omega, by decide⟩
        | succ y => exact Or.inr (Or.inl ⟨y, by omega, nI_pred y, by omega⟩)
    intro q
    induction q with
    | zero =>
      intro j s3 x hj h3 hr hx
      have e : j = 60 := by omega
      subst e
      refine hk_hd (n := 1000) (t := 13) rfl ?_
      refine And.intro (fun _ => ?_) (fun hc => absurd (show (60 : Int32) ≤ nI 60 by decide) hc)
      exact fin _ s3 _ _ h3 hr
    | succ q ih =>
      intro j s3 x hj h3 hr hx
      have a1 : ¬ nI 60 ≤ nI j := hk_nlt (by omega) (by omega)
      obtain ⟨y, hy, hyp, hx⟩ := hx
      have nx : ∀ m, x ≠ -1 → hk_wp (d + 10) none hk_c50 k (m + 60) (hk_sfx 32 hk_c50) [some (.ref 24), some (.int (nI o)), some (.int (nI g)), some (.int x), some (.int (nI j)), none, none, none] [] (s3, lm, hk_RH i0 i1 b, al) := by
        intro m hx2
        have e : s3 24 4 + 1 = nI (y + 1) := by rw [hyp, nI_1]
        have h4 := hk_PS_u h3 (b := y + 1) (by have := hx hx2; omega)
        rw [← e] at h4
        refine c_peek hL h4 (fun s5 x2 h5 hr5 hx5 => ?_)
        exact hk_Rn_cast (by rw [← nI_1]; rfl) (ih (j + 1) s5 x2 (by omega) h5 (hk_R24_t (hk_R24_u hr) hr5) hx5)
      refine hk_hd (n := 1000) (t := 13) rfl ?_
      refine And.intro (fun hc => absurd hc a1) (fun _ => ?_)
      refine And.intro (fun c1 => ?_) (fun c1 => ?_)
      · exact nx _ (by rw [c1]; decide)
      refine And.intro (fun c2 => ?_) (fun c2 => ?_)
      · exact fin _ s3 _ _ h3 hr
      · exact nx _ (by rw [Classical.not_not.mp c2]; decide)
  refine hk_mth hk_m50 rfl rfl (n := 1000) ?_
  refine c_peek hL h (fun s2 x h2 hr hx => ?_)
  refine hk_Rn_cast (L2 := [some (.ref 24), some (.int (nI o)), some (.int (nI g)), some (.int x), some (.int (nI 0)), none, none, none]) ?_ (l13 60 0 s2 x (by omega) h2 hr hx)
  show [some (Value.ref 24), some (.int (nI o)), some (.int (s 24 4)), some (.int x), some (.int 0), none, none, none] = _
  rw [hgp]
  rfl
theorem c_term (hL : L ≤ 60) (hU : hk_RV lm i0 i1 b al (d + 11) 50 L o) : hk_RV lm i0 i1 b al (d + 12) 49 L o := by
  intro s k h h1
  have l15 : ∀ (q j : Nat) (s3 : Nat → Nat → Int32) (x : Int32) (u : Int64) (l6 l7 : Option Value), j + q = 60 → hk_PS L s3 → hk_R24 s s3 → (∃ y, y ≤ L ∧ s3 24 4 = nI y ∧ (x ≠ -1 → y < L)) → hk_Rn (d + 11) none hk_c49 (hk_sfx 15 hk_c49) [some (.ref 24), some (.int (nI o)), some (.long u), none, some (.int x), some (.int (nI j)), l6, l7] [] (s3, lm, hk_RH i0 i1 b, al) k := by
    intro q
    induction q with
    | zero =>
      intro j s3 x u l6 l7 hj h3 hr hx
      have e : j = 60 := by omega
      subst e
      refine hk_hd (n := 1000) (t := 15) rfl ?_
      refine And.intro (fun _ => ?_) (fun hc => absurd (show (60 : Int32) ≤ nI 60 by decide) hc)
      exact h1 s3 u h3 hr
    | succ q ih =>
      intro j s3 x u l6 l7 hj h3 hr hx
      have a1 : ¬ nI 60 ≤ nI j := hk_nlt (by omega) (by omega)
      obtain ⟨y, hy, hyp, hx⟩ := hx
      have pk : ∀ (m : Nat) (s4 : Nat → Nat → Int32) (w u : Int64), hk_PS L s4 → hk_R24 s s4 → hk_wp (d + 11) none hk_c49 k (m + 60) (hk_sfx 83 hk_c49) [some (.ref 24), some (.int (nI o)), some (.long u), none, some (.int x), some (.int (nI j)), some (.long w), none] [] (s4, lm, hk_RH i0 i1 b, al) := by
        intro m s4 w u h4 hr4
        refine c_peek hL h4 (fun s5 x2 h5 hr5 hx5 => ?_)
        exact hk_Rn_cast (by rw [← nI_1]; rfl) (ih (j + 1) s5 x2 u (some (.long w)) none (by omega) h5 (hk_R24_t hr4 hr5) hx5)
      have nx : ∀ m, x ≠ -1 → hk_wp (d + 11) none hk_c49 k (m + 160) (hk_sfx 36 hk_c49) [some (.ref 24), some (.int (nI o)), some (.long u), none, some (.int x), some (.int (nI j)), l6, l7] [] (s3, lm, hk_RH i0 i1 b, al) := by
        intro m hx2
        have e : s3 24 4 + 1 = nI (y + 1) := by rw [hyp, nI_1]
        have h4 := hk_PS_u h3 (b := y + 1) (by have := hx hx2; omega)
        rw [← e] at h4
        refine hU _ _ h4 (fun s5 w h5 hr5 => ?_)
        have hr6 := hk_R24_t (hk_R24_u hr) hr5
        refine And.intro (fun c3 => ?_) (fun c3 => ?_)
        · refine And.intro (fun c4 => ?_) (fun _ => ?_)
          · refine And.intro (fun h => c4 (by rw [show w = 0 from h]; exact hk_lc0 0)) ?_
            exact pk _ s5 w _ h5 hr6
          · exact pk _ s5 w _ h5 hr6
        · exact pk _ s5 w _ h5 hr6
      refine hk_hd (n := 1000) (t := 15) rfl ?_
      refine And.intro (fun hc => absurd hc a1) (fun _ => ?_)
      refine And.intro (fun c1 => ?_) (fun c1 => ?_)
      · exact nx _ (by rw [c1]; decide)
      refine And.intro (fun c2 => ?_) (fun c2 => ?_)
      · exact h1 s3 u h3 hr
      · exact nx _ (by rw [Classical.not_not.mp c2]; decide)
  refine hk_mth hk_m49 rfl rfl (n := 1000) ?_
  refine hU s _ h (fun s2 u h2 hr => ?_)
  refine c_peek hL h2 (fun s3 x h3 hr3 hx => ?_)
  exact l15 60 0 s3 x u none none (by omega) h3 (hk_R24_t hr hr3) hx
theorem c_sum (hL : L ≤ 60) (hU : hk_RV lm i0 i1 b al (d + 12) 49 L o) : hk_RV lm i0 i1 b al (d + 13) 48 L o := by
  intro s k h h1
  have l15 : ∀ (q j : Nat) (s3 : Nat → Nat → Int32) (x : Int32) (u : Int64) (l6 l7 : Option Value), j + q = 60 → hk_PS L s3 → hk_R24 s s3 → (∃ y, y ≤ L ∧ s3 24 4 = nI y ∧ (x ≠ -1 → y < L)) → hk_Rn (d + 12) none hk_c48 (hk_sfx 15 hk_c48) [some (.ref 24), some (.int (nI o)), some (.long u), none, some (.int x), some (.int (nI j)), l6, l7] [] (s3, lm, hk_RH i0 i1 b, al) k := by
    intro q
    induction q with
    | zero =>
      intro j s3 x u l6 l7 hj h3 hr hx
      have e : j = 60 := by omega
      subst e
      refine hk_hd (n := 1000) (t := 15) rfl ?_
      refine And.intro (fun _ => ?_) (fun hc => absurd (show (60 : Int32) ≤ nI 60 by decide) hc)
      exact h1 s3 u h3 hr
    | succ q ih =>
      intro j s3 x u l6 l7 hj h3 hr hx
      have a1 : ¬ nI 60 ≤ nI j := hk_nlt (by omega) (by omega)
      obtain ⟨y, hy, hyp, hx⟩ := hx
      have pk : ∀ (m : Nat) (s4 : Nat → Nat → Int32) (w u : Int64), hk_PS L s4 → hk_R24 s s4 → hk_wp (d + 12) none hk_c48 k (m + 60) (hk_sfx 72 hk_c48) [some (.ref 24), some (.int (nI o)), some (.long u), none, some (.int x), some (.int (nI j)), some (.long w), none] [] (s4, lm, hk_RH i0 i1 b, al) := by
        intro m s4 w u h4 hr4
        refine c_peek hL h4 (fun s5 x2 h5 hr5 hx5 => ?_)
        exact hk_Rn_cast (by rw [← nI_1]; rfl) (ih (j + 1) s5 x2 u (some (.long w)) none (by omega) h5 (hk_R24_t hr4 hr5) hx5)
      have nx : ∀ m, x ≠ -1 → hk_wp (d + 12) none hk_c48 k (m + 160) (hk_sfx 36 hk_c48) [some (.ref 24), some (.int (nI o)), some (.long u), none, some (.int x), some (.int (nI j)), l6, l7] [] (s3, lm, hk_RH i0 i1 b, al) := by
        intro m hx2
        have e : s3 24 4 + 1 = nI (y + 1) := by rw [hyp, nI_1]
        have h4 := hk_PS_u h3 (b := y + 1) (by have := hx hx2; omega)
        rw [← e] at h4
        refine hU _ _ h4 (fun s5 w h5 hr5 => ?_)
        have hr6 := hk_R24_t (hk_R24_u hr) hr5
        refine And.intro (fun c3 => ?_) (fun c3 => ?_)
        · exact pk _ s5 w _ h5 hr6
        · exact pk _ s5 w _ h5 hr6
      refine hk_hd (n := 1000) (t := 15) rfl ?_
      refine And.intro (fun hc => absurd hc a1) (fun _ => ?_)
      refine And.intro (fun c1 => ?_) (fun c1 => ?_)
      · exact nx _ (by rw [c1]; decide)
      refine And.intro (fun c2 => ?_) (fun c2 => ?_)
      · exact h1 s3 u h3 hr
      · exact nx _ (by rw [Classical.not_not.mp c2]; decide)
  refine hk_mth hk_m48 rfl rfl (n := 1000) ?_
  refine hU s _ h (fun s2 u h2 hr => ?_)
  refine c_peek hL h2 (fun s3 x h3 hr3 hx => ?_)
  exact l15 60 0 s3 x u none none (by omega) h3 (hk_R24_t hr hr3) hx
theorem c_held (hL : L ≤ 60) (hU : hk_RV lm i0 i1 b al (d + 13) 48 L o) : hk_RV lm i0 i1 b al (d + 14) 47 L o := by
  intro s k h h1
  refine hk_mth hk_m47 rfl rfl (n := 1000) ?_
  refine hU s _ h (fun s2 u h2 hr => ?_)
  refine c_peek hL h2 (fun s3 x h3 hr3 ⟨y, hy, hyp, hx⟩ => ?_)
  have nx : ∀ m, x ≠ -1 → hk_wp (d + 13) none hk_c47 k (m + 160) (hk_sfx 35 hk_c47) [some (.ref 24), some (.int (nI o)), some (.long u), none, some (.int x), none, none, none] [] (s3, lm, hk_RH i0 i1 b, al) := by
    intro m hx2
    have e : s3 24 4 + 1 = nI (y + 1) := by rw [hyp, nI_1]
    have h4 := hk_PS_u h3 (b := y + 1) (by have := hx hx2; omega)
    rw [← e] at h4
    refine hU _ _ h4 (fun s5 w h5 hr5 => ?_)
    have fin := fun u => h1 s5 u h5 (hk_R24_t (hk_R24_u (hk_R24_t hr hr3)) hr5)
    refine And.intro (fun c3 => ?_) (fun c3 => ?_)
    · refine And.intro (fun c4 => ?_) (fun c4 => ?_)
      · refine And.intro (fun c5 => ?_) (fun c5 => ?_)
        · refine And.intro (fun _ => ?_) (fun hc => absurd (by decide) hc)
          exact fin _
        · refine And.intro (fun hc => absurd hc (by decide)) (fun _ => ?_)
          exact fin _
      · refine And.intro (fun c5 => ?_) (fun c5 => ?_)
        · refine And.intro (fun _ => ?_) (fun hc => absurd (by decide) hc)
          exact fin _
        · refine And.intro (fun hc => absurd hc (by decide)) (fun _ => ?_)
          exact fin _
    · refine And.intro (fun c5 => ?_) (fun c5 => ?_)
      · refine And.intro (fun _ => ?_) (fun hc => absurd (by decide) hc)
        exact fin _
      · refine And.intro (fun hc => absurd hc (by decide)) (fun _ => ?_)
        exact fin _
  refine And.intro (fun c1 => ?_) (fun c1 => ?_)
  · exact nx _ (by rw [c1]; decide)
  refine And.intro (fun c1 => ?_) (fun c1 => ?_)
  · exact nx _ (by rw [c1]; decide)
  refine And.intro (fun c1 => ?_) (fun c1 => ?_)
  · exact nx _ (by rw [c1]; decide)
  exact h1 s3 u h3 (hk_R24_t hr hr3)
theorem c_both (hL : L ≤ 60) (hU : hk_RV lm i0 i1 b al (d + 14) 47 L o) : hk_RV lm i0 i1 b al (d + 15) 46 L o := by
  intro s k h h1
  have l9 : ∀ (q j : Nat) (s3 : Nat → Nat → Int32) (u : Int64) (l5 l6 : Option Value), j + q = 60 → hk_PS L s3 → hk_R24 s s3 → hk_Rn (d + 14) none hk_c46 (hk_sfx 9 hk_c46) [some (.ref 24), some (.int (nI o)), some (.long u), none, some (.int (nI j)), l5, l6] [] (s3, lm, hk_RH i0 i1 b, al) k := by
    intro q
    induction q with
    | zero =>
      intro j s3 u l5 l6 hj h3 hr
      have e : j = 60 := by omega
      subst e
      refine hk_hd (n := 1000) (t := 9) rfl ?_
      refine And.intro (fun _ => ?_) (fun hc => absurd (show (60 : Int32) ≤ nI 60 by decide) hc)
      exact h1 s3 u h3 hr
    | succ q ih =>
      intro j s3 u l5 l6 hj h3 hr
      have a1 : ¬ nI 60 ≤ nI j := hk_nlt (by omega) (by omega)
      refine hk_hd (n := 1000) (t := 9) rfl ?_
      refine And.intro (fun hc => absurd hc a1) (fun _ => ?_)
      refine c_peek hL h3 (fun s4 x h4 hr4 ⟨y, hy, hyp, hx⟩ => ?_)
      refine And.intro (fun c1 => ?_) (fun c1 => ?_)
      · exact h1 s4 u h4 (hk_R24_t hr hr4)
      have hx2 : x ≠ -1 := by rw [Classical.not_not.mp c1]; decide
      have e : s4 24 4 + 1 = nI (y + 1) := by rw [hyp, nI_1]
      have h5 := hk_PS_u h4 (b := y + 1) (by have := hx hx2; omega)
      rw [← e] at h5
      refine hU _ _ h5 (fun s6 w h6 hr6 => ?_)
      have nx : ∀ u, hk_Rn (d + 14) none hk_c46 (hk_sfx 9 hk_c46) [some (.ref 24), some (.int (nI o)), some (.long u), none, some (.int (nI j + 1)), some (.long w), none] [] (s6, lm, hk_RH i0 i1 b, al) k := fun u => hk_Rn_cast (by rw [nI_1]) (ih (j + 1) s6 u (some (.long w)) none (by omega) h6 (hk_R24_t (hk_R24_u (hk_R24_t hr hr4)) hr6))
      refine And.intro (fun c2 => ?_) (fun c2 => ?_)
      · exact nx _
      refine And.intro (fun c3 => ?_) (fun c3 => ?_)
      · exact nx _
      · exact nx _
  refine hk_mth hk_m46 rfl rfl (n := 1000) ?_
  refine hU s _ h (fun s2 u h2 hr => ?_)
  exact l9 60 0 s2 u none none (by omega) h2 hr
theorem c_value (hL : L ≤ 60) (hU : hk_RV lm i0 i1 b al (d + 15) 46 L o) : hk_RV lm i0 i1 b al (d + 16) 45 L o := by
  intro s k h h1
  have l9 : ∀ (q j : Nat) (s3 : Nat → Nat → Int32) (u : Int64) (l5 l6 : Option Value), j + q = 60 → hk_PS L s3 → hk_R24 s s3 → hk_Rn (d + 15) none hk_c45 (hk_sfx 9 hk_c45) [some (.ref 24), some (.int (nI o)), some (.long u), none, some (.int (nI j)), l5, l6] [] (s3, lm, hk_RH i0 i1 b, al) k := by
    intro q
    induction q with
    | zero =>
      intro j s3 u l5 l6 hj h3 hr
      have e : j = 60 := by omega
      subst e
      refine hk_hd (n := 1000) (t := 9) rfl ?_
      refine And.intro (fun _ => ?_) (fun hc => absurd (show (60 : Int32) ≤ nI 60 by decide) hc)
      exact h1 s3 u h3 hr
    | succ q ih =>
      intro j s3 u l5 l6 hj h3 hr
      have a1 : ¬ nI 60 ≤ nI j := hk_nlt (by omega) (by omega)
      refine hk_hd (n := 1000) (t := 9) rfl ?_
      refine And.intro (fun hc => absurd hc a1) (fun _ => ?_)
      refine c_peek hL h3 (fun s4 x h4 hr4 ⟨y, hy, hyp, hx⟩ => ?_)
      refine And.intro (fun c1 => ?_) (fun c1 => ?_)
      · exact h1 s4 u h4 (hk_R24_t hr hr4)
      have hx2 : x ≠ -1 := by rw [Classical.not_not.mp c1]; decide
      have e : s4 24 4 + 1 = nI (y + 1) := by rw [hyp, nI_1]
      have h5 := hk_PS_u h4 (b := y + 1) (by have := hx hx2; omega)
      rw [← e] at h5
      refine hU _ _ h5 (fun s6 w h6 hr6 => ?_)
      have nx : ∀ u, hk_Rn (d + 15) none hk_c45 (hk_sfx 9 hk_c45) [some (.ref 24), some (.int (nI o)), some (.long u), none, some (.int (nI j + 1)), some (.long w), none] [] (s6, lm, hk_RH i0 i1 b, al) k := fun u => hk_Rn_cast (by rw [nI_1]) (ih (j + 1) s6 u (some (.long w)) none (by omega) h6 (hk_R24_t (hk_R24_u (hk_R24_t hr hr4)) hr6))
      refine And.intro (fun c2 => ?_) (fun c2 => ?_)
      · exact nx _
      refine And.intro (fun c3 => ?_) (fun c3 => ?_)
      · exact nx _
      · exact nx _
  refine hk_mth hk_m45 rfl rfl (n := 1000) ?_
  refine hU s _ h (fun s2 u h2 hr => ?_)
  exact l9 60 0 s2 u none none (by omega) h2 hr
theorem c_valueA (hL : L ≤ 60) : ∀ (g o : Nat), o + g = 8 → ∀ d, hk_RV lm i0 i1 b al (d + 8 * g + 16) 45 L o := by
  intro g
  induction g with
  | zero =>
    intro o ho d
    exact c_value hL (c_both hL (c_held hL (c_sum hL (c_term hL (c_unit hL (c_core hL (c_inside hL (by omega) (fun h => absurd h (by omega)))))))))
  | succ g ih =>
    intro o ho d
    have h := ih (o + 1) (by omega) d
    exact c_value (d := d + 8 * g + 8) hL (c_both hL (c_held hL (c_sum hL (c_term hL (c_unit hL (c_core hL (c_inside (d := d + 8 * g + 8) hL (by omega) (fun _ => h))))))))
/-- all texts have 60 signs at most -/
def hk_TL (s : Nat → Nat → Int32) : Prop := ∀ j, j < 4 → ∃ m, m ≤ 60 ∧ s 11 (j * 61) = nI m
theorem c_getlen (hw : hk_TW s) (hl : hk_TL s) (h1 : ∀ m, m ≤ 60 → k (some (.int (nI m))) (s, lm, hk_RH i0 i1 b, al)) : hk_Cl (d + 1) 16 [.ref 10, .int v, .int 0] (s, lm, hk_RH i0 i1 b, al) k := by
  have ht : hk_tb 10 := by simp [hk_tb]
  by_cases hv : v < 0 ∨ s 10 3 ≤ v
  · exact c_get_out ht hv (h1 0 (by omega))
  obtain ⟨j, hj, rfl⟩ := nI_of (x := v) (fun q => hv (Or.inl q))
  have c : ¬ s 10 3 ≤ nI j := fun q => hv (Or.inr q)
  rw [hw.2.2.2.2.1, nI_leI (by omega) hj] at c
  obtain ⟨m, hm, e⟩ := hl j (by omega)
  refine c_get_in ht hw.2.2 (by omega) (j := 0) (by decide) ?_
  have e2 : s (10 + 1) (j * hk_co 10 + 0) = nI m := e
  rw [e2]
  exact h1 m hm
theorem c_tell (hw : hk_TW s) (hl : hk_TL s) (h1 : ∀ s2 x, hk_R24 s s2 → k (some (.long x)) (s2, lm, hk_RH i0 i1 b, al)) : hk_Cl (d + 81) 44 [.ref 24, .int v, .int w] (s, lm, hk_RH i0 i1 b, al) k := by
  have hw2 : hk_TW (hk_u2 (hk_u2 s 24 1 v) 24 2 w) := hk_TW_u (hk_TW_u hw hk_ntb24) hk_ntb24
  have hl2 : hk_TL (hk_u2 (hk_u2 s 24 1 v) 24 2 w) := fun j hj => (hl j hj).elim fun m h => ⟨m, h.1, by rw [hk_u2o (by omega), hk_u2o (by omega)]; exact h.2⟩
  refine hk_mth hk_m44 rfl rfl (n := 1000) ?_
  refine c_getlen hw2 hl2 (fun L hL => ?_)
  have hp : hk_PS L (hk_u2 (hk_u2 (hk_u2 (hk_u2 (hk_u2 s 24 1 v) 24 2 w) 24 3 (nI L)) 24 4 0) 24 5 (-1)) := ⟨hk_TW_u (hk_TW_u (hk_TW_u hw2 hk_ntb24) hk_ntb24) hk_ntb24, by rw [hk_u2o (by omega), hk_u2o (by omega), hk_u2s], 0, by omega, by rw [hk_u2o (by omega), hk_u2s]; rfl⟩
  have hr : hk_R24 s (hk_u2 (hk_u2 (hk_u2 (hk_u2 (hk_u2 s 24 1 v) 24 2 w) 24 3 (nI L)) 24 4 0) 24 5 (-1)) := hk_R24_u (hk_R24_u (hk_R24_u (hk_R24_u (hk_R24_u (hk_R24_r s)))))
  refine c_valueA hL 8 0 (by omega) d _ _ hp (fun s3 u h3 hr3 => ?_)
  refine c_peek hL h3 (fun s4 x h4 hr4 _ => ?_)
  have hrr := hk_R24_t (hk_R24_t hr hr3) hr4
  refine And.intro (fun c1 => ?_) (fun c1 => ?_)
  · refine c_hasFlaw (fun e => ?_) (fun e => ?_)
    · refine And.intro (fun _ => ?_) (fun hc => absurd (by decide) hc)
      exact h1 s4 _ hrr
    · refine And.intro (fun hc => absurd hc (by decide)) (fun _ => ?_)
      exact h1 s4 _ hrr
  refine c_failA h4 (fun s5 h5 hr5 => ?_)
  refine c_hasFlaw (fun e => ?_) (fun e => ?_)
  · refine And.intro (fun _ => ?_) (fun hc => absurd (by decide) hc)
    exact h1 s5 _ (hk_R24_t hrr hr5)
  · refine And.intro (fun hc => absurd hc (by decide)) (fun _ => ?_)
    exact h1 s5 _ (hk_R24_t hrr hr5)
theorem c_isTrue (hw : hk_TW s) (hl : hk_TL s) (h1 : ∀ s2 x, x = 0 ∨ x = 1 → hk_R24 s s2 → k (some (.int x)) (s2, lm, hk_RH i0 i1 b, al)) : hk_Cl (d + 82) 43 [.ref 24, .int v, .int w] (s, lm, hk_RH i0 i1 b, al) k := by
  refine hk_mth hk_m43 rfl rfl (n := 1000) ?_
  refine c_tell hw hl (fun s2 x hr => ?_)
  refine And.intro (fun c1 => ?_) (fun c1 => ?_)
  · exact And.intro (Or.inl rfl) (h1 s2 _ (Or.inl rfl) hr)
  · exact And.intro (Or.inr rfl) (h1 s2 _ (Or.inr rfl) hr)
theorem c_flawOf (hw : hk_TW s) (hl : hk_TL s) (h1 : ∀ s2 x, hk_R24 s s2 → k (some (.int x)) (s2, lm, hk_RH i0 i1 b, al)) : hk_Cl (d + 82) 74 [.ref 24, .int v] (s, lm, hk_RH i0 i1 b, al) k := by
  refine hk_mth hk_m74 rfl rfl (n := 1000) ?_
  refine c_tell hw hl (fun s2 x hr => ?_)
  exact h1 s2 _ hr
end HKA3
