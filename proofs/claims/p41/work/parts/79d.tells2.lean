/-! ===== the reference tells; tells, unlike agree ===== -/
theorem hk_clp {x : Int32} {m : Nat} (hm : 0 < m) (hm2 : m < 2 ^ 31) (e : x.toNatClampNeg = m) : x = nI m := by
  by_cases h : x < 0
  · have h2 := Int32.lt_iff_toInt_lt.mp h
    rw [show (0 : Int32).toInt = 0 from rfl] at h2
    have h3 : x.toNatClampNeg = x.toInt.toNat := rfl
    omega
  · obtain ⟨j, hj, rfl⟩ := nI_of h
    rw [nI_clamp hj] at e
    rw [e]
theorem hk_ev_len {nm : Int32 → Int64} {g e : Nat → Int32} : ∀ (j q : Nat), j < 2 ^ 31 → hk_vh g j = some q → (hk_ev nm g e j).length = q
  | 0, q, _, h => by cases h; rfl
  | j + 1, q, hj, h => by
    rw [hk_vh] at h
    cases h2 : hk_vh g j with
    | none => rw [h2] at h; cases h
    | some q2 =>
      have ih : (hk_ev nm g e j).length = q2 := hk_ev_len j q2 (by omega) h2
      rw [h2] at h
      simp only [Option.bind_some] at h
      rw [hk_ev]
      by_cases c0 : g j = 0
      · rw [if_pos (Or.inl c0)] at h
        cases h
        rw [if_pos c0, List.length_cons, ih]
      rw [if_neg c0]
      by_cases c1 : g j = 1
      · rw [if_pos (Or.inr c1)] at h
        cases h
        rw [if_pos c1, List.length_cons, ih]
      rw [if_neg (fun q => q.elim c0 c1)] at h
      rw [if_neg c1]
      by_cases c2 : g j = 2
      · rw [if_pos (Or.inl c2)] at h
        by_cases hq : 1 ≤ q2
        · rw [if_pos hq] at h
          cases h
          cases e2 : hk_ev nm g e j with
          | nil => rw [e2] at ih; simp at ih; omega
          | cons x V => rw [e2] at ih; rw [c2, show (2 : Int32).toNatClampNeg = 2 from rfl, hk_ap_not, ← ih]; rfl
        · rw [if_neg hq] at h; cases h
      by_cases c3 : g j = 3
      · rw [if_pos (Or.inr c3)] at h
        by_cases hq : 1 ≤ q2
        · rw [if_pos hq] at h
          cases h
          cases e2 : hk_ev nm g e j with
          | nil => rw [e2] at ih; simp at ih; omega
          | cons x V => rw [e2] at ih; rw [c3, show (3 : Int32).toNatClampNeg = 3 from rfl, hk_ap_neg, ← ih]; rfl
        · rw [if_neg hq] at h; cases h
      rw [if_neg (fun q => q.elim c2 c3)] at h
      by_cases hq : 2 ≤ q2
      · rw [if_pos hq] at h
        cases h
        cases e2 : hk_ev nm g e j with
        | nil => rw [e2] at ih; simp at ih; omega
        | cons x V =>
          cases V with
          | nil => rw [e2] at ih; simp at ih; omega
          | cons y V =>
            rw [e2] at ih
            simp at ih
            rw [hk_ap, if_neg (fun q => c2 (hk_clp (m := 2) (by decide) (by decide) q)), if_neg (fun q => c3 (hk_clp (m := 3) (by decide) (by decide) q)), List.length_cons]
            omega
      · rw [if_neg hq] at h; cases h
theorem hk_two_or {m : Nat} {x y : Int64} (h : m ≠ 4 ∧ m ≠ 5 ∧ m ≠ 6 ∧ m ≠ 7 ∧ m ≠ 8 ∧ m ≠ 9 ∧ m ≠ 10 ∧ m ≠ 11) : hk_two m x y = if ¬ x = 0 ∨ ¬ y = 0 then 1 else 0 := by
  unfold hk_two
  split
  all_goals first | (exfalso; omega) | rfl
section HKEK0
variable {d n : Nat} {scr : Option (Nat × (Nat → Int32))} {cd cs : List hk_E} {L : hk_L} {st : List Value} {k : Option Value → hk_H → Prop} {s : Nat → Nat → Int32} {lm : Nat → Nat → Int64} {h2 : (Nat → Nat → Nat) × List Nat}
theorem hk_stJ {i : Int32} {x : Int64} {j N p : Nat} (e : i = nI j) (hj : j < N) (hN : N < 2 ^ 31) (h : hk_wp d scr cd k n cs L st (s, hk_uJ lm p j x, h2)) : vp_in i N ∧ hk_wp d scr cd k n cs L st (s, hk_uJ lm p i.toNatClampNeg x, h2) := by
  subst e
  rw [nI_clamp (by omega)]
  exact ⟨vp_in_nI hj hN, h⟩
theorem hk_ldJ {i : Int32} {v : Int64} {j N p : Nat} (e : i = nI j) (hj : j < N) (hN : N < 2 ^ 31) (hv : lm p j = v) (h : hk_wp d scr cd k n cs L (.long v :: st) (s, lm, h2)) : vp_in i N ∧ hk_wp d scr cd k n cs L (.long (lm p i.toNatClampNeg) :: st) (s, lm, h2) := by
  subst e hv
  rw [nI_clamp (by omega)]
  exact ⟨vp_in_nI hj hN, h⟩
end HKEK0
section HKEK
variable {d n a bb r t p : Nat} {v w x y z : Int32} {s : Nat → Nat → Int32} {lm : Nat → Nat → Int64} {i0 i1 b : Nat} {al : List Nat} {K : Option Value → hk_H → Prop} {f : Nat → Int32}
theorem m_twoOfX {u1 u2 : Int64} {hp : hk_H} (h1 : K (some (.long (hk_two w.toNatClampNeg u1 u2))) hp) : hk_Cl (d + 1) 172 [.int w, .long u1, .long u2] hp K := by
  refine hk_mth hk_m172 rfl rfl (n := 1000) ?_
  refine And.intro (fun c4 => ?_) (fun c4 => ?_)
  · have c4 : w = 4 := c4
    subst c4
    exact h1
  have c4 : ¬ w = 4 := c4
  refine And.intro (fun c5 => ?_) (fun c5 => ?_)
  · have c5 : w = 5 := c5
    subst c5
    have h1 : K (some (.long (if u2 = 0 then 0 else u1 / u2))) hp := h1
    refine And.intro (fun c1 => ?_) (fun c1 => ?_)
    · have c1 : ¬ lg_cmp u2 0 = 0 := c1
      have hu : ¬ u2 = 0 := fun q => c1 ((hk_cm0 u2 0).mpr q)
      rw [if_neg hu] at h1
      refine And.intro hu ?_
      exact h1
    · have c1 : ¬ ¬ lg_cmp u2 0 = 0 := c1
      rw [if_pos ((hk_cm0 u2 0).mp (Classical.not_not.mp c1))] at h1
      exact h1
  have c5 : ¬ w = 5 := c5
  refine And.intro (fun c6 => ?_) (fun c6 => ?_)
  · have c6 : w = 6 := c6
    subst c6
    exact h1
  have c6 : ¬ w = 6 := c6
  refine And.intro (fun c7 => ?_) (fun c7 => ?_)
  · have c7 : w = 7 := c7
    subst c7
    exact h1
  have c7 : ¬ w = 7 := c7
  refine And.intro (fun c8 => ?_) (fun c8 => ?_)
  · have c8 : w = 8 := c8
    subst c8
    have h1 : K (some (.long (if u1 < u2 then 1 else 0))) hp := h1
    refine And.intro (fun c1 => ?_) (fun c1 => ?_)
    · have c1 : 0 ≤ lg_cmp u1 u2 := c1
      rw [if_neg (fun q => absurd ((lg_cmp_ge u1 u2).mp c1) (Int64.not_le.mpr q))] at h1
      exact h1
    · have c1 : ¬ 0 ≤ lg_cmp u1 u2 := c1
      rw [if_pos (Int64.not_le.mp (fun q => c1 ((lg_cmp_ge u1 u2).mpr q)))] at h1
      exact h1
  have c8 : ¬ w = 8 := c8
  refine And.intro (fun c9 => ?_) (fun c9 => ?_)
  · have c9 : w = 9 := c9
    subst c9
    have h1 : K (some (.long (if u2 < u1 then 1 else 0))) hp := h1
    refine And.intro (fun c1 => ?_) (fun c1 => ?_)
    · have c1 : lg_cmp u1 u2 ≤ 0 := c1
      rw [if_neg (fun q => absurd ((lg_cmp_le u1 u2).mp c1) (Int64.not_le.mpr q))] at h1
      exact h1
    · have c1 : ¬ lg_cmp u1 u2 ≤ 0 := c1
      rw [if_pos (Int64.not_le.mp (fun q => c1 ((lg_cmp_le u1 u2).mpr q)))] at h1
      exact h1
  have c9 : ¬ w = 9 := c9
  refine And.intro (fun c10 => ?_) (fun c10 => ?_)
  · have c10 : w = 10 := c10
    subst c10
    have h1 : K (some (.long (if u1 = u2 then 1 else 0))) hp := h1
    refine And.intro (fun c1 => ?_) (fun c1 => ?_)
    · have c1 : ¬ lg_cmp u1 u2 = 0 := c1
      rw [if_neg (fun q => c1 ((hk_cm0 u1 u2).mpr q))] at h1
      exact h1
    · have c1 : ¬ ¬ lg_cmp u1 u2 = 0 := c1
      rw [if_pos ((hk_cm0 u1 u2).mp (Classical.not_not.mp c1))] at h1
      exact h1
  have c10 : ¬ w = 10 := c10
  refine And.intro (fun c11 => ?_) (fun c11 => ?_)
  · have c11 : w = 11 := c11
    subst c11
    have h1 : K (some (.long (if ¬ u1 = 0 ∧ ¬ u2 = 0 then 1 else 0))) hp := h1
    refine And.intro (fun c1 => ?_) (fun c1 => ?_)
    · have c1 : lg_cmp u1 0 = 0 := c1
      rw [if_neg (fun q => q.1 ((hk_cm0 u1 0).mp c1))] at h1
      exact h1
    have c1 : ¬ lg_cmp u1 0 = 0 := c1
    refine And.intro (fun c2 => ?_) (fun c2 => ?_)
    · have c2 : lg_cmp u2 0 = 0 := c2
      rw [if_neg (fun q => q.2 ((hk_cm0 u2 0).mp c2))] at h1
      exact h1
    · have c2 : ¬ lg_cmp u2 0 = 0 := c2
      rw [if_pos ⟨fun q => c1 ((hk_cm0 u1 0).mpr q), fun q => c2 ((hk_cm0 u2 0).mpr q)⟩] at h1
      exact h1
  have c11 : ¬ w = 11 := c11
  rw [hk_two_or ⟨fun q => c4 (hk_clp (m := 4) (by decide) (by decide) q), fun q => c5 (hk_clp (m := 5) (by decide) (by decide) q), fun q => c6 (hk_clp (m := 6) (by decide) (by decide) q), fun q => c7 (hk_clp (m := 7) (by decide) (by decide) q), fun q => c8 (hk_clp (m := 8) (by decide) (by decide) q), fun q => c9 (hk_clp (m := 9) (by decide) (by decide) q), fun q => c10 (hk_clp (m := 10) (by decide) (by decide) q), fun q => c11 (hk_clp (m := 11) (by decide) (by decide) q)⟩] at h1
  refine And.intro (fun c1 => ?_) (fun c1 => ?_)
  · have c1 : ¬ lg_cmp u1 0 = 0 := c1
    rw [if_pos (Or.inl (fun q => c1 ((hk_cm0 u1 0).mpr q)))] at h1
    exact h1
  have c1 : ¬ ¬ lg_cmp u1 0 = 0 := c1
  have c1 := (hk_cm0 u1 0).mp (Classical.not_not.mp c1)
  refine And.intro (fun c2 => ?_) (fun c2 => ?_)
  · have c2 : lg_cmp u2 0 = 0 := c2
    rw [if_neg (fun q => q.elim (fun q => q c1) (fun q => q ((hk_cm0 u2 0).mp c2)))] at h1
    exact h1
  · have c2 : ¬ lg_cmp u2 0 = 0 := c2
    rw [if_pos (Or.inr (fun q => c2 ((hk_cm0 u2 0).mpr q)))] at h1
    exact h1
set_option maxHeartbeats 1000000 in
theorem m_tellsOfX {u : Int64} {kk : Nat} (h : hk_RI (s 41) a bb r) (hp : p < bb) (hk : s 40 4 = nI kk) (hk2 : kk ≤ 60) (hv : hk_vh (s 45) kk = some 1) (hx : hk_ev (hk_nmV (s 41) bb p) (s 45) (s 46) kk = [u]) (h1 : ∀ lm2, K (some (.long u)) (s, lm2, hk_RH i0 i1 b, al)) : hk_Cl (d + 4) 170 [.ref 40, .int (nI p)] (s, lm, hk_RH i0 i1 b, al) K := by
  have pre : ∀ j, j ≤ kk → ∃ q, hk_vh (s 45) j = some q := by
    intro j
    have : ∀ g j, j + g = kk → ∃ q, hk_vh (s 45) j = some q := by
      intro g
      induction g with
      | zero => intro j hj; rw [show j = kk by omega]; exact ⟨1, hv⟩
      | succ g ih =>
        intro j hj
        obtain ⟨q, hq⟩ := ih (j + 1) (by omega)
        rw [hk_vh] at hq
        cases e : hk_vh (s 45) j with
        | none => rw [e] at hq; cases hq
        | some q2 => exact ⟨q2, rfl⟩
    intro hj
    exact this (kk - j) j (by omega)
  have loop : ∀ (g j q : Nat) (lm : Nat → Nat → Int64) (l4 : Option Value), j + g = kk → hk_vh (s 45) j = some q → q ≤ j → hk_ev (hk_nmV (s 41) bb p) (s 45) (s 46) j = hk_lkL (lm 48) q → hk_Rn (d + 3) none hk_c170 (hk_sfx 4 hk_c170) [some (.ref 40), some (.int (nI p)), some (.int (nI q)), some (.int (nI j)), l4] [] (s, lm, hk_RH i0 i1 b, al) K := by
    intro g
    induction g with
    | zero =>
      intro j q lm l4 hj hq hqj he
      have e : j = kk := by omega
      subst e
      have a1 : s 40 4 ≤ nI j := by rw [hk]; exact Int32.le_refl _
      have eq1 : q = 1 := by rw [hv] at hq; cases hq; rfl
      subst eq1
      rw [hx] at he
      have eu : lm 48 0 = u := (List.cons.inj he).1.symm
      refine hk_hd (n := 1000) (t := 4) rfl ?_
      refine And.intro (fun _ => ?_) (fun hc => absurd a1 hc)
      refine hk_ldJ (i := nI 0) (j := 0) rfl (by omega) (by decide) eu ?_
      exact h1 _
    | succ g ih =>
      intro j q lm l4 hj hq hqj he
      have a1 : ¬ s 40 4 ≤ nI j := by rw [hk]; exact hk_nlt (by omega) (by omega)
      obtain ⟨q2, hq2⟩ := pre (j + 1) (by omega)
      have hq3 := hq2
      rw [hk_vh, hq] at hq3
      simp only [Option.bind_some] at hq3
      have nx : ∀ (lm2 : Nat → Nat → Int64) (q2 : Nat) (v4 : Int32), hk_vh (s 45) (j + 1) = some q2 → q2 ≤ j + 1 → hk_ev (hk_nmV (s 41) bb p) (s 45) (s 46) (j + 1) = hk_lkL (lm2 48) q2 → hk_Rn (d + 3) none hk_c170 (hk_sfx 4 hk_c170) [some (.ref 40), some (.int (nI p)), some (.int (nI q2)), some (.int (nI j + 1)), some (.int v4)] [] (s, lm2, hk_RH i0 i1 b, al) K := fun lm2 q2 v4 h1 h2 h3 => hk_Rn_cast (by rw [nI_1]) (ih (j + 1) q2 lm2 _ (by omega) h1 h2 h3)
      refine hk_hd (n := 1000) (t := 4) rfl ?_
      refine And.intro (fun hc => absurd hc a1) (fun _ => ?_)
      refine hk_ldi (i := nI j) (j := j) (by simp only [hk_lit, pk_mul, nI_add]) (by omega) (by decide) rfl ?_
      refine And.intro (fun c0 => ?_) (fun c0 => ?_)
      · have c0 : s 45 j = 0 := c0
        rw [if_pos (Or.inl c0)] at hq3
        refine And.intro (fun hc => absurd hc (show ¬ ¬ s 45 j = 0 from fun q => q c0)) (fun _ => ?_)
        refine hk_ldi (i := nI j) (j := j) (by simp only [hk_lit, pk_mul, nI_add]) (by omega) (by decide) rfl ?_
        refine hk_stJ (i := nI q) (j := q) rfl (by omega) (by decide) ?_
        cases hq3
        refine hk_Rn_cast (by rw [← nI_1 q]; rfl) (nx _ (q + 1) _ hq2 (by omega) ?_)
        rw [hk_ev, if_pos c0, hk_lkL_u, he]
      have c0 : ¬ s 45 j = 0 := c0
      refine And.intro (fun c1 => ?_) (fun c1 => ?_)
      rotate_left
      · have c1 : ¬ ¬ s 45 j = 1 := c1
        have c1 := Classical.not_not.mp c1
        rw [if_pos (Or.inr c1)] at hq3
        refine And.intro (fun _ => ?_) (fun hc => absurd c0 hc)
        refine hk_ldi (i := nI j) (j := j) (by simp only [hk_lit, pk_mul, nI_add]) (by omega) (by decide) rfl ?_
        refine m_namedX h hp ?_
        refine hk_stJ (i := nI q) (j := q) rfl (by omega) (by decide) ?_
        cases hq3
        refine hk_Rn_cast (by rw [← nI_1 q]; rfl) (nx _ (q + 1) _ hq2 (by omega) ?_)
        rw [hk_ev, if_neg c0, if_pos c1, hk_lkL_u, he]
      have c1 : ¬ s 45 j = 1 := c1
      rw [if_neg (fun e => e.elim c0 c1)] at hq3
      refine And.intro (fun c2 => ?_) (fun c2 => ?_)
      rotate_left
      · have c2 : ¬ ¬ s 45 j = 3 := c2
        have c2 := Classical.not_not.mp c2
        rw [if_pos (Or.inr c2)] at hq3
        by_cases hq1 : 1 ≤ q
        · rw [if_pos hq1] at hq3
          cases hq3
          obtain ⟨q4, rfl⟩ : ∃ q4, q = q4 + 1 := ⟨q - 1, by omega⟩
          refine hk_ldJ (i := nI (q4 + 1) - 1) (j := q4) (nI_pred q4) (by omega) (by decide) rfl ?_
          refine hk_stJ (i := nI (q4 + 1) - 1) (j := q4) (nI_pred q4) (by omega) (by decide) ?_
          refine nx _ (q4 + 1) _ hq2 (by omega) ?_
          rw [hk_ev, if_neg c0, if_neg c1, hk_lkL_u, he, hk_lkL, c2, show (3 : Int32).toNatClampNeg = 3 from rfl, hk_ap_neg]
        · rw [if_neg hq1] at hq3
          cases hq3
      have c2 : ¬ s 45 j = 3 := c2
      refine And.intro (fun c3 => ?_) (fun c3 => ?_)
      rotate_left
      · have c3 : ¬ ¬ s 45 j = 2 := c3
        have c3 := Classical.not_not.mp c3
        rw [if_pos (Or.inl c3)] at hq3
        by_cases hq1 : 1 ≤ q
        · rw [if_pos hq1] at hq3
          cases hq3
          obtain ⟨q4, rfl⟩ : ∃ q4, q = q4 + 1 := ⟨q - 1, by omega⟩
          refine hk_ldJ (i := nI (q4 + 1) - 1) (j := q4) (nI_pred q4) (by omega) (by decide) rfl ?_
          have fin : ∀ u2, u2 = (if lm 48 q4 = 0 then (1 : Int64) else 0) → hk_ev (hk_nmV (s 41) bb p) (s 45) (s 46) (j + 1) = hk_lkL (hk_uJ lm 48 q4 u2 48) (q4 + 1) := fun u2 hu => by
            rw [hk_ev, if_neg c0, if_neg c1, hk_lkL_u, he, hk_lkL, c3, show (2 : Int32).toNatClampNeg = 2 from rfl, hk_ap_not, hu]
          refine And.intro (fun c4 => ?_) (fun c4 => ?_)
          · have c4 : ¬ lg_cmp (lm 48 q4) 0 = 0 := c4
            refine hk_stJ (i := nI (q4 + 1) - 1) (j := q4) (nI_pred q4) (by omega) (by decide) ?_
            exact nx _ (q4 + 1) _ hq2 (by omega) (fin _ (by rw [if_neg (fun q => c4 ((hk_cm0 _ _).mpr q))]))
          · have c4 : ¬ ¬ lg_cmp (lm 48 q4) 0 = 0 := c4
            refine hk_stJ (i := nI (q4 + 1) - 1) (j := q4) (nI_pred q4) (by omega) (by decide) ?_
            exact nx _ (q4 + 1) _ hq2 (by omega) (fin _ (by rw [if_pos ((hk_cm0 _ _).mp (Classical.not_not.mp c4))]))
        · rw [if_neg hq1] at hq3
          cases hq3
      have c3 : ¬ s 45 j = 2 := c3
      rw [if_neg (fun e => e.elim c3 c2)] at hq3
      by_cases hq1 : 2 ≤ q
      · rw [if_pos hq1] at hq3
        cases hq3
        obtain ⟨q4, rfl⟩ : ∃ q4, q = q4 + 2 := ⟨q - 2, by omega⟩
        have e1 : nI (q4 + 2) + -1 = nI (q4 + 1) := pk_m1 (q4 + 1)
        have e2 : nI (q4 + 2) + -1 - 1 = nI q4 := by rw [e1, nI_pred]
        refine hk_ldJ (i := nI (q4 + 2) + -1 - 1) (j := q4) e2 (by omega) (by decide) rfl ?_
        refine hk_ldJ (i := nI (q4 + 2) + -1) (j := q4 + 1) e1 (by omega) (by decide) rfl ?_
        refine m_twoOfX ?_
        refine hk_stJ (i := nI (q4 + 2) + -1 - 1) (j := q4) e2 (by omega) (by decide) ?_
        refine hk_Rn_cast (by rw [show nI (q4 + 2 - 1) = nI (q4 + 1) from rfl, ← e1]; rfl) (nx _ (q4 + 2 - 1) _ hq2 (by omega) ?_)
        rw [hk_ev, if_neg c0, if_neg c1, show q4 + 2 - 1 = q4 + 1 from rfl, hk_lkL_u, he, hk_lkL, hk_lkL, hk_ap, if_neg (fun q => c3 (hk_clp (m := 2) (by decide) (by decide) q)), if_neg (fun q => c2 (hk_clp (m := 3) (by decide) (by decide) q))]
      · rw [if_neg hq1] at hq3
        cases hq3
  refine hk_mth hk_m170 rfl rfl (n := 1000) ?_
  exact loop kk 0 0 lm none (by omega) rfl (by omega) rfl
end HKEK
