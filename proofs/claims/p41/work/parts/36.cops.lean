/-! ===== the class's calls on any contents ===== -/
section HKA7
variable {d n m : Nat} {v w x y z : Int32} {s : Nat → Nat → Int32} {lm : Nat → Nat → Int64} {i0 i1 b : Nat} {al : List Nat} {k : Option Value → hk_H → Prop}
theorem hk_R24_TW {s s2 : Nat → Nat → Int32} (a : hk_R24 s s2) (h : hk_TW s) : hk_TW s2 := hk_TW_fr h (fun t q ht => a t q (by have := hk_tb35 ht; omega))
theorem c_plate (hs : hk_tw s 2 m) (hp : hk_tw s 4 n) (hb : (∀ i, v = nI i → i < m → ¬ (hk_rg w 0 2 ∧ hk_rg x 1 5000 ∧ hk_rg y 1 1000 ∧ hk_rg z (-6000) 0)) → k (some (.int (-2))) (s, lm, hk_RH i0 i1 b, al)) (hf : ∀ i, v = nI i → i < m → hk_rg w 0 2 ∧ hk_rg x 1 5000 ∧ hk_rg y 1 1000 ∧ hk_rg z (-6000) 0 → n = 96 → k (some (.int (-4))) (s, lm, hk_RH i0 i1 b, al)) (hg : ∀ i, v = nI i → i < m → hk_rg w 0 2 ∧ hk_rg x 1 5000 ∧ hk_rg y 1 1000 ∧ hk_rg z (-6000) 0 → n < 96 → ∀ s2, hk_add s s2 4 n [v, w, x, y, z] → k (some (.int (nI n))) (s2, lm, hk_RH i0 i1 b, al)) : hk_Cl (d + 3) 13 [.ref 0, .int v, .int w, .int x, .int y, .int z] (s, lm, hk_RH i0 i1 b, al) k := by
  have ht : hk_tb 4 := by simp [hk_tb]
  refine hk_mth hk_m13 rfl rfl (n := 1000) ?_
  refine c_hasn (by simp [hk_tb]) hs (fun i e hi => ?_) (fun a => ?_)
  rotate_left
  · refine And.intro (fun _ => ?_) (fun hc => absurd (by decide) hc)
    exact hb (fun i e hi => absurd hi (a i e))
  refine And.intro (fun hc => absurd hc (by decide)) (fun _ => ?_)
  refine c_within (fun p0 q0 => ?_) (fun a => ?_)
  rotate_left
  · refine And.intro (fun _ => ?_) (fun hc => absurd (by decide) hc)
    exact hb (fun _ _ _ q => a.elim q.1.1 q.1.2)
  refine And.intro (fun hc => absurd hc (by decide)) (fun _ => ?_)
  refine c_within (fun p1 q1 => ?_) (fun a => ?_)
  rotate_left
  · refine And.intro (fun _ => ?_) (fun hc => absurd (by decide) hc)
    exact hb (fun _ _ _ q => a.elim q.2.1.1 q.2.1.2)
  refine And.intro (fun hc => absurd hc (by decide)) (fun _ => ?_)
  refine c_within (fun p2 q2 => ?_) (fun a => ?_)
  rotate_left
  · refine And.intro (fun _ => ?_) (fun hc => absurd (by decide) hc)
    exact hb (fun _ _ _ q => a.elim q.2.2.1.1 q.2.2.1.2)
  refine And.intro (fun hc => absurd hc (by decide)) (fun _ => ?_)
  refine c_within (fun p3 q3 => ?_) (fun a => ?_)
  rotate_left
  · refine And.intro (fun hc => absurd hc (by decide)) (fun _ => ?_)
    exact hb (fun _ _ _ q => a.elim q.2.2.2.1 q.2.2.2.2)
  refine And.intro (fun _ => ?_) (fun hc => absurd (by decide) hc)
  refine c_full ht (fun (a : s 4 0 ≤ s 4 3) => ?_) (fun (a : s 4 3 < s 4 0) => ?_)
  · refine And.intro (fun hc => absurd hc (by decide)) (fun _ => ?_)
    exact hf i e hi ⟨⟨p0, q0⟩, ⟨p1, q1⟩, ⟨p2, q2⟩, ⟨p3, q3⟩⟩ (hk_full_eq ht hp a)
  refine And.intro (fun _ => ?_) (fun hc => absurd (by decide) hc)
  have hn := hk_full_lt ht hp a
  exact c_add ht hp hn fun s2 h2 => hg i e hi ⟨⟨p0, q0⟩, ⟨p1, q1⟩, ⟨p2, q2⟩, ⟨p3, q3⟩⟩ hn s2 h2
theorem c_crowd (hs : hk_tw s 2 m) (hb : (∀ i, v = nI i → i < m → ¬ hk_rg w 0 20000) → k (some (.int (-2))) (s, lm, hk_RH i0 i1 b, al)) (hg : ∀ i, v = nI i → i < m → hk_rg w 0 20000 → k (some (.int (s 3 (i * 9 + 4)))) (hk_u2 s 3 (i * 9 + 4) w, lm, hk_RH i0 i1 b, al)) : hk_Cl (d + 3) 22 [.ref 0, .int v, .int w] (s, lm, hk_RH i0 i1 b, al) k := by
  refine hk_mth hk_m22 rfl rfl (n := 1000) ?_
  refine c_hasn (by simp [hk_tb]) hs (fun i e hi => ?_) (fun a => ?_)
  rotate_left
  · refine And.intro (fun _ => ?_) (fun hc => absurd (by decide) hc)
    exact hb (fun i e hi => absurd hi (a i e))
  refine And.intro (fun hc => absurd hc (by decide)) (fun _ => ?_)
  refine c_within (fun p0 q0 => ?_) (fun a => ?_)
  rotate_left
  · refine And.intro (fun hc => absurd hc (by decide)) (fun _ => ?_)
    exact hb (fun _ _ _ q => a.elim q.1 q.2)
  refine And.intro (fun _ => ?_) (fun hc => absurd (by decide) hc)
  subst e
  refine c_swap_in (by simp [hk_tb]) hs hi (j := 4) (by decide) ?_
  exact hg i rfl hi ⟨p0, q0⟩
theorem c_charter (hs : hk_tw s 2 m) (hw : hk_tw s 10 4) (hb : (∀ i, v = nI i → i < m → ¬ (w = -1 ∨ ∃ j, j < 4 ∧ w = nI j)) → k (some (.int (-10))) (s, lm, hk_RH i0 i1 b, al)) (hg : ∀ i, v = nI i → i < m → (w = -1 ∨ ∃ j, j < 4 ∧ w = nI j) → k (some (.int (s 3 (i * 9 + 8)))) (hk_u2 s 3 (i * 9 + 8) w, lm, hk_RH i0 i1 b, al)) : hk_Cl (d + 3) 76 [.ref 0, .int v, .int w] (s, lm, hk_RH i0 i1 b, al) k := by
  refine hk_mth hk_m76 rfl rfl (n := 1000) ?_
  refine c_hasn (by simp [hk_tb]) hs (fun i e hi => ?_) (fun a => ?_)
  rotate_left
  · refine And.intro (fun _ => ?_) (fun hc => absurd (by decide) hc)
    exact hb (fun i e hi => absurd hi (a i e))
  refine And.intro (fun hc => absurd hc (by decide)) (fun _ => ?_)
  have fin : ∀ q : Nat, (w = -1 ∨ ∃ j, j < 4 ∧ w = nI j) → hk_wp (d + 2) none hk_c76 k (q + 60) (hk_sfx 36 hk_c76) [some (.ref 0), some (.int v), some (.int w)] [] (s, lm, hk_RH i0 i1 b, al) := by
    intro q hw2
    subst e
    refine c_swap_in (by simp [hk_tb]) hs hi (j := 8) (by decide) ?_
    exact hg i rfl hi hw2
  refine And.intro (fun c1 => ?_) (fun c1 => ?_)
  · exact fin _ (Or.inl c1)
  have c1 : ¬ w = -1 := c1
  refine c_hasn (by simp [hk_tb]) hw (fun j e2 hj => ?_) (fun a => ?_)
  · refine And.intro (fun _ => ?_) (fun hc => absurd (by decide) hc)
    exact fin _ (Or.inr ⟨j, hj, e2⟩)
  · refine And.intro (fun hc => absurd hc (by decide)) (fun _ => ?_)
    exact hb (fun _ _ _ q => q.elim c1 (fun ⟨j, hj, e⟩ => a j e hj))
def hk_F67 (s s2 : Nat → Nat → Int32) : Prop := ∀ p q, p ≠ 7 → ¬ (p = 6 ∧ q = 3) → s2 p q = s p q
theorem c_reading (hw : hk_TW s) (h1 : ∀ s2 u, hk_F67 s s2 → hk_TW s2 → k (some (.int u)) (s2, lm, hk_RH i0 i1 b, al)) : hk_Cl (d + 3) 60 [.ref 0, .int v, .int w, .int x, .int y, .int z] (s, lm, hk_RH i0 i1 b, al) k := by
  have z0 : hk_F67 s s := fun _ _ _ _ => rfl
  have ht : hk_tb 6 := by simp [hk_tb]
  refine hk_mth hk_m60 rfl rfl (n := 1000) ?_
  refine c_h4 hw ?_ (fun j n e hj hn => ?_)
  · refine And.intro (fun _ => ?_) (fun hc => absurd (by decide) hc)
    exact h1 s _ z0 hw
  refine And.intro (fun hc => absurd hc (by decide)) (fun _ => ?_)
  refine c_within (fun p q => ?_) (fun a => ?_)
  rotate_left
  · refine And.intro (fun _ => ?_) (fun hc => absurd (by decide) hc)
    exact h1 s _ z0 hw
  refine And.intro (fun hc => absurd hc (by decide)) (fun _ => ?_)
  refine c_h8 hw ?_ (fun j n e hj hn => ?_)
  · refine And.intro (fun _ => ?_) (fun hc => absurd (by decide) hc)
    exact h1 s _ z0 hw
  refine And.intro (fun hc => absurd hc (by decide)) (fun _ => ?_)
  refine c_within (fun p q => ?_) (fun a => ?_)
  rotate_left
  · refine And.intro (fun hc => absurd hc (by decide)) (fun _ => ?_)
    exact h1 s _ z0 hw
  refine And.intro (fun _ => ?_) (fun hc => absurd (by decide) hc)
  obtain ⟨n, hn⟩ := hw.1 6 ht
  refine c_full ht (fun (a : s 6 0 ≤ s 6 3) => ?_) (fun (a : s 6 3 < s 6 0) => ?_)
  · refine And.intro (fun hc => absurd hc (by decide)) (fun _ => ?_)
    exact h1 s _ z0 hw
  refine And.intro (fun _ => ?_) (fun hc => absurd (by decide) hc)
  have hlt := hk_full_lt ht hn a
  refine c_add ht hn hlt fun s2 h2 => ?_
  have f : hk_F67 s s2 := fun p q a1 a2 => h2.1 p q (fun e => a1 e.1) a2
  have ft : ∀ t n, hk_tb t → t ≠ 6 → hk_tw s t n → hk_tw s2 t n := fun t n ht2 h6 ⟨b1, b2, b3, b4⟩ => by
    have h7 : t ≠ 7 := fun e => by subst e; simp [hk_tb] at ht2
    exact ⟨by rw [f _ _ h7 (by omega)]; exact b1, by rw [f _ _ h7 (by omega)]; exact b2, by rw [f _ _ h7 (by omega)]; exact b3, b4⟩
  refine h1 s2 _ f ⟨fun t ht2 => ?_, ft 8 4 (by simp [hk_tb]) (by omega) hw.2.1, ft 10 4 (by simp [hk_tb]) (by omega) hw.2.2⟩
  by_cases h6 : t = 6
  · subst h6
    exact ⟨n + 1, by rw [f _ _ (by omega) (by omega)]; exact hn.1, by rw [f _ _ (by omega) (by omega)]; exact hn.2.1, h2.2.1, hlt⟩
  · exact (hw.1 t ht2).elim fun q hq => ⟨q, ft t q ht2 h6 hq⟩
theorem c_guess (hw : hk_TW s) (h1 : ∀ u, k (some (.int u)) (s, lm, hk_RH i0 i1 b, al)) : hk_Cl (d + 4) 63 [.ref 0, .int v, .int w, .int x] (s, lm, hk_RH i0 i1 b, al) k := by
  refine hk_mth hk_m63 rfl rfl (n := 1000) ?_
  refine c_h4 hw ?_ (fun j n e hj hn => ?_)
  · refine And.intro (fun _ => ?_) (fun hc => absurd (by decide) hc)
    exact h1 _
  refine And.intro (fun hc => absurd hc (by decide)) (fun _ => ?_)
  refine c_isMonth (fun p q => ?_) (fun a => ?_)
  rotate_left
  · refine And.intro (fun _ => ?_) (fun hc => absurd (by decide) hc)
    exact h1 _
  refine And.intro (fun hc => absurd hc (by decide)) (fun _ => ?_)
  refine c_isMonth (fun p q => ?_) (fun a => ?_)
  rotate_left
  · refine And.intro (fun hc => absurd hc (by decide)) (fun _ => ?_)
    exact h1 _
  refine And.intro (fun _ => ?_) (fun hc => absurd (by decide) hc)
  exact c_guessFor hw h1
theorem c_due (hw : hk_TW s) (h1 : ∀ u, k (some (.int u)) (s, lm, hk_RH i0 i1 b, al)) : hk_Cl (d + 4) 67 [.ref 0, .int v, .int w] (s, lm, hk_RH i0 i1 b, al) k := by
  refine hk_mth hk_m67 rfl rfl (n := 1000) ?_
  refine c_h4 hw ?_ (fun j n e hj hn => ?_)
  · refine And.intro (fun _ => ?_) (fun hc => absurd (by decide) hc)
    exact h1 _
  refine And.intro (fun hc => absurd hc (by decide)) (fun _ => ?_)
  refine c_isMonth (fun p q => ?_) (fun a => ?_)
  rotate_left
  · refine And.intro (fun _ => ?_) (fun hc => absurd (by decide) hc)
    exact h1 _
  refine And.intro (fun hc => absurd hc (by decide)) (fun _ => ?_)
  exact c_dueMonth hw h1
theorem c_first (hw : hk_TW s) (h1 : ∀ u, k (some (.int u)) (s, lm, hk_RH i0 i1 b, al)) : hk_Cl (d + 5) 69 [.ref 0, .int v, .int w] (s, lm, hk_RH i0 i1 b, al) k := by
  refine hk_mth hk_m69 rfl rfl (n := 1000) ?_
  refine c_h2 hw ?_ (fun j n e hj hn => ?_)
  · refine And.intro (fun _ => ?_) (fun hc => absurd (by decide) hc)
    exact h1 _
  refine And.intro (fun hc => absurd hc (by decide)) (fun _ => ?_)
  refine c_isMonth (fun p q => ?_) (fun a => ?_)
  rotate_left
  · refine And.intro (fun _ => ?_) (fun hc => absurd (by decide) hc)
    exact h1 _
  refine And.intro (fun hc => absurd hc (by decide)) (fun _ => ?_)
  exact c_firstDue hw h1
theorem c_sunk (hw : hk_TW s) (h1 : ∀ u, k (some (.int u)) (s, lm, hk_RH i0 i1 b, al)) : hk_Cl (d + 2) 129 [.ref 1] (s, lm, hk_RH i0 i1 b, al) k := by
  obtain ⟨n, hn, hn2, hr⟩ := hk_rows hw (t := 2) (by simp [hk_tb])
  have loop : ∀ (q j : Nat) (a : Int32), j + q = n → hk_Rn (d + 1) none hk_c129 (hk_sfx 4 hk_c129) [some (.ref 1), some (.int a), some (.int (nI j))] [] (s, lm, hk_RH i0 i1 b, al) k := by
    intro q
    induction q with
    | zero =>
      intro j a hj
      refine hk_hd (n := 1000) (t := 4) rfl ?_
      refine And.intro (fun _ => ?_) (fun hc => absurd ((hr j (by omega)).mpr (by omega)) hc)
      exact h1 _
    | succ q ih =>
      intro j a hj
      refine hk_hd (n := 1000) (t := 4) rfl ?_
      refine And.intro (fun hc => absurd hc (fun q => absurd ((hr j (by omega)).mp q) (by omega))) (fun _ => ?_)
      refine c_g2 hw (fun x => ?_)
      exact hk_Rn_cast (by rw [← nI_1]; rfl) (ih (j + 1) _ (by omega))
  refine hk_mth hk_m129 rfl rfl (n := 1000) ?_
  exact loop n 0 0 (by omega)
theorem c_countOf (hw : hk_TW s) (h1 : ∀ u, k (some (.int u)) (s, lm, hk_RH i0 i1 b, al)) : hk_Cl (d + 3) 128 [.ref 1, .int v] (s, lm, hk_RH i0 i1 b, al) k := by
  refine hk_mth hk_m128 rfl rfl (n := 1000) ?_
  refine And.intro (fun c0 => ?_) (fun c0 => ?_)
  · exact h1 _
  refine And.intro (fun c0 => ?_) (fun c0 => ?_)
  · exact h1 _
  refine And.intro (fun c0 => ?_) (fun c0 => ?_)
  · exact h1 _
  refine And.intro (fun c0 => ?_) (fun c0 => ?_)
  · exact h1 _
  refine And.intro (fun c0 => ?_) (fun c0 => ?_)
  · exact h1 _
  refine And.intro (fun c0 => ?_) (fun c0 => ?_)
  · exact h1 _
  refine And.intro (fun c0 => ?_) (fun c0 => ?_)
  · exact h1 _
  refine And.intro (fun c0 => ?_) (fun c0 => ?_)
  · exact h1 _
  exact c_sunk hw h1
theorem c_count (hw : hk_TW s) (h1 : ∀ u, k (some (.int u)) (s, lm, hk_RH i0 i1 b, al)) : hk_Cl (d + 4) 127 [.ref 0, .int v] (s, lm, hk_RH i0 i1 b, al) k := by
  refine hk_mth hk_m127 rfl rfl (n := 1000) ?_
  refine c_within (fun p q => ?_) (fun a => ?_)
  · refine And.intro (fun hc => absurd hc (by decide)) (fun _ => ?_)
    exact c_countOf hw h1
  · refine And.intro (fun _ => ?_) (fun hc => absurd (by decide) hc)
    exact h1 _
theorem c_digest (hw : hk_TW s) (hl : hk_TL s) (h1 : ∀ u, k (some (.long u)) (s, lm, hk_RH i0 i1 b, al)) : hk_Cl (d + 6) 130 [.ref 0] (s, lm, hk_RH i0 i1 b, al) k := by
  have ht : hk_tb 10 := by simp [hk_tb]
  have h10 := hw.2.2
  have h8 := hw.2.1
  obtain ⟨n4, h4⟩ := hw.1 4 (by simp [hk_tb])
  obtain ⟨n6, h6⟩ := hw.1 6 (by simp [hk_tb])
  obtain ⟨n2, h2⟩ := hw.1 2 (by simp [hk_tb])
  have hn2 : n2 ≤ 6 := h2.2.2.2
  have l4 : ∀ (q j : Nat) (g : Int64), j + q = 4 → ∀ L4, hk_Rn (d + 5) none hk_c130 (hk_sfx 138 hk_c130) [some (.ref 0), some (.long g), none, some (.int (nI j)), L4] [] (s, lm, hk_RH i0 i1 b, al) k := by
    intro q
    induction q with
    | zero =>
      intro j g hj L4
      have e : j = 4 := by omega
      subst e
      refine hk_hd (n := 1000) (t := 138) rfl ?_
      refine And.intro (fun _ => ?_) (fun hc => absurd (show (4 : Int32) ≤ nI 4 by decide) hc)
      exact h1 _
    | succ q ih =>
      intro j g hj L4
      have a1 : ¬ nI 4 ≤ nI j := hk_nlt (by omega) (by omega)
      obtain ⟨m, hm, e⟩ := hl j (by omega)
      refine hk_hd (n := 1000) (t := 138) rfl ?_
      refine And.intro (fun hc => absurd hc a1) (fun _ => ?_)
      refine c_get_in ht h10 (by omega) (j := 0) (by decide) ?_
      have e1 : [Value.ref 10, .long g, .int (nI j), .int (1 + s (10 + 1) (j * hk_co 10 + 0))] = [Value.ref 10, .long g, .int (nI j), .int (nI (1 + m))] := by
        rw [show s (10 + 1) (j * hk_co 10 + 0) = nI m from e]
        rw [show (1 : Int32) + nI m = nI (1 + m) from nI_add 1 m]
      refine hk_Cl_arg e1 ?_
      refine c_mxRow_10 h10 (by omega) (show 1 + m ≤ 61 by omega) ?_
      exact hk_Rn_cast (by rw [← nI_1]; rfl) (ih (j + 1) _ (by omega) L4)
  have l34 : ∀ (q j : Nat) (g : Int64), j + q = n2 → ∀ L4, hk_Rn (d + 5) none hk_c130 (hk_sfx 34 hk_c130) [some (.ref 0), some (.long g), none, some (.int (nI j)), L4] [] (s, lm, hk_RH i0 i1 b, al) k := by
    intro q
    induction q with
    | zero =>
      intro j g hj L4
      have a2 : s 2 3 ≤ nI j := by rw [h2.2.2.1]; exact nI_le (by omega) (by omega)
      refine hk_hd (n := 1000) (t := 34) rfl ?_
      refine And.intro (fun _ => ?_) (fun hc => absurd a2 hc)
      refine c_mxRows_4 h4 ?_
      refine c_mxRows_6 h6 ?_
      refine c_mxRows_8 h8 ?_
      exact l4 4 0 _ (by omega) L4
    | succ q ih =>
      intro j g hj L4
      have a2 : ¬ s 2 3 ≤ nI j := by rw [h2.2.2.1]; exact hk_nlt (by omega) (by omega)
      have l65 : ∀ (q i : Nat) (g : Int64), i + q = 7 → hk_Rn (d + 5) none hk_c130 (hk_sfx 65 hk_c130) [some (.ref 0), some (.long g), none, some (.int (nI j)), some (.int (nI i))] [] (s, lm, hk_RH i0 i1 b, al) k := by
        intro q
        induction q with
        | zero =>
          intro i g hi
          have e : i = 7 := by omega
          subst e
          refine hk_hd (n := 1000) (t := 65) rfl ?_
          refine And.intro (fun _ => ?_) (fun hc => absurd (show (6 : Int32) < nI 7 by decide) hc)
          exact hk_Rn_cast (by rw [← nI_1 j]; rfl) (ih (j + 1) _ (by omega) _)
        | succ q ih2 =>
          intro i g hi
          have a3 : ¬ nI 6 < nI i := by rw [nI_ltI (by omega) (by omega)]; omega
          refine hk_hd (n := 1000) (t := 65) rfl ?_
          refine And.intro (fun hc => absurd hc a3) (fun _ => ?_)
          refine c_shipAt hw (fun u => ?_)
          refine c_mixed ?_
          exact hk_Rn_cast (by rw [← nI_1 i]; rfl) (ih2 (i + 1) _ (by omega))
      refine hk_hd (n := 1000) (t := 34) rfl ?_
      refine And.intro (fun hc => absurd hc a2) (fun _ => ?_)
      refine c_mxRow_2 h2 (by omega) (m := 5) (by decide) ?_
      exact l65 7 0 _ (by omega)
  have l1 : ∀ (q j : Nat) (g : Int64), j + q = 9 → hk_Rn (d + 5) none hk_c130 (hk_sfx 6 hk_c130) [some (.ref 0), some (.long g), none, some (.int (nI j)), none] [] (s, lm, hk_RH i0 i1 b, al) k := by
    intro q
    induction q with
    | zero =>
      intro j g hj
      have e : j = 9 := by omega
      subst e
      refine hk_hd (n := 1000) (t := 6) rfl ?_
      refine And.intro (fun _ => ?_) (fun hc => absurd (show (9 : Int32) ≤ nI 9 by decide) hc)
      exact l34 n2 0 _ (by omega) none
    | succ q ih =>
      intro j g hj
      have a1 : ¬ nI 9 ≤ nI j := hk_nlt (by omega) (by omega)
      refine hk_hd (n := 1000) (t := 6) rfl ?_
      refine And.intro (fun hc => absurd hc a1) (fun _ => ?_)
      refine c_countOf hw (fun u => ?_)
      refine c_mixed ?_
      exact hk_Rn_cast (by rw [← nI_1]; rfl) (ih (j + 1) _ (by omega))
  refine hk_mth hk_m130 rfl rfl (n := 1000) ?_
  exact l1 9 0 307 (by omega)
end HKA7
