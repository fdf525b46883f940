/-! ===== tow; months with no ship ===== -/
/-- the first day of n calm ones, from day d on, m days left -/
def hk_twf (f : Nat → Int32) (n st : Int32) : Nat → Nat → Int32 → Int32
  | 0, _, _ => -1
  | m + 1, d, calm => if (if f d ≤ st then calm + 1 else 0) = n then nI d - n + 1 else hk_twf f n st m (d + 1) (if f d ≤ st then calm + 1 else 0)
section HKS3
variable {d t c n : Nat} {r v w x y z : Int32} {s : Nat → Nat → Int32} {lm : Nat → Nat → Int64} {i0 i1 b : Nat} {al : List Nat} {k : Option Value → hk_H → Prop}
theorem c_tow (hb : ¬ (hk_rg v 1 30 ∧ hk_rg w 0 100 ∧ hk_rg x 0 89) → k (some (.int (-2))) (s, lm, hk_RH i0 i1 b, al)) (hg : ∀ j, x = nI j → j < 90 → hk_rg v 1 30 ∧ hk_rg w 0 100 ∧ hk_rg x 0 89 → k (some (.int (hk_twf (fun i => s 22 i) v w (90 - j) j 0))) (s, lm, hk_RH i0 i1 b, al)) : hk_Cl (d + 2) 109 [.ref 0, .int v, .int w, .int x] (s, lm, hk_RH i0 i1 b, al) k := by
  refine hk_mth hk_m109 rfl rfl (n := 1000) ?_
  refine c_within0 (fun (a : v < 1 ∨ 30 < v) => ?_) (fun (p0 : ¬ v < 1) (q0 : ¬ 30 < v) => ?_)
  · refine And.intro (fun _ => ?_) (fun hc => absurd (by decide) hc)
    exact hb (fun q => a.elim q.1.1 q.1.2)
  refine And.intro (fun hc => absurd hc (by decide)) (fun _ => ?_)
  refine c_within0 (fun (a : w < 0 ∨ 100 < w) => ?_) (fun (p1 : ¬ w < 0) (q1 : ¬ 100 < w) => ?_)
  · refine And.intro (fun _ => ?_) (fun hc => absurd (by decide) hc)
    exact hb (fun q => a.elim q.2.1.1 q.2.1.2)
  refine And.intro (fun hc => absurd hc (by decide)) (fun _ => ?_)
  refine c_within0 (fun (a : x < 0 ∨ 89 < x) => ?_) (fun (p2 : ¬ x < 0) (q2 : ¬ 89 < x) => ?_)
  · refine And.intro (fun hc => absurd hc (by decide)) (fun _ => ?_)
    exact hb (fun q => a.elim q.2.2.1 q.2.2.2)
  refine And.intro (fun _ => ?_) (fun hc => absurd (by decide) hc)
  obtain ⟨j, hj, rfl⟩ := hk_rng (n := 89) (by decide) p2 q2
  have hg := hg j rfl (by omega) ⟨⟨p0, q0⟩, ⟨p1, q1⟩, ⟨p2, q2⟩⟩
  have loop : ∀ (m i : Nat) (calm : Int32), i + m = 90 → k (some (.int (hk_twf (fun i => s 22 i) v w m i calm))) (s, lm, hk_RH i0 i1 b, al) → hk_Rn (d + 1) none hk_c109 (hk_sfx 39 hk_c109) [some (.ref 0), some (.int v), some (.int w), some (.int (nI j)), some (.int calm), some (.int (nI i))] [] (s, lm, hk_RH i0 i1 b, al) k := by
    intro m
    induction m with
    | zero =>
      intro i calm hi hk
      have e : i = 90 := by omega
      subst e
      refine hk_hd (n := 1000) (t := 39) rfl ?_
      refine And.intro (fun _ => ?_) (fun hc => absurd (show (90 : Int32) ≤ nI 90 by decide) hc)
      exact hk
    | succ m ih =>
      intro i calm hi hk
      have a1 : ¬ nI 90 ≤ nI i := hk_nlt (by omega) (by omega)
      refine hk_hd (n := 1000) (t := 39) rfl ?_
      refine And.intro (fun hc => absurd hc a1) (fun _ => ?_)
      refine hk_ldi (i := nI i) (j := i) (by simp only [hk_lit, pk_mul, nI_add]) (by omega) (by decide) rfl ?_
      rw [hk_twf] at hk
      refine And.intro (fun c1 => ?_) (fun c1 => ?_)
      · have c1 : s 22 i ≤ w := c1
        rw [if_pos c1] at hk
        refine And.intro (fun c2 => ?_) (fun c2 => ?_)
        · have c2 : ¬ calm + 1 = v := c2
          rw [if_neg c2] at hk
          exact hk_Rn_cast (by rw [← nI_1]; rfl) (ih (i + 1) (calm + 1) (by omega) hk)
        · have c2 : calm + 1 = v := Classical.not_not.mp c2
          rw [if_pos c2] at hk
          exact hk
      · have c1 : ¬ s 22 i ≤ w := c1
        rw [if_neg c1] at hk
        refine And.intro (fun c2 => ?_) (fun c2 => ?_)
        · have c2 : ¬ (0 : Int32) = v := c2
          rw [if_neg c2] at hk
          exact hk_Rn_cast (by rw [← nI_1]; rfl) (ih (i + 1) 0 (by omega) hk)
        · have c2 : (0 : Int32) = v := Classical.not_not.mp c2
          rw [if_pos c2] at hk
          exact hk
  exact loop (90 - j) j 0 (by omega) hg
theorem m_tow (hb : ¬ (hk_rg v 1 30 ∧ hk_rg w 0 100 ∧ hk_rg x 0 89) → k (some (.int (-2))) (s, lm, hk_RH i0 i1 b, al)) (hg : ∀ j, x = nI j → j < 90 → hk_rg v 1 30 ∧ hk_rg w 0 100 ∧ hk_rg x 0 89 → k (some (.int (hk_twf (fun i => s 41 (1718 + i)) v w (90 - j) j 0))) (s, lm, hk_RH i0 i1 b, al)) : hk_Cl (d + 2) 211 [.ref 40, .int v, .int w, .int x] (s, lm, hk_RH i0 i1 b, al) k := by
  refine hk_mth hk_m211 rfl rfl (n := 1000) ?_
  refine m_in0 (fun (a : v < 1 ∨ 30 < v) => ?_) (fun (p0 : ¬ v < 1) (q0 : ¬ 30 < v) => ?_)
  · refine And.intro (fun _ => ?_) (fun hc => absurd (by decide) hc)
    exact hb (fun q => a.elim q.1.1 q.1.2)
  refine And.intro (fun hc => absurd hc (by decide)) (fun _ => ?_)
  refine m_in0 (fun (a : w < 0 ∨ 100 < w) => ?_) (fun (p1 : ¬ w < 0) (q1 : ¬ 100 < w) => ?_)
  · refine And.intro (fun _ => ?_) (fun hc => absurd (by decide) hc)
    exact hb (fun q => a.elim q.2.1.1 q.2.1.2)
  refine And.intro (fun hc => absurd hc (by decide)) (fun _ => ?_)
  refine m_in0 (fun (a : x < 0 ∨ 89 < x) => ?_) (fun (p2 : ¬ x < 0) (q2 : ¬ 89 < x) => ?_)
  · refine And.intro (fun hc => absurd hc (by decide)) (fun _ => ?_)
    exact hb (fun q => a.elim q.2.2.1 q.2.2.2)
  refine And.intro (fun _ => ?_) (fun hc => absurd (by decide) hc)
  obtain ⟨j, hj, rfl⟩ := hk_rng (n := 89) (by decide) p2 q2
  have hg := hg j rfl (by omega) ⟨⟨p0, q0⟩, ⟨p1, q1⟩, ⟨p2, q2⟩⟩
  have loop : ∀ (m i : Nat) (calm : Int32), i + m = 90 → k (some (.int (hk_twf (fun i => s 41 (1718 + i)) v w m i calm))) (s, lm, hk_RH i0 i1 b, al) → hk_Rn (d + 1) none hk_c211 (hk_sfx 39 hk_c211) [some (.ref 40), some (.int v), some (.int w), some (.int (nI j)), some (.int calm), some (.int (nI i))] [] (s, lm, hk_RH i0 i1 b, al) k := by
    intro m
    induction m with
    | zero =>
      intro i calm hi hk
      have e : i = 90 := by omega
      subst e
      refine hk_hd (n := 1000) (t := 39) rfl ?_
      refine And.intro (fun _ => ?_) (fun hc => absurd (show (90 : Int32) ≤ nI 90 by decide) hc)
      exact hk
    | succ m ih =>
      intro i calm hi hk
      have a1 : ¬ nI 90 ≤ nI i := hk_nlt (by omega) (by omega)
      refine hk_hd (n := 1000) (t := 39) rfl ?_
      refine And.intro (fun hc => absurd hc a1) (fun _ => ?_)
      refine hk_ldi (i := 1718 + nI i) (j := 1718 + i) (by simp only [hk_lit, pk_mul, nI_add]) (by omega) (by decide) rfl ?_
      rw [hk_twf] at hk
      refine And.intro (fun c1 => ?_) (fun c1 => ?_)
      · have c1 : s 41 (1718 + i) ≤ w := c1
        rw [if_pos c1] at hk
        refine And.intro (fun c2 => ?_) (fun c2 => ?_)
        · have c2 : ¬ calm + 1 = v := c2
          rw [if_neg c2] at hk
          exact hk_Rn_cast (by rw [← nI_1]; rfl) (ih (i + 1) (calm + 1) (by omega) hk)
        · have c2 : calm + 1 = v := Classical.not_not.mp c2
          rw [if_pos c2] at hk
          exact hk
      · have c1 : ¬ s 41 (1718 + i) ≤ w := c1
        rw [if_neg c1] at hk
        refine And.intro (fun c2 => ?_) (fun c2 => ?_)
        · have c2 : ¬ (0 : Int32) = v := c2
          rw [if_neg c2] at hk
          exact hk_Rn_cast (by rw [← nI_1]; rfl) (ih (i + 1) 0 (by omega) hk)
        · have c2 : (0 : Int32) = v := Classical.not_not.mp c2
          rw [if_pos c2] at hk
          exact hk
  exact loop (90 - j) j 0 (by omega) hg
theorem c_mayPass (h0 : ¬ (hk_rg v 1 60 ∧ ¬ 599 < s 1 12 + v) → k (some (.int 0)) (s, lm, hk_RH i0 i1 b, al)) (h1 : hk_rg v 1 60 ∧ ¬ 599 < s 1 12 + v → k (some (.int 1)) (s, lm, hk_RH i0 i1 b, al)) : hk_Cl (d + 2) 27 [.ref 0, .int v] (s, lm, hk_RH i0 i1 b, al) k := by
  refine hk_mth hk_m27 rfl rfl (n := 1000) ?_
  refine c_within (fun p q => ?_) (fun a => ?_)
  rotate_left
  · refine And.intro (fun _ => ?_) (fun hc => absurd (by decide) hc)
    exact And.intro (Or.inl rfl) (h0 fun q => a.elim q.1.1 q.1.2)
  refine And.intro (fun hc => absurd hc (by decide)) (fun _ => ?_)
  refine And.intro (fun c1 => ?_) (fun c1 => ?_)
  · exact And.intro (Or.inl rfl) (h0 fun q => q.2 c1)
  · exact And.intro (Or.inr rfl) (h1 ⟨⟨p, q⟩, c1⟩)
theorem m_isAhead (h0 : ¬ (hk_rg v 1 60 ∧ ¬ 599 < s 41 7 + v) → k (some (.int 0)) (s, lm, hk_RH i0 i1 b, al)) (h1 : hk_rg v 1 60 ∧ ¬ 599 < s 41 7 + v → k (some (.int 1)) (s, lm, hk_RH i0 i1 b, al)) : hk_Cl (d + 2) 150 [.ref 40, .int v] (s, lm, hk_RH i0 i1 b, al) k := by
  refine hk_mth hk_m150 rfl rfl (n := 1000) ?_
  refine m_in (fun p q => ?_) (fun a => ?_)
  rotate_left
  · refine And.intro (fun _ => ?_) (fun hc => absurd (by decide) hc)
    exact And.intro (Or.inl rfl) (h0 fun q => a.elim q.1.1 q.1.2)
  refine And.intro (fun hc => absurd hc (by decide)) (fun _ => ?_)
  refine hk_ldi (i := nI 7) (j := 7) (by simp only [hk_lit, pk_mul, nI_add]) (by omega) (by decide) rfl ?_
  refine And.intro (fun c1 => ?_) (fun c1 => ?_)
  · exact And.intro (Or.inl rfl) (h0 fun q => q.2 c1)
  · exact And.intro (Or.inr rfl) (h1 ⟨⟨p, q⟩, c1⟩)
theorem hk_rg1 {m : Nat} (hm : m < 2 ^ 31) (h : hk_rg v 1 (nI m)) : ∃ j, j ≤ m ∧ v = nI j := hk_rng hm (fun q => h.1 (Int32.lt_trans q (by decide))) h.2
end HKS3
section HKP4
variable {v w x z y : Int32}
theorem hk_twe {f g : Nat → Int32} {n st : Int32} : ∀ (m d : Nat) (calm : Int32), d + m = 90 → (∀ i, i < 90 → f i = g i) → hk_twf f n st m d calm = hk_twf g n st m d calm
  | 0, _, _, _, _ => rfl
  | m + 1, d, calm, h, e => by
    rw [hk_twf, hk_twf, e d (by omega), hk_twe m (d + 1) _ (by omega) e]
end HKP4
