/-! ===== the reference's reading of a text ===== -/
/-- signs between two among the first m; open brackets; the height that k steps come to -/
def hk_bn (g : Nat → Int32) : Nat → Nat
  | 0 => 0
  | m + 1 => hk_bn g m + (if 4 ≤ g m ∧ g m ≤ 12 then 1 else 0)
def hk_on (g : Nat → Int32) : Nat → Nat
  | 0 => 0
  | m + 1 => hk_on g m + (if g m = 13 then 1 else 0)
def hk_vh (f : Nat → Int32) : Nat → Option Nat
  | 0 => some 0
  | k + 1 => (hk_vh f k).bind (fun h => if f k = 0 ∨ f k = 1 then some (h + 1) else if f k = 2 ∨ f k = 3 then (if 1 ≤ h then some h else none) else (if 2 ≤ h then some (h - 1) else none))
theorem hk_bn_eq {g g2 : Nat → Int32} : ∀ {m : Nat}, (∀ j, j < m → g2 j = g j) → hk_bn g2 m = hk_bn g m
  | 0, _ => rfl
  | m + 1, h => by rw [hk_bn, hk_bn, hk_bn_eq (fun j hj => h j (by omega)), h m (by omega)]
theorem hk_on_eq {g g2 : Nat → Int32} : ∀ {m : Nat}, (∀ j, j < m → g2 j = g j) → hk_on g2 m = hk_on g m
  | 0, _ => rfl
  | m + 1, h => by rw [hk_on, hk_on, hk_on_eq (fun j hj => h j (by omega)), h m (by omega)]
theorem hk_vh_eq {g g2 : Nat → Int32} : ∀ {m : Nat}, (∀ j, j < m → g2 j = g j) → hk_vh g2 m = hk_vh g m
  | 0, _ => rfl
  | m + 1, h => by rw [hk_vh, hk_vh, hk_vh_eq (fun j hj => h j (by omega)), h m (by omega)]
/-- how tight a sign holds -/
def hk_tg (v : Nat) : Nat := match v with
  | 2 => 6 | 3 => 6 | 4 => 5 | 5 => 5 | 6 => 4 | 7 => 4 | 8 => 3 | 9 => 3 | 10 => 3 | 11 => 2 | 12 => 1 | _ => 0
/-- the reading stands: i signs read, k steps, m that wait, o open -/
def hk_Pa (s : Nat → Nat → Int32) (i k m o : Nat) (e : Option Nat) : Prop := s 40 4 = nI k ∧ s 40 7 = nI m ∧ k + m ≤ i ∧ (∀ j, j < m → ∃ v, 2 ≤ v ∧ v ≤ 13 ∧ s 47 j = nI v) ∧ hk_on (s 47) m = o ∧ ∀ h, e = some h → hk_vh (s 45) k = some (hk_bn (s 47) m + h)
def hk_FP (s s2 : Nat → Nat → Int32) : Prop := ∀ p q, p ≠ 40 → p ≠ 45 → p ≠ 46 → p ≠ 47 → s2 p q = s p q
theorem hk_FP_r (s : Nat → Nat → Int32) : hk_FP s s := fun _ _ _ _ _ _ => rfl
theorem hk_FP_t {s s2 s3 : Nat → Nat → Int32} (a : hk_FP s s2) (c : hk_FP s2 s3) : hk_FP s s3 := fun p q h1 h2 h3 h4 => (c p q h1 h2 h3 h4).trans (a p q h1 h2 h3 h4)
theorem hk_FP_u {s s2 : Nat → Nat → Int32} {p q : Nat} {v : Int32} (a : hk_FP s s2) (hp : p = 40 ∨ p = 45 ∨ p = 46 ∨ p = 47) : hk_FP s (hk_u2 s2 p q v) := fun p' q' h1 h2 h3 h4 => by
  rw [hk_u2o (by omega)]
  exact a p' q' h1 h2 h3 h4
theorem hk_sgn {v : Nat} (h2 : 2 ≤ v) (h3 : v ≤ 13) : (nI v = 13 ↔ v = 13) ∧ ((4 : Int32) ≤ nI v ∧ nI v ≤ 12 ↔ 4 ≤ v ∧ v ≤ 12) ∧ (¬ (nI v = 0 ∨ nI v = 1)) ∧ (nI v = 2 ∨ nI v = 3 ↔ v = 2 ∨ v = 3) := by
  refine ⟨nI_eq (b := 13) (by omega) (by omega), ?_, ?_, ?_⟩
  · rw [show (4 : Int32) = nI 4 from rfl, show (12 : Int32) = nI 12 from rfl, nI_leI (by omega) (by omega), nI_leI (by omega) (by omega)]
  · rintro (q | q)
    · have q : nI v = nI 0 := q
      rw [nI_eq (by omega) (by omega)] at q
      omega
    · have q : nI v = nI 1 := q
      rw [nI_eq (by omega) (by omega)] at q
      omega
  · rw [show (2 : Int32) = nI 2 from rfl, show (3 : Int32) = nI 3 from rfl, nI_eq (by omega) (by omega), nI_eq (by omega) (by omega)]
/-- a step more: a sign that waited -/
theorem hk_Pa_pop {s : Nat → Nat → Int32} {i k m o v : Nat} {e : Option Nat} (h : hk_Pa s i k (m + 1) o e) (he : ∀ x, e = some x → x = 1) (ev : s 47 m = nI v) (h2 : 2 ≤ v) (h3 : v ≤ 12) : hk_Pa (hk_u2 (hk_u2 (hk_u2 (hk_u2 s 40 7 (nI m)) 45 k (nI v)) 46 k 0) 40 4 (nI (k + 1))) i (k + 1) m o e := by
  obtain ⟨a1, a2, a3, a4, a5, a6⟩ := h
  obtain ⟨s1, s2, s3, s4⟩ := hk_sgn h2 (by omega)
  have f47 : ∀ q, (hk_u2 (hk_u2 (hk_u2 (hk_u2 s 40 7 (nI m)) 45 k (nI v)) 46 k 0) 40 4 (nI (k + 1))) 47 q = s 47 q := fun q => by
    rw [hk_u2o (by omega), hk_u2o (by omega), hk_u2o (by omega), hk_u2o (by omega)]
  have f45 : ∀ q, q ≠ k → (hk_u2 (hk_u2 (hk_u2 (hk_u2 s 40 7 (nI m)) 45 k (nI v)) 46 k 0) 40 4 (nI (k + 1))) 45 q = s 45 q := fun q hq => by
    rw [hk_u2o (by omega), hk_u2o (by omega), hk_u2o (by omega), hk_u2o (by omega)]
  have f45k : (hk_u2 (hk_u2 (hk_u2 (hk_u2 s 40 7 (nI m)) 45 k (nI v)) 46 k 0) 40 4 (nI (k + 1))) 45 k = nI v := by
    rw [hk_u2o (by omega), hk_u2o (by omega), hk_u2s]
  refine ⟨hk_u2s, ?_, by omega, fun j hj => ?_, ?_, fun x hx => ?_⟩
  · rw [hk_u2o (by omega), hk_u2o (by omega), hk_u2o (by omega), hk_u2s]
  · rw [f47]; exact a4 j (by omega)
  · rw [hk_on_eq (fun j _ => f47 j)]
    rw [hk_on, ev, if_neg (fun q => by have := s1.mp q; omega)] at a5
    exact a5
  · have h1 := a6 x hx
    have hx1 := he x hx
    rw [hk_vh, hk_vh_eq (fun j hj => f45 j (by omega)), h1, f45k, hk_bn_eq (fun j _ => f47 j)]
    rw [hk_bn, ev]
    subst hx1
    simp only [Option.bind_some]
    rw [if_neg s3]
    by_cases c : v = 2 ∨ v = 3
    · have eb : (if 4 ≤ nI v ∧ nI v ≤ 12 then 1 else 0) = 0 := if_neg (fun q => by have := s2.mp q; omega)
      rw [eb, if_pos (s4.mpr c), if_pos (by omega)]
    · have eb : (if 4 ≤ nI v ∧ nI v ≤ 12 then 1 else 0) = 1 := if_pos (s2.mpr (by omega))
      rw [eb, if_neg (fun q => c (s4.mp q)), if_pos (by omega)]
      rfl
section HKC1
variable {d n a bb r i k m o : Nat} {v w x y z : Int32} {s : Nat → Nat → Int32} {lm : Nat → Nat → Int64} {i0 i1 b : Nat} {al : List Nat} {K : Option Value → hk_H → Prop}
theorem m_holds {v : Nat} {hp : hk_H} (h2 : 2 ≤ v) (h3 : v ≤ 13) (h1 : K (some (.int (nI (hk_tg v)))) hp) : hk_Cl (d + 1) 164 [.int (nI v)] hp K := by
  match v, h2, h3, h1 with
  | 2, _, _, h1 =>
    refine hk_mth hk_m164 rfl rfl (n := 1000) ?_
    refine And.intro (fun _ => ?_) (fun hc => absurd (by decide) hc)
    exact h1
  | 3, _, _, h1 =>
    refine hk_mth hk_m164 rfl rfl (n := 1000) ?_
    refine And.intro (fun hc => absurd hc (by decide)) (fun _ => ?_)
    refine And.intro (fun _ => ?_) (fun hc => absurd (by decide) hc)
    exact h1
  | 4, _, _, h1 =>
    refine hk_mth hk_m164 rfl rfl (n := 1000) ?_
    refine And.intro (fun hc => absurd hc (by decide)) (fun _ => ?_)
    refine And.intro (fun hc => absurd hc (by decide)) (fun _ => ?_)
    refine And.intro (fun _ => ?_) (fun hc => absurd (by decide) hc)
    exact h1
  | 5, _, _, h1 =>
    refine hk_mth hk_m164 rfl rfl (n := 1000) ?_
    refine And.intro (fun hc => absurd hc (by decide)) (fun _ => ?_)
    refine And.intro (fun hc => absurd hc (by decide)) (fun _ => ?_)
    refine And.intro (fun hc => absurd hc (by decide)) (fun _ => ?_)
    refine And.intro (fun _ => ?_) (fun hc => absurd (by decide) hc)
    exact h1
  | 6, _, _, h1 =>
    refine hk_mth hk_m164 rfl rfl (n := 1000) ?_
    refine And.intro (fun hc => absurd hc (by decide)) (fun _ => ?_)
    refine And.intro (fun hc => absurd hc (by decide)) (fun _ => ?_)
    refine And.intro (fun hc => absurd hc (by decide)) (fun _ => ?_)
    refine And.intro (fun hc => absurd hc (by decide)) (fun _ => ?_)
    refine And.intro (fun _ => ?_) (fun hc => absurd (by decide) hc)
    exact h1
  | 7, _, _, h1 =>
    refine hk_mth hk_m164 rfl rfl (n := 1000) ?_
    refine And.intro (fun hc => absurd hc (by decide)) (fun _ => ?_)
    refine And.intro (fun hc => absurd hc (by decide)) (fun _ => ?_)
    refine And.intro (fun hc => absurd hc (by decide)) (fun _ => ?_)
    refine And.intro (fun hc => absurd hc (by decide)) (fun _ => ?_)
    refine And.intro (fun hc => absurd hc (by decide)) (fun _ => ?_)
    refine And.intro (fun _ => ?_) (fun hc => absurd (by decide) hc)
    exact h1
  | 8, _, _, h1 =>
    refine hk_mth hk_m164 rfl rfl (n := 1000) ?_
    refine And.intro (fun hc => absurd hc (by decide)) (fun _ => ?_)
    refine And.intro (fun hc => absurd hc (by decide)) (fun _ => ?_)
    refine And.intro (fun hc => absurd hc (by decide)) (fun _ => ?_)
    refine And.intro (fun hc => absurd hc (by decide)) (fun _ => ?_)
    refine And.intro (fun hc => absurd hc (by decide)) (fun _ => ?_)
    refine And.intro (fun hc => absurd hc (by decide)) (fun _ => ?_)
    refine And.intro (fun _ => ?_) (fun hc => absurd (by decide) hc)
    exact h1
  | 9, _, _, h1 =>
    refine hk_mth hk_m164 rfl rfl (n := 1000) ?_
    refine And.intro (fun hc => absurd hc (by decide)) (fun _ => ?_)
    refine And.intro (fun hc => absurd hc (by decide)) (fun _ => ?_)
    refine And.intro (fun hc => absurd hc (by decide)) (fun _ => ?_)
    refine And.intro (fun hc => absurd hc (by decide)) (fun _ => ?_)
    refine And.intro (fun hc => absurd hc (by decide)) (fun _ => ?_)
    refine And.intro (fun hc => absurd hc (by decide)) (fun _ => ?_)
    refine And.intro (fun hc => absurd hc (by decide)) (fun _ => ?_)
    refine And.intro (fun _ => ?_) (fun hc => absurd (by decide) hc)
    exact h1
  | 10, _, _, h1 =>
    refine hk_mth hk_m164 rfl rfl (n := 1000) ?_
    refine And.intro (fun hc => absurd hc (by decide)) (fun _ => ?_)
    refine And.intro (fun hc => absurd hc (by decide)) (fun _ => ?_)
    refine And.intro (fun hc => absurd hc (by decide)) (fun _ => ?_)
    refine And.intro (fun hc => absurd hc (by decide)) (fun _ => ?_)
    refine And.intro (fun hc => absurd hc (by decide)) (fun _ => ?_)
    refine And.intro (fun hc => absurd hc (by decide)) (fun _ => ?_)
    refine And.intro (fun hc => absurd hc (by decide)) (fun _ => ?_)
    refine And.intro (fun hc => absurd hc (by decide)) (fun _ => ?_)
    refine And.intro (fun _ => ?_) (fun hc => absurd (by decide) hc)
    exact h1
  | 11, _, _, h1 =>
    refine hk_mth hk_m164 rfl rfl (n := 1000) ?_
    refine And.intro (fun hc => absurd hc (by decide)) (fun _ => ?_)
    refine And.intro (fun hc => absurd hc (by decide)) (fun _ => ?_)
    refine And.intro (fun hc => absurd hc (by decide)) (fun _ => ?_)
    refine And.intro (fun hc => absurd hc (by decide)) (fun _ => ?_)
    refine And.intro (fun hc => absurd hc (by decide)) (fun _ => ?_)
    refine And.intro (fun hc => absurd hc (by decide)) (fun _ => ?_)
    refine And.intro (fun hc => absurd hc (by decide)) (fun _ => ?_)
    refine And.intro (fun hc => absurd hc (by decide)) (fun _ => ?_)
    refine And.intro (fun hc => absurd hc (by decide)) (fun _ => ?_)
    refine And.intro (fun _ => ?_) (fun hc => absurd (by decide) hc)
    exact h1
  | 12, _, _, h1 =>
    refine hk_mth hk_m164 rfl rfl (n := 1000) ?_
    refine And.intro (fun hc => absurd hc (by decide)) (fun _ => ?_)
    refine And.intro (fun hc => absurd hc (by decide)) (fun _ => ?_)
    refine And.intro (fun hc => absurd hc (by decide)) (fun _ => ?_)
    refine And.intro (fun hc => absurd hc (by decide)) (fun _ => ?_)
    refine And.intro (fun hc => absurd hc (by decide)) (fun _ => ?_)
    refine And.intro (fun hc => absurd hc (by decide)) (fun _ => ?_)
    refine And.intro (fun hc => absurd hc (by decide)) (fun _ => ?_)
    refine And.intro (fun hc => absurd hc (by decide)) (fun _ => ?_)
    refine And.intro (fun hc => absurd hc (by decide)) (fun _ => ?_)
    refine And.intro (fun hc => absurd hc (by decide)) (fun _ => ?_)
    refine And.intro (fun _ => ?_) (fun hc => absurd (by decide) hc)
    exact h1
  | 13, _, _, h1 =>
    refine hk_mth hk_m164 rfl rfl (n := 1000) ?_
    refine And.intro (fun hc => absurd hc (by decide)) (fun _ => ?_)
    refine And.intro (fun hc => absurd hc (by decide)) (fun _ => ?_)
    refine And.intro (fun hc => absurd hc (by decide)) (fun _ => ?_)
    refine And.intro (fun hc => absurd hc (by decide)) (fun _ => ?_)
    refine And.intro (fun hc => absurd hc (by decide)) (fun _ => ?_)
    refine And.intro (fun hc => absurd hc (by decide)) (fun _ => ?_)
    refine And.intro (fun hc => absurd hc (by decide)) (fun _ => ?_)
    refine And.intro (fun hc => absurd hc (by decide)) (fun _ => ?_)
    refine And.intro (fun hc => absurd hc (by decide)) (fun _ => ?_)
    refine And.intro (fun hc => absurd hc (by decide)) (fun _ => ?_)
    refine And.intro (fun hc => absurd hc (by decide)) (fun _ => ?_)
    exact h1
theorem m_emits (hk : s 40 4 = nI k) (hk2 : k < 70) (h1 : K none (hk_u2 (hk_u2 (hk_u2 s 45 k v) 46 k w) 40 4 (nI (k + 1)), lm, hk_RH i0 i1 b, al)) : hk_Cl (d + 1) 165 [.ref 40, .int v, .int w] (s, lm, hk_RH i0 i1 b, al) K := by
  have e2 : hk_u2 s 45 k v 40 4 = nI k := by rw [hk_u2o (by omega)]; exact hk
  have e3 : hk_u2 (hk_u2 s 45 k v) 46 k w 40 4 + 1 = nI (k + 1) := by rw [hk_u2o (by omega), e2, nI_1]
  rw [← e3] at h1
  refine hk_mth hk_m165 rfl rfl (n := 1000) ?_
  refine hk_sti (i := s 40 4) (j := k) hk (by omega) (by decide) ?_
  refine hk_sti (i := hk_u2 s 45 k v 40 4) (j := k) e2 (by omega) (by decide) ?_
  exact h1
theorem m_waits (hm : s 40 7 = nI m) (hm2 : m < 70) (h1 : K none (hk_u2 (hk_u2 s 47 m v) 40 7 (nI (m + 1)), lm, hk_RH i0 i1 b, al)) : hk_Cl (d + 1) 168 [.ref 40, .int v] (s, lm, hk_RH i0 i1 b, al) K := by
  have e3 : hk_u2 s 47 m v 40 7 + 1 = nI (m + 1) := by rw [hk_u2o (by omega), hm, nI_1]
  rw [← e3] at h1
  refine hk_mth hk_m168 rfl rfl (n := 1000) ?_
  refine hk_sti (i := s 40 7) (j := m) hm (by omega) (by decide) ?_
  exact h1
set_option maxHeartbeats 400000 in
theorem m_settles_w {t : Nat} (ht : 1 ≤ t) (ht2 : t < 10) {e : Option Nat} (he : ∀ x, e = some x → x = 1) (hi : i ≤ 60) : ∀ (m k : Nat) (s : Nat → Nat → Int32), hk_Pa s i k m o e → (∀ s2 k2 m2, hk_Pa s2 i k2 m2 o e → hk_FP s s2 → (m2 = 0 ∨ ∃ v, 2 ≤ v ∧ v ≤ 13 ∧ s2 47 (m2 - 1) = nI v ∧ hk_tg v < t) → K none (s2, lm, hk_RH i0 i1 b, al)) → hk_w1 (d + 1) none hk_c163 K 1000 (hk_sfx 0 hk_c163) [some (.ref 40), some (.int (nI t))] [] (s, lm, hk_RH i0 i1 b, al) := by
  intro m
  induction m with
  | zero =>
    intro k s h h1
    have a1 : s 40 7 ≤ 0 := by rw [h.2.1]; decide
    refine And.intro (fun _ => ?_) (fun hc => absurd a1 hc)
    exact h1 s k 0 h (hk_FP_r s) (Or.inl rfl)
  | succ m ih =>
    intro k s h h1
    obtain ⟨v, h2, h3, ev⟩ := h.2.2.2.1 m (by omega)
    have hmi : k + (m + 1) ≤ i := h.2.2.1
    have a1 : ¬ s 40 7 ≤ 0 := by rw [h.2.1]; exact nI_nle (by omega) (by omega)
    have e1 : s 40 7 - 1 = nI m := by rw [h.2.1, nI_pred]
    have hh : hk_tg v ≤ 6 := by
      match v, h2, h3 with
      | 2, _, _ => decide
      | 3, _, _ => decide
      | 4, _, _ => decide
      | 5, _, _ => decide
      | 6, _, _ => decide
      | 7, _, _ => decide
      | 8, _, _ => decide
      | 9, _, _ => decide
      | 10, _, _ => decide
      | 11, _, _ => decide
      | 12, _, _ => decide
      | 13, _, _ => decide
    refine And.intro (fun hc => absurd hc a1) (fun _ => ?_)
    refine hk_ldi (i := s 40 7 - 1) (j := m) e1 (by omega) (by decide) ev ?_
    refine m_holds h2 h3 ?_
    refine And.intro (fun c1 => ?_) (fun c1 => ?_)
    · have c1 : nI (hk_tg v) < nI t := c1
      rw [nI_ltI (by omega) (by omega)] at c1
      exact h1 s k (m + 1) h (hk_FP_r s) (Or.inr ⟨v, h2, h3, ev, c1⟩)
    · have c1 : ¬ nI (hk_tg v) < nI t := c1
      rw [nI_ltI (by omega) (by omega)] at c1
      have hv : v ≤ 12 := by
        by_cases e : v = 13
        · subst e
          have : hk_tg 13 = 0 := rfl
          omega
        · omega
      have p := hk_Pa_pop h he ev h2 hv
      have e2 : hk_u2 s 40 7 (s 40 7 - 1) 40 7 = nI m := by rw [hk_u2s, e1]
      have e3 : hk_u2 s 40 7 (s 40 7 - 1) 47 m = nI v := by rw [hk_u2o (by omega)]; exact ev
      refine hk_ldi (i := hk_u2 s 40 7 (s 40 7 - 1) 40 7) (j := m) e2 (by omega) (by decide) e3 ?_
      have e4 : hk_u2 s 40 7 (s 40 7 - 1) 40 4 = nI k := by rw [hk_u2o (by omega)]; exact h.1
      have fr : hk_FP s (hk_u2 (hk_u2 (hk_u2 (hk_u2 s 40 7 (nI m)) 45 k (nI v)) 46 k 0) 40 4 (nI (k + 1))) := hk_FP_u (hk_FP_u (hk_FP_u (hk_FP_u (hk_FP_r s) (by omega)) (by omega)) (by omega)) (by omega)
      have rr := hk_w1_run _ _ _ _ (ih (k + 1) _ p (fun s2 k2 m2 q1 q2 q3 => h1 s2 k2 m2 q1 (hk_FP_t fr q2) q3))
      rw [← e1] at rr
      refine m_emits (k := k) e4 (by omega) ?_
      exact rr
theorem m_settles {t : Nat} (ht : 1 ≤ t) (ht2 : t < 10) {e : Option Nat} (he : ∀ x, e = some x → x = 1) (hi : i ≤ 60) (h : hk_Pa s i k m o e) (h1 : ∀ s2 k2 m2, hk_Pa s2 i k2 m2 o e → hk_FP s s2 → (m2 = 0 ∨ ∃ v, 2 ≤ v ∧ v ≤ 13 ∧ s2 47 (m2 - 1) = nI v ∧ hk_tg v < t) → K none (s2, lm, hk_RH i0 i1 b, al)) : hk_Cl (d + 2) 163 [.ref 40, .int (nI t)] (s, lm, hk_RH i0 i1 b, al) K :=
  hk_mth hk_m163 rfl rfl (n := 1000) (m_settles_w ht ht2 he hi m k s h h1)
end HKC1
