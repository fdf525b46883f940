/-! ===== the reference reads any text ===== -/
theorem hk_Pa_i {s : Nat → Nat → Int32} {i i2 k m o : Nat} {e : Option Nat} (h : hk_Pa s i k m o e) (hi : i ≤ i2) : hk_Pa s i2 k m o e := ⟨h.1, h.2.1, by have := h.2.2.1; omega, h.2.2.2⟩
theorem hk_Pa_push {s : Nat → Nat → Int32} {i k m o v : Nat} {e e2 : Option Nat} (h : hk_Pa s i k m o e) (h2 : 2 ≤ v) (h3 : v ≤ 13) (he : ∀ x, e2 = some x → e = some ((if 4 ≤ v ∧ v ≤ 12 then 1 else 0) + x)) : hk_Pa (hk_u2 (hk_u2 s 47 m (nI v)) 40 7 (nI (m + 1))) (i + 1) k (m + 1) (o + (if v = 13 then 1 else 0)) e2 := by
  obtain ⟨a1, a2, a3, a4, a5, a6⟩ := h
  obtain ⟨s1, s2, s3, s4⟩ := hk_sgn h2 (by omega)
  have f47 : ∀ q, q < m → (hk_u2 (hk_u2 s 47 m (nI v)) 40 7 (nI (m + 1))) 47 q = s 47 q := fun q hq => by
    rw [hk_u2o (by omega), hk_u2o (by omega)]
  have f47m : (hk_u2 (hk_u2 s 47 m (nI v)) 40 7 (nI (m + 1))) 47 m = nI v := by
    rw [hk_u2o (by omega), hk_u2s]
  have f45 : ∀ q, (hk_u2 (hk_u2 s 47 m (nI v)) 40 7 (nI (m + 1))) 45 q = s 45 q := fun q => by
    rw [hk_u2o (by omega), hk_u2o (by omega)]
  refine ⟨by rw [hk_u2o (by omega), hk_u2o (by omega)]; exact a1, hk_u2s, by omega, fun j hj => ?_, ?_, fun x hx => ?_⟩
  · by_cases ej : j = m
    · subst ej
      exact ⟨v, h2, h3, f47m⟩
    · rw [f47 j (by omega)]
      exact a4 j (by omega)
  · rw [hk_on, hk_on_eq f47, a5, f47m]
    by_cases c : v = 13
    · rw [if_pos (s1.mpr c), if_pos c]
    · rw [if_neg (fun q => c (s1.mp q)), if_neg c]
  · rw [hk_vh_eq (fun j _ => f45 j), a6 _ (he x hx), hk_bn, hk_bn_eq f47, f47m]
    congr 1
    by_cases c : 4 ≤ v ∧ v ≤ 12
    · rw [if_pos c, if_pos (s2.mpr c)]
      omega
    · rw [if_neg c, if_neg (fun q => c (s2.mp q))]
      omega
theorem hk_Pa_val {s : Nat → Nat → Int32} {i k m o : Nat} {v w : Int32} (h : hk_Pa s i k m o (some 0)) (hv : v = 0 ∨ v = 1) : hk_Pa (hk_u2 (hk_u2 (hk_u2 s 45 k v) 46 k w) 40 4 (nI (k + 1))) (i + 1) (k + 1) m o (some 1) := by
  obtain ⟨a1, a2, a3, a4, a5, a6⟩ := h
  have f47 : ∀ q, (hk_u2 (hk_u2 (hk_u2 s 45 k v) 46 k w) 40 4 (nI (k + 1))) 47 q = s 47 q := fun q => by
    rw [hk_u2o (by omega), hk_u2o (by omega), hk_u2o (by omega)]
  have f45 : ∀ q, q < k → (hk_u2 (hk_u2 (hk_u2 s 45 k v) 46 k w) 40 4 (nI (k + 1))) 45 q = s 45 q := fun q hq => by
    rw [hk_u2o (by omega), hk_u2o (by omega), hk_u2o (by omega)]
  have f45k : (hk_u2 (hk_u2 (hk_u2 s 45 k v) 46 k w) 40 4 (nI (k + 1))) 45 k = v := by
    rw [hk_u2o (by omega), hk_u2o (by omega), hk_u2s]
  refine ⟨hk_u2s, by rw [hk_u2o (by omega), hk_u2o (by omega), hk_u2o (by omega)]; exact a2, by omega, fun j hj => by rw [f47]; exact a4 j hj, by rw [hk_on_eq (fun j _ => f47 j)]; exact a5, fun x hx => ?_⟩
  cases hx
  rw [hk_vh, hk_vh_eq f45, a6 0 rfl, f45k, hk_bn_eq (fun j _ => f47 j)]
  simp only [Option.bind_some]
  rw [if_pos hv]
theorem hk_Pa_open {s : Nat → Nat → Int32} {i k m o : Nat} {e : Option Nat} (h : hk_Pa s i k (m + 1) (o + 1) e) (ev : s 47 m = nI 13) : hk_Pa (hk_u2 s 40 7 (nI m)) i k m o e := by
  obtain ⟨a1, a2, a3, a4, a5, a6⟩ := h
  have f47 : ∀ q, hk_u2 s 40 7 (nI m) 47 q = s 47 q := fun q => hk_u2o (by omega)
  have f45 : ∀ q, hk_u2 s 40 7 (nI m) 45 q = s 45 q := fun q => hk_u2o (by omega)
  obtain ⟨s1, s2, s3, s4⟩ := hk_sgn (v := 13) (by omega) (by omega)
  refine ⟨by rw [hk_u2o (by omega)]; exact a1, hk_u2s, by omega, fun j hj => by rw [f47]; exact a4 j (by omega), ?_, fun x hx => ?_⟩
  · rw [hk_on_eq (fun j _ => f47 j)]
    rw [hk_on, ev, if_pos (s1.mpr rfl)] at a5
    omega
  · rw [hk_vh_eq (fun j _ => f45 j), a6 x hx, hk_bn, ev, if_neg (fun q => by have := s2.mp q; omega), hk_bn_eq (fun j _ => f47 j)]
    rfl
section HKC2
variable {d n a bb r i k m o : Nat} {v w x y z : Int32} {s : Nat → Nat → Int32} {lm : Nat → Nat → Int64} {i0 i1 b : Nat} {al : List Nat} {K : Option Value → hk_H → Prop}
def hk_so (c : Int32) : Int32 := if c = 38 then 11 else if c = 42 then 4 else if c = 43 then 6 else if c = 45 then 7 else if c = 47 then 5 else if c = 60 then 8 else if c = 61 then 10 else if c = 62 then 9 else if c = 124 then 12 else -1
theorem hk_so_r (c : Int32) : hk_so c = -1 ∨ ∃ t, 4 ≤ t ∧ t ≤ 12 ∧ hk_so c = nI t := by
  unfold hk_so
  by_cases c38 : c = 38
  · rw [if_pos c38]
    exact Or.inr ⟨11, by omega, by omega, rfl⟩
  rw [if_neg c38]
  by_cases c42 : c = 42
  · rw [if_pos c42]
    exact Or.inr ⟨4, by omega, by omega, rfl⟩
  rw [if_neg c42]
  by_cases c43 : c = 43
  · rw [if_pos c43]
    exact Or.inr ⟨6, by omega, by omega, rfl⟩
  rw [if_neg c43]
  by_cases c45 : c = 45
  · rw [if_pos c45]
    exact Or.inr ⟨7, by omega, by omega, rfl⟩
  rw [if_neg c45]
  by_cases c47 : c = 47
  · rw [if_pos c47]
    exact Or.inr ⟨5, by omega, by omega, rfl⟩
  rw [if_neg c47]
  by_cases c60 : c = 60
  · rw [if_pos c60]
    exact Or.inr ⟨8, by omega, by omega, rfl⟩
  rw [if_neg c60]
  by_cases c61 : c = 61
  · rw [if_pos c61]
    exact Or.inr ⟨10, by omega, by omega, rfl⟩
  rw [if_neg c61]
  by_cases c62 : c = 62
  · rw [if_pos c62]
    exact Or.inr ⟨9, by omega, by omega, rfl⟩
  rw [if_neg c62]
  by_cases c124 : c = 124
  · rw [if_pos c124]
    exact Or.inr ⟨12, by omega, by omega, rfl⟩
  rw [if_neg c124]
  exact Or.inl rfl
theorem m_signOf {hp : hk_H} (h1 : K (some (.int (hk_so v))) hp) : hk_Cl (d + 1) 166 [.int v] hp K := by
  unfold hk_so at h1
  refine hk_mth hk_m166 rfl rfl (n := 1000) ?_
  refine And.intro (fun c38 => ?_) (fun c38 => ?_)
  · have c38 : v = 38 := c38
    rw [if_pos c38] at h1
    exact h1
  have c38 : ¬ v = 38 := c38
  rw [if_neg c38] at h1
  refine And.intro (fun c42 => ?_) (fun c42 => ?_)
  · have c42 : v = 42 := c42
    rw [if_pos c42] at h1
    exact h1
  have c42 : ¬ v = 42 := c42
  rw [if_neg c42] at h1
  refine And.intro (fun c43 => ?_) (fun c43 => ?_)
  · have c43 : v = 43 := c43
    rw [if_pos c43] at h1
    exact h1
  have c43 : ¬ v = 43 := c43
  rw [if_neg c43] at h1
  refine And.intro (fun c45 => ?_) (fun c45 => ?_)
  · have c45 : v = 45 := c45
    rw [if_pos c45] at h1
    exact h1
  have c45 : ¬ v = 45 := c45
  rw [if_neg c45] at h1
  refine And.intro (fun c47 => ?_) (fun c47 => ?_)
  · have c47 : v = 47 := c47
    rw [if_pos c47] at h1
    exact h1
  have c47 : ¬ v = 47 := c47
  rw [if_neg c47] at h1
  refine And.intro (fun c60 => ?_) (fun c60 => ?_)
  · have c60 : v = 60 := c60
    rw [if_pos c60] at h1
    exact h1
  have c60 : ¬ v = 60 := c60
  rw [if_neg c60] at h1
  refine And.intro (fun c61 => ?_) (fun c61 => ?_)
  · have c61 : v = 61 := c61
    rw [if_pos c61] at h1
    exact h1
  have c61 : ¬ v = 61 := c61
  rw [if_neg c61] at h1
  refine And.intro (fun c62 => ?_) (fun c62 => ?_)
  · have c62 : v = 62 := c62
    rw [if_pos c62] at h1
    exact h1
  have c62 : ¬ v = 62 := c62
  rw [if_neg c62] at h1
  refine And.intro (fun c124 => ?_) (fun c124 => ?_)
  · have c124 : v = 124 := c124
    rw [if_pos c124] at h1
    exact h1
  have c124 : ¬ v = 124 := c124
  rw [if_neg c124] at h1
  exact h1
theorem hk_tg_r {t : Nat} (h4 : 4 ≤ t) (h12 : t ≤ 12) : 1 ≤ hk_tg t ∧ hk_tg t < 10 := by
  match t, h4, h12 with
  | 4, _, _ => decide
  | 5, _, _ => decide
  | 6, _, _ => decide
  | 7, _, _ => decide
  | 8, _, _ => decide
  | 9, _, _ => decide
  | 10, _, _ => decide
  | 11, _, _ => decide
  | 12, _, _ => decide
end HKC2
