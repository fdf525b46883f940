/-! ===== a text read, as a pure thing: values and signs that wait ===== -/
def hk_two (v : Nat) (x y : Int64) : Int64 := match v with
  | 4 => x * y | 5 => if y = 0 then 0 else x / y | 6 => x + y | 7 => x - y | 8 => if x < y then 1 else 0 | 9 => if y < x then 1 else 0 | 10 => if x = y then 1 else 0 | 11 => if ¬ x = 0 ∧ ¬ y = 0 then 1 else 0 | _ => if ¬ x = 0 ∨ ¬ y = 0 then 1 else 0
def hk_ap (v : Nat) : List Int64 → List Int64
  | [] => []
  | [x] => if v = 2 then [if x = 0 then 1 else 0] else if v = 3 then [-x] else [x]
  | x :: y :: V => if v = 2 then (if x = 0 then 1 else 0) :: y :: V else if v = 3 then (-x) :: y :: V else hk_two v y x :: V
theorem hk_ap_not {x : Int64} {V : List Int64} : hk_ap 2 (x :: V) = (if x = 0 then 1 else 0) :: V := by cases V <;> rfl
theorem hk_ap_neg {x : Int64} {V : List Int64} : hk_ap 3 (x :: V) = (-x) :: V := by cases V <;> rfl
theorem hk_ap_two {v : Nat} {x y : Int64} {V : List Int64} (h : 4 ≤ v) : hk_ap v (y :: x :: V) = hk_two v x y :: V := by
  rw [hk_ap, if_neg (by omega), if_neg (by omega)]
/-- signs that hold so tight are done -/
def hk_stl (t : Nat) : List Nat → List Int64 → List Int64 × List Nat
  | [], V => (V, [])
  | v :: S, V => if t ≤ hk_tg v then hk_stl t S (hk_ap v V) else (V, v :: S)
def hk_lo (t : Nat) : List Nat → Prop
  | [] => True
  | v :: _ => hk_tg v < t
def hk_top3 : List Nat → Bool
  | [] => false
  | v :: _ => hk_tg v == 3
theorem hk_stl_lo {t : Nat} {S : List Nat} {V : List Int64} (h : hk_lo t S) : hk_stl t S V = (V, S) := by
  cases S with
  | nil => rfl
  | cons v S => rw [hk_stl, if_neg (Nat.not_le.mpr h)]
theorem hk_lo_le {t p : Nat} {S : List Nat} (h : hk_lo t S) (hp : t ≤ p) : hk_lo p S := by
  cases S with
  | nil => trivial
  | cons v S => exact Nat.lt_of_lt_of_le h hp
theorem hk_stl_le {t p : Nat} (hp : t ≤ p) : ∀ (S : List Nat) (V : List Int64), hk_stl t (hk_stl p S V).2 (hk_stl p S V).1 = hk_stl t S V
  | [], V => rfl
  | v :: S, V => by
    by_cases h : p ≤ hk_tg v
    · rw [hk_stl, if_pos h, hk_stl_le hp S, hk_stl, if_pos (Nat.le_trans hp h)]
    · rw [hk_stl, if_neg h]
theorem hk_stl_l {t p : Nat} {S S2 : List Nat} {V V2 : List Int64} (hp : t ≤ p) (h : hk_stl p S V = (V2, S2)) : hk_stl t S V = hk_stl t S2 V2 := by
  rw [← hk_stl_le hp S V, h]
/-- a sign between two: can it stand, what comes of it -/
def hk_gf (t : Nat) (V : List Int64) (S : List Nat) : Prop := hk_tg t = 3 ∧ hk_top3 (hk_stl 4 S V).2 = true
def hk_nmo (c : Int32) : Int32 := if c = 102 then 4 else if c = 109 then 5 else if c = 115 then 3 else if c = 116 then 0 else if c = 121 then 1 else if c = 122 then 2 else -1
def hk_de (g : Nat → Int32) (n i : Nat) : Nat := if h : i < n ∧ (¬ g i < 48 ∧ ¬ 57 < g i) then hk_de g n (i + 1) else i
termination_by n - i
decreasing_by omega
def hk_dv (g : Nat → Int32) (i : Nat) : Nat → Nat
  | 0 => 0
  | c + 1 => 10 * hk_dv g i c + ((g (i + c)).toNatClampNeg - 48)
theorem hk_de_y {g : Nat → Int32} {n i : Nat} (h : i < n) (h1 : ¬ g i < 48) (h2 : ¬ 57 < g i) : hk_de g n i = hk_de g n (i + 1) := by
  rw [hk_de, dif_pos ⟨h, h1, h2⟩]
theorem hk_de_n {g : Nat → Int32} {n i : Nat} (h : ¬ (i < n ∧ (¬ g i < 48 ∧ ¬ 57 < g i))) : hk_de g n i = i := by
  rw [hk_de, dif_neg h]
theorem hk_de_ge {g : Nat → Int32} {n : Nat} : ∀ (m i : Nat), i + m = n → i ≤ hk_de g n i ∧ hk_de g n i ≤ n
  | 0, i, h => by
    rw [hk_de_n (i := i) (n := n) (fun q => by have := q.1; omega)]
    omega
  | m + 1, i, h => by
    by_cases c : i < n ∧ (¬ g i < 48 ∧ ¬ 57 < g i)
    · rw [hk_de_y c.1 c.2.1 c.2.2]
      have := hk_de_ge (g := g) (n := n) m (i + 1) (by omega)
      omega
    · rw [hk_de_n c]
      omega
theorem hk_de_b {g : Nat → Int32} {n i : Nat} (h : i ≤ n) : i ≤ hk_de g n i ∧ hk_de g n i ≤ n := hk_de_ge (n - i) i (by omega)
theorem hk_de_s {g : Nat → Int32} {n i : Nat} (h : i < n) (h1 : ¬ g i < 48) (h2 : ¬ 57 < g i) : i < hk_de g n i := by
  rw [hk_de_y h h1 h2]
  exact (hk_de_b (by omega)).1
theorem hk_dv_lt {g : Nat → Int32} {i : Nat} : ∀ c, (∀ j, j < c → ¬ g (i + j) < 48 ∧ ¬ 57 < g (i + j)) → hk_dv g i c < 10 ^ c
  | 0, _ => Nat.one_pos
  | c + 1, h => by
    have ih := hk_dv_lt c (fun j hj => h j (by omega))
    have hc := h c (by omega)
    obtain ⟨m, hm, e⟩ := hk_rng (n := 57) (by decide) (v := g (i + c)) (fun q => hc.1 (Int32.lt_trans q (by decide))) hc.2
    rw [hk_dv, e, nI_clamp (by omega), Nat.pow_succ]
    omega
/-- the reading, from a sign on -/
def hk_sy (g : Nat → Int32) (n : Nat) (nm : Int32 → Int64) (i : Nat) (V : List Int64) (S : List Nat) (o wh : Nat) : Int32 × List Int64 :=
  if h : i < n then
    if g i = 32 then hk_sy g n nm (i + 1) V S o wh
    else if wh = 1 then
      if g i = 41 ∧ 0 < o then hk_sy g n nm (i + 1) (hk_stl 6 (hk_stl 1 S V).2.tail (hk_stl 1 S V).1).1 (hk_stl 6 (hk_stl 1 S V).2.tail (hk_stl 1 S V).1).2 (o - 1) 1
      else if hk_so (g i) = -1 then (nI (10 * i + 1), [])
      else if hk_tg (hk_so (g i)).toNatClampNeg = 3 ∧ hk_top3 (hk_stl 4 S V).2 = true then (nI (10 * i + 1), [])
      else hk_sy g n nm (i + 1) (hk_stl (hk_tg (hk_so (g i)).toNatClampNeg) S V).1 ((hk_so (g i)).toNatClampNeg :: (hk_stl (hk_tg (hk_so (g i)).toNatClampNeg) S V).2) o 0
    else if hd : ¬ g i < 48 ∧ ¬ 57 < g i then
      if 6 < hk_de g n i - i then (nI (10 * i + 2), [])
      else hk_sy g n nm (hk_de g n i) (hk_stl 6 S ((nI (hk_dv g i (hk_de g n i - i))).toInt64 :: V)).1 (hk_stl 6 S ((nI (hk_dv g i (hk_de g n i - i))).toInt64 :: V)).2 o 1
    else if ¬ hk_nmo (g i) = -1 then hk_sy g n nm (i + 1) (hk_stl 6 S (nm (hk_nmo (g i)) :: V)).1 (hk_stl 6 S (nm (hk_nmo (g i)) :: V)).2 o 1
    else if g i = 40 then
      if o = 8 then (nI (10 * i + 3), []) else hk_sy g n nm (i + 1) V (13 :: S) (o + 1) 0
    else if g i = 45 ∨ g i = 33 then hk_sy g n nm (i + 1) V ((if g i = 45 then 3 else 2) :: S) o 0
    else (nI (10 * i + 1), [])
  else if wh = 1 ∧ o = 0 then (-1, (hk_stl 1 S V).1) else (nI (10 * n + 1), [])
termination_by n - i
decreasing_by
  all_goals first | omega | (have := hk_de_s h hd.1 hd.2; omega)
section HKEC
variable {g : Nat → Int32} {n i o wh : Nat} {nm : Int32 → Int64} {V : List Int64} {S : List Nat}
theorem hk_sy_sp (h : i < n) (hc : g i = 32) : hk_sy g n nm i V S o wh = hk_sy g n nm (i + 1) V S o wh := by
  rw [hk_sy, dif_pos h, if_pos hc]
theorem hk_sy_end (h : ¬ i < n) : hk_sy g n nm i V S o wh = if wh = 1 ∧ o = 0 then (-1, (hk_stl 1 S V).1) else (nI (10 * n + 1), []) := by
  rw [hk_sy, dif_neg h]
theorem hk_sy_close (h : i < n) (hc : g i = 41) (ho : 0 < o) : hk_sy g n nm i V S o 1 = hk_sy g n nm (i + 1) (hk_stl 6 (hk_stl 1 S V).2.tail (hk_stl 1 S V).1).1 (hk_stl 6 (hk_stl 1 S V).2.tail (hk_stl 1 S V).1).2 (o - 1) 1 := by
  rw [hk_sy, dif_pos h, if_neg (by rw [hc]; decide), if_pos rfl, if_pos ⟨hc, ho⟩]
theorem hk_sy_op {t : Nat} (h : i < n) (hc : hk_so (g i) = nI t) (h4 : 4 ≤ t) (h12 : t ≤ 12) (hf : ¬ hk_gf t V S) : hk_sy g n nm i V S o 1 = hk_sy g n nm (i + 1) (hk_stl (hk_tg t) S V).1 (t :: (hk_stl (hk_tg t) S V).2) o 0 := by
  have e32 : ¬ g i = 32 := fun q => by rw [q] at hc; exact hk_nm1 (i := t) (by omega) hc.symm
  have e41 : ¬ g i = 41 := fun q => by rw [q] at hc; exact hk_nm1 (i := t) (by omega) hc.symm
  have e1 : ¬ hk_so (g i) = -1 := fun q => by rw [q] at hc; exact hk_nm1 (i := t) (by omega) hc.symm
  have et : (hk_so (g i)).toNatClampNeg = t := by rw [hc, nI_clamp (by omega)]
  rw [hk_sy, dif_pos h, if_neg e32, if_pos rfl, if_neg (fun q => e41 q.1), if_neg e1, et, if_neg (show ¬ (hk_tg t = 3 ∧ hk_top3 (hk_stl 4 S V).2 = true) from hf)]
theorem hk_sy_bad (h : i < n) (h32 : ¬ g i = 32) (h41 : ¬ (g i = 41 ∧ 0 < o)) (hc : hk_so (g i) = -1 ∨ ∃ t, hk_so (g i) = nI t ∧ 4 ≤ t ∧ t ≤ 12 ∧ hk_gf t V S) : hk_sy g n nm i V S o 1 = (nI (10 * i + 1), []) := by
  rw [hk_sy, dif_pos h, if_neg h32, if_pos rfl, if_neg h41]
  by_cases e1 : hk_so (g i) = -1
  · rw [if_pos e1]
  · obtain ⟨t, et, h4, h12, hf⟩ := hc.elim (fun q => absurd q e1) id
    have et2 : (hk_so (g i)).toNatClampNeg = t := by rw [et, nI_clamp (by omega)]
    rw [if_neg e1, et2, if_pos (show hk_tg t = 3 ∧ hk_top3 (hk_stl 4 S V).2 = true from hf)]
theorem hk_n10 : ¬ (0 : Nat) = 1 := by decide
theorem hk_dg_32 {c : Int32} (h : ¬ c < 48 ∧ ¬ 57 < c) : ¬ c = 32 := fun q => h.1 (by rw [q]; decide)
theorem hk_sy_dig6 (h : i < n) (hd : ¬ g i < 48 ∧ ¬ 57 < g i) (h6 : 6 < hk_de g n i - i) : hk_sy g n nm i V S o 0 = (nI (10 * i + 2), []) := by
  rw [hk_sy, dif_pos h, if_neg (hk_dg_32 hd), if_neg hk_n10, dif_pos hd, if_pos h6]
theorem hk_sy_dig (h : i < n) (hd : ¬ g i < 48 ∧ ¬ 57 < g i) (h6 : ¬ 6 < hk_de g n i - i) : hk_sy g n nm i V S o 0 = hk_sy g n nm (hk_de g n i) (hk_stl 6 S ((nI (hk_dv g i (hk_de g n i - i))).toInt64 :: V)).1 (hk_stl 6 S ((nI (hk_dv g i (hk_de g n i - i))).toInt64 :: V)).2 o 1 := by
  rw [hk_sy, dif_pos h, if_neg (hk_dg_32 hd), if_neg hk_n10, dif_pos hd, if_neg h6]
theorem hk_nmo_c {c : Int32} (h : ¬ hk_nmo c = -1) : c = 102 ∨ c = 109 ∨ c = 115 ∨ c = 116 ∨ c = 121 ∨ c = 122 := by
  unfold hk_nmo at h
  by_cases c1 : c = 102
  · exact Or.inl c1
  by_cases c2 : c = 109
  · exact Or.inr (Or.inl c2)
  by_cases c3 : c = 115
  · exact Or.inr (Or.inr (Or.inl c3))
  by_cases c4 : c = 116
  · exact Or.inr (Or.inr (Or.inr (Or.inl c4)))
  by_cases c5 : c = 121
  · exact Or.inr (Or.inr (Or.inr (Or.inr (Or.inl c5))))
  by_cases c6 : c = 122
  · exact Or.inr (Or.inr (Or.inr (Or.inr (Or.inr c6))))
  rw [if_neg c1, if_neg c2, if_neg c3, if_neg c4, if_neg c5, if_neg c6] at h
  exact absurd rfl h
theorem hk_nmo_d {c : Int32} (h : ¬ hk_nmo c = -1) : ¬ c = 32 ∧ ¬ (¬ c < 48 ∧ ¬ 57 < c) := by
  rcases hk_nmo_c h with e | e | e | e | e | e <;> subst e <;> decide
theorem hk_sy_name (h : i < n) (hc : ¬ hk_nmo (g i) = -1) : hk_sy g n nm i V S o 0 = hk_sy g n nm (i + 1) (hk_stl 6 S (nm (hk_nmo (g i)) :: V)).1 (hk_stl 6 S (nm (hk_nmo (g i)) :: V)).2 o 1 := by
  rw [hk_sy, dif_pos h, if_neg (hk_nmo_d hc).1, if_neg hk_n10, dif_neg (hk_nmo_d hc).2, if_pos hc]
theorem hk_sy_deep (h : i < n) (hc : g i = 40) (ho : o = 8) : hk_sy g n nm i V S o 0 = (nI (10 * i + 3), []) := by
  rw [hk_sy, dif_pos h, if_neg (by rw [hc]; decide), if_neg hk_n10, dif_neg (by rw [hc]; decide), if_neg (by rw [hc]; decide), if_pos hc, if_pos ho]
theorem hk_sy_open (h : i < n) (hc : g i = 40) (ho : ¬ o = 8) : hk_sy g n nm i V S o 0 = hk_sy g n nm (i + 1) V (13 :: S) (o + 1) 0 := by
  rw [hk_sy, dif_pos h, if_neg (by rw [hc]; decide), if_neg hk_n10, dif_neg (by rw [hc]; decide), if_neg (by rw [hc]; decide), if_pos hc, if_neg ho]
theorem hk_sy_pre {v : Nat} (h : i < n) (hc : g i = 45 ∧ v = 3 ∨ g i = 33 ∧ v = 2) : hk_sy g n nm i V S o 0 = hk_sy g n nm (i + 1) V (v :: S) o 0 := by
  rcases hc with ⟨hc, rfl⟩ | ⟨hc, rfl⟩
  · rw [hk_sy, dif_pos h, if_neg (by rw [hc]; decide), if_neg hk_n10, dif_neg (by rw [hc]; decide), if_neg (by rw [hc]; decide), if_neg (by rw [hc]; decide), if_pos (Or.inl hc), if_pos hc]
  · rw [hk_sy, dif_pos h, if_neg (by rw [hc]; decide), if_neg hk_n10, dif_neg (by rw [hc]; decide), if_neg (by rw [hc]; decide), if_neg (by rw [hc]; decide), if_pos (Or.inr hc), if_neg (by rw [hc]; decide)]
theorem hk_sy_bad0 (h : i < n) (h32 : ¬ g i = 32) (hd : ¬ (¬ g i < 48 ∧ ¬ 57 < g i)) (hn : hk_nmo (g i) = -1) (h40 : ¬ g i = 40) (h45 : ¬ g i = 45) (h33 : ¬ g i = 33) : hk_sy g n nm i V S o 0 = (nI (10 * i + 1), []) := by
  rw [hk_sy, dif_pos h, if_neg h32, if_neg hk_n10, dif_neg hd, if_neg (fun q => q hn), if_neg h40, if_neg (fun q => q.elim h45 h33)]
/-- the next sign that is no blank -/
def hk_nx (g : Nat → Int32) (n i : Nat) : Nat := if h : i < n ∧ g i = 32 then hk_nx g n (i + 1) else i
termination_by n - i
decreasing_by omega
theorem hk_nx_y (h : i < n) (hc : g i = 32) : hk_nx g n i = hk_nx g n (i + 1) := by rw [hk_nx, dif_pos ⟨h, hc⟩]
theorem hk_nx_n (h : ¬ (i < n ∧ g i = 32)) : hk_nx g n i = i := by rw [hk_nx, dif_neg h]
theorem hk_nx_a : ∀ (m i : Nat), i + m = n → i ≤ hk_nx g n i ∧ hk_nx g n i ≤ n ∧ (hk_nx g n i < n → ¬ g (hk_nx g n i) = 32) ∧ ∀ nm V S o wh, hk_sy g n nm i V S o wh = hk_sy g n nm (hk_nx g n i) V S o wh
  | 0, i, h => by
    rw [hk_nx_n (i := i) (fun q => by have := q.1; omega)]
    exact ⟨by omega, by omega, fun q => by omega, fun _ _ _ _ _ => rfl⟩
  | m + 1, i, h => by
    by_cases c : i < n ∧ g i = 32
    · obtain ⟨h1, h2, h3, h4⟩ := hk_nx_a m (i + 1) (by omega)
      rw [hk_nx_y c.1 c.2]
      exact ⟨by omega, h2, h3, fun nm V S o wh => (hk_sy_sp c.1 c.2).trans (h4 nm V S o wh)⟩
    · rw [hk_nx_n c]
      exact ⟨by omega, by omega, fun q e => c ⟨q, e⟩, fun _ _ _ _ _ => rfl⟩
theorem hk_nx_b (h : i ≤ n) : i ≤ hk_nx g n i ∧ hk_nx g n i ≤ n ∧ (hk_nx g n i < n → ¬ g (hk_nx g n i) = 32) ∧ ∀ nm V S o wh, hk_sy g n nm i V S o wh = hk_sy g n nm (hk_nx g n i) V S o wh := hk_nx_a (n - i) i (by omega)
theorem hk_nx_nx (h : i ≤ n) : hk_nx g n (hk_nx g n i) = hk_nx g n i := by
  obtain ⟨h1, h2, h3, _⟩ := hk_nx_b (g := g) h
  exact hk_nx_n (fun q => h3 q.1 q.2)
/-- a sign that holds so tight can't stand next -/
def hk_nn (g : Nat → Int32) (n p j : Nat) (V : List Int64) (S : List Nat) : Prop := ∀ t, hk_nx g n j < n → hk_so (g (hk_nx g n j)) = nI t → 4 ≤ t → t ≤ 12 → p ≤ hk_tg t → hk_gf t V S
end HKEC
