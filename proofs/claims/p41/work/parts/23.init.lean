/-! ===== functions given by lists; new cells ===== -/
def hk_lf {α : Type} (z : α) (R : List (List α)) (p k : Nat) : α := (((R[p]?).getD [])[k]?).getD z
def hk_ls1 {α : Type} (z : α) : Nat → α → List α → List α
  | 0, x, [] => [x]
  | 0, x, _ :: r => x :: r
  | k + 1, x, [] => z :: hk_ls1 z k x []
  | k + 1, x, a :: r => a :: hk_ls1 z k x r
def hk_ls2 {α : Type} (z : α) : Nat → Nat → α → List (List α) → List (List α)
  | 0, k, x, [] => [hk_ls1 z k x []]
  | 0, k, x, a :: r => hk_ls1 z k x a :: r
  | p + 1, k, x, [] => [] :: hk_ls2 z p k x []
  | p + 1, k, x, a :: r => a :: hk_ls2 z p k x r
theorem hk_ls1_at {α : Type} {z x : α} : ∀ (k : Nat) (r : List α) (j : Nat), ((hk_ls1 z k x r)[j]?).getD z = if j = k then x else (r[j]?).getD z
  | 0, [], 0 => rfl
  | 0, [], j + 1 => by simp [hk_ls1]
  | 0, a :: r, 0 => rfl
  | 0, a :: r, j + 1 => by simp [hk_ls1]
  | k + 1, [], 0 => by simp [hk_ls1]
  | k + 1, [], j + 1 => by
    have := hk_ls1_at (z := z) (x := x) k [] j
    simp only [hk_ls1, List.getElem?_cons_succ, this]
    by_cases h : j = k
    · subst h; simp
    · simp [h]
  | k + 1, a :: r, 0 => by simp [hk_ls1]
  | k + 1, a :: r, j + 1 => by
    have := hk_ls1_at (z := z) (x := x) k r j
    simp only [hk_ls1, List.getElem?_cons_succ, this]
    by_cases h : j = k
    · subst h; simp
    · simp [h]
theorem hk_ls2_at {α : Type} {z x : α} {k : Nat} : ∀ (p : Nat) (R : List (List α)) (q j : Nat), hk_lf z (hk_ls2 z p k x R) q j = if q = p then (if j = k then x else hk_lf z R q j) else hk_lf z R q j
  | 0, [], 0, j => by simp only [hk_ls2, hk_lf, List.getElem?_cons_zero, Option.getD_some, hk_ls1_at]; simp
  | 0, [], q + 1, j => by simp [hk_ls2, hk_lf]
  | 0, a :: r, 0, j => by simp only [hk_ls2, hk_lf, List.getElem?_cons_zero, Option.getD_some, hk_ls1_at]; simp
  | 0, a :: r, q + 1, j => by simp [hk_ls2, hk_lf]
  | p + 1, [], 0, j => by simp [hk_ls2, hk_lf]
  | p + 1, [], q + 1, j => by
    have := hk_ls2_at (z := z) (x := x) (k := k) p [] q j
    unfold hk_lf at this ⊢
    simp only [hk_ls2, List.getElem?_cons_succ, this]
    simp
  | p + 1, a :: r, 0, j => by simp [hk_ls2, hk_lf]
  | p + 1, a :: r, q + 1, j => by
    have := hk_ls2_at (z := z) (x := x) (k := k) p r q j
    unfold hk_lf at this ⊢
    simp only [hk_ls2, List.getElem?_cons_succ, this]
    simp
/-- places B .. B + n - 1 by a list, the rest as before -/
def hk_ov {α : Type} (z : α) (B n : Nat) (R : List (List α)) (f : Nat → Nat → α) (p q : Nat) : α := if B ≤ p ∧ p < B + n then hk_lf z R (p - B) q else f p q
theorem hk_ov_0 {α : Type} {z : α} {B : Nat} {f : Nat → Nat → α} : hk_ov z B 0 [] f = f := by
  funext p q
  unfold hk_ov
  rw [if_neg (by omega)]
theorem hk_ov_z {α : Type} {z : α} {B n m p : Nat} {R : List (List α)} {f : Nat → Nat → α} (hp : p = B + n) (hR : R.length ≤ n) (hm : m = n + 1) : hk_z (hk_ov z B n R f) p z = hk_ov z B m R f := by
  subst hp hm
  funext a q
  unfold hk_z hk_ov
  by_cases h : a = B + n
  · subst h
    rw [if_pos rfl, if_pos (by omega)]
    unfold hk_lf
    have e : R[B + n - B]? = none := List.getElem?_eq_none (by omega)
    rw [e]
    rfl
  · rw [if_neg h]
    by_cases h2 : B ≤ a ∧ a < B + n
    · rw [if_pos h2, if_pos (by omega)]
    · rw [if_neg h2, if_neg (by omega)]
theorem hk_ov_u2 {B n p k : Nat} {x : Int32} {R : List (List Int32)} {f : Nat → Nat → Int32} (hp : B ≤ p) (hq : p < B + n) : hk_u2 (hk_ov 0 B n R f) p k x = hk_ov 0 B n (hk_ls2 0 (p - B) k x R) f := by
  funext a q
  unfold hk_u2
  by_cases h : a = p
  · subst h
    rw [if_pos rfl]
    unfold hk_ov
    rw [if_pos ⟨hp, hq⟩, hk_ls2_at, if_pos rfl]
    by_cases h2 : q = k
    · subst h2; rw [pk_us, if_pos rfl]
    · rw [pk_un h2, if_neg h2, if_pos ⟨hp, hq⟩]
  · rw [if_neg h]
    unfold hk_ov
    by_cases h2 : B ≤ a ∧ a < B + n
    · rw [if_pos h2, if_pos h2, hk_ls2_at, if_neg (by omega)]
    · rw [if_neg h2, if_neg h2]
theorem hk_ov_uR {B n p k x : Nat} {R : List (List Nat)} {f : Nat → Nat → Nat} (hp : B ≤ p) (hq : p < B + n) : hk_uR (hk_ov 0 B n R f) p k x = hk_ov 0 B n (hk_ls2 0 (p - B) k x R) f := by
  funext a q
  unfold hk_uR
  by_cases h : a = p
  · subst h
    rw [if_pos rfl]
    show (if q = k then x else hk_ov 0 B n R f a q) = _
    unfold hk_ov
    rw [if_pos (And.intro hp hq), if_pos (And.intro hp hq), hk_ls2_at, if_pos rfl]
  · rw [if_neg h]
    unfold hk_ov
    by_cases h2 : B ≤ a ∧ a < B + n
    · rw [if_pos h2, if_pos h2, hk_ls2_at, if_neg (by omega)]
    · rw [if_neg h2, if_neg h2]
/-- the next place is p -/
def hk_up (al : List Nat) (p : Nat) : Prop := p < 95 ∧ (∀ q ∈ al, q < p ∨ q = 95) ∧ al.length = p + (if al.contains 95 then 1 else 0)
theorem hk_up_np {al : List Nat} {p n : Nat} (h : hk_up al p) (hn : Nat.beq n 100000 = false) : hk_np 95 100000 al n = p ∧ al.contains p = false := by
  obtain ⟨h1, h2, h3⟩ := h
  refine ⟨?_, ?_⟩
  · unfold hk_np
    rw [hn]
    cases hc : al.contains 95 with
    | true => rw [hc] at h3; simp only [if_pos] at h3 ⊢; omega
    | false => rw [hc] at h3; simp at h3 ⊢; omega
  · cases hc : al.contains p with
    | false => rfl
    | true =>
      rcases h2 p (List.contains_iff_mem.mp hc) with h4 | h4 <;> omega
theorem hk_up_nx {al : List Nat} {p q : Nat} (h : hk_up al p) (hq : q = p + 1) (hp : q < 95) : hk_up (al ++ [p]) q := by
  subst hq
  obtain ⟨h1, h2, h3⟩ := h
  have e : (al ++ [p]).contains 95 = al.contains 95 := by
    cases hc : al.contains 95 with
    | true =>
      have := List.contains_iff_mem.mp hc
      exact List.contains_iff_mem.mpr (List.mem_append_left _ this)
    | false =>
      cases hd : (al ++ [p]).contains 95 with
      | false => rfl
      | true =>
        rcases List.mem_append.mp (List.contains_iff_mem.mp hd) with h4 | h4
        · rw [List.contains_iff_mem.mpr h4] at hc; cases hc
        · rw [List.mem_singleton] at h4; omega
  refine ⟨hp, fun q hq => ?_, ?_⟩
  · rcases List.mem_append.mp hq with h4 | h4
    · rcases h2 q h4 with h5 | h5 <;> omega
    · rw [List.mem_singleton] at h4; omega
  · rw [e, List.length_append, List.length_singleton, h3]
    omega
theorem hk_mkI {nx : hk_L → List Value → hk_H → Prop} {L : hk_L} {r : List Value} {s : Nat → Nat → Int32} {lm : Nat → Nat → Int64} {rr : Nat → Nat → Nat} {al : List Nat} {k n p : Nat} (u : hk_up al p) (hs : hk_is (hk_SH p) k n = true) (hn : Nat.beq n 100000 = false) (P : nx L (.ref p :: r) (hk_z s p 0, hk_z lm p 0, hk_z rr p 0, al ++ [p])) : hk_mk hk_SH 95 100000 False nx L r (s, lm, rr, al) k n := by
  obtain ⟨h1, h2⟩ := hk_up_np (n := n) u hn
  unfold hk_mk
  simp only
  rw [h1, hs, h2]
  exact P
theorem hk_nai {nx : hk_L → List Value → hk_H → Prop} {L : hk_L} {r : List Value} {s : Nat → Nat → Int32} {lm : Nat → Nat → Int64} {rr : Nat → Nat → Nat} {al : List Nat} {k p : Nat} {v : Int32} (N : Nat) (e : v = nI N) (hN : Nat.ble N 200000 = true) (u : hk_up al p) (hs : hk_is (hk_SH p) k N = true) (hn : Nat.beq N 100000 = false) (P : nx L (.ref p :: r) (hk_z s p 0, hk_z lm p 0, hk_z rr p 0, al ++ [p])) : (¬ v < 0 ∧ v.toNatClampNeg ≤ 200000) ∧ hk_mk hk_SH 95 100000 False nx L r (s, lm, rr, al) k v.toNatClampNeg := by
  subst e
  have h1 := Nat.le_of_ble_eq_true hN
  rw [nI_clamp (by omega)]
  exact ⟨⟨nI_pos (by omega), h1⟩, hk_mkI u hs hn P⟩
/-! ===== the constructors ===== -/
theorem hk_uR_id {rr : Nat → Nat → Nat} {p k x : Nat} (h : rr p k = x) : rr = hk_uR rr p k x := by
  funext a b
  unfold hk_uR
  by_cases h1 : a = p
  · subst h1
    rw [if_pos rfl]
    show rr a b = if b = k then x else rr a b
    by_cases h2 : b = k
    · subst h2; rw [if_pos rfl, h]
    · rw [if_neg h2]
  · rw [if_neg h1]
section HKN
variable {d : Nat} {s : Nat → Nat → Int32} {lm : Nat → Nat → Int64} {rr : Nat → Nat → Nat} {al : List Nat} {k : Option Value → hk_H → Prop}
theorem n_table_2 (u : hk_up al 3) (h1 : ∀ s2 lm2 rr2 al2, s2 = hk_z (hk_u2 (hk_u2 s 2 0 6) 2 1 9) 3 0 → lm2 = hk_z lm 3 0 → rr2 = hk_uR (hk_z rr 3 0) 2 2 3 → al2 = al ++ [3] → k none (s2, lm2, rr2, al2)) : hk_Cl (d + 1) 2 [.ref 2, .int 6, .int 9] (s, lm, rr, al) k := by
  refine hk_mth hk_m2 rfl rfl (n := 1000) ?_
  refine hk_nai 54 rfl rfl u rfl rfl ?_
  exact h1 _ _ _ _ rfl rfl rfl rfl
theorem n_table_4 (u : hk_up al 5) (h1 : ∀ s2 lm2 rr2 al2, s2 = hk_z (hk_u2 (hk_u2 s 4 0 96) 4 1 6) 5 0 → lm2 = hk_z lm 5 0 → rr2 = hk_uR (hk_z rr 5 0) 4 2 5 → al2 = al ++ [5] → k none (s2, lm2, rr2, al2)) : hk_Cl (d + 1) 2 [.ref 4, .int 96, .int 6] (s, lm, rr, al) k := by
  refine hk_mth hk_m2 rfl rfl (n := 1000) ?_
  refine hk_nai 576 rfl rfl u rfl rfl ?_
  exact h1 _ _ _ _ rfl rfl rfl rfl
theorem n_table_6 (u : hk_up al 7) (h1 : ∀ s2 lm2 rr2 al2, s2 = hk_z (hk_u2 (hk_u2 s 6 0 150) 6 1 5) 7 0 → lm2 = hk_z lm 7 0 → rr2 = hk_uR (hk_z rr 7 0) 6 2 7 → al2 = al ++ [7] → k none (s2, lm2, rr2, al2)) : hk_Cl (d + 1) 2 [.ref 6, .int 150, .int 5] (s, lm, rr, al) k := by
  refine hk_mth hk_m2 rfl rfl (n := 1000) ?_
  refine hk_nai 750 rfl rfl u rfl rfl ?_
  exact h1 _ _ _ _ rfl rfl rfl rfl
theorem n_table_8 (u : hk_up al 9) (h1 : ∀ s2 lm2 rr2 al2, s2 = hk_z (hk_u2 (hk_u2 s 8 0 4) 8 1 3) 9 0 → lm2 = hk_z lm 9 0 → rr2 = hk_uR (hk_z rr 9 0) 8 2 9 → al2 = al ++ [9] → k none (s2, lm2, rr2, al2)) : hk_Cl (d + 1) 2 [.ref 8, .int 4, .int 3] (s, lm, rr, al) k := by
  refine hk_mth hk_m2 rfl rfl (n := 1000) ?_
  refine hk_nai 12 rfl rfl u rfl rfl ?_
  exact h1 _ _ _ _ rfl rfl rfl rfl
theorem n_table_10 (u : hk_up al 11) (h1 : ∀ s2 lm2 rr2 al2, s2 = hk_z (hk_u2 (hk_u2 s 10 0 4) 10 1 61) 11 0 → lm2 = hk_z lm 11 0 → rr2 = hk_uR (hk_z rr 11 0) 10 2 11 → al2 = al ++ [11] → k none (s2, lm2, rr2, al2)) : hk_Cl (d + 1) 2 [.ref 10, .int 4, .int 61] (s, lm, rr, al) k := by
  refine hk_mth hk_m2 rfl rfl (n := 1000) ?_
  refine hk_nai 244 rfl rfl u rfl rfl ?_
  exact h1 _ _ _ _ rfl rfl rfl rfl
theorem n_table_12 (u : hk_up al 13) (h1 : ∀ s2 lm2 rr2 al2, s2 = hk_z (hk_u2 (hk_u2 s 12 0 4) 12 1 3) 13 0 → lm2 = hk_z lm 13 0 → rr2 = hk_uR (hk_z rr 13 0) 12 2 13 → al2 = al ++ [13] → k none (s2, lm2, rr2, al2)) : hk_Cl (d + 1) 2 [.ref 12, .int 4, .int 3] (s, lm, rr, al) k := by
  refine hk_mth hk_m2 rfl rfl (n := 1000) ?_
  refine hk_nai 12 rfl rfl u rfl rfl ?_
  exact h1 _ _ _ _ rfl rfl rfl rfl
theorem n_table_14 (u : hk_up al 15) (h1 : ∀ s2 lm2 rr2 al2, s2 = hk_z (hk_u2 (hk_u2 s 14 0 20) 14 1 2) 15 0 → lm2 = hk_z lm 15 0 → rr2 = hk_uR (hk_z rr 15 0) 14 2 15 → al2 = al ++ [15] → k none (s2, lm2, rr2, al2)) : hk_Cl (d + 1) 2 [.ref 14, .int 20, .int 2] (s, lm, rr, al) k := by
  refine hk_mth hk_m2 rfl rfl (n := 1000) ?_
  refine hk_nai 40 rfl rfl u rfl rfl ?_
  exact h1 _ _ _ _ rfl rfl rfl rfl
theorem n_table_16 (u : hk_up al 17) (h1 : ∀ s2 lm2 rr2 al2, s2 = hk_z (hk_u2 (hk_u2 s 16 0 8) 16 1 2) 17 0 → lm2 = hk_z lm 17 0 → rr2 = hk_uR (hk_z rr 17 0) 16 2 17 → al2 = al ++ [17] → k none (s2, lm2, rr2, al2)) : hk_Cl (d + 1) 2 [.ref 16, .int 8, .int 2] (s, lm, rr, al) k := by
  refine hk_mth hk_m2 rfl rfl (n := 1000) ?_
  refine hk_nai 16 rfl rfl u rfl rfl ?_
  exact h1 _ _ _ _ rfl rfl rfl rfl
theorem n_table_18 (u : hk_up al 19) (h1 : ∀ s2 lm2 rr2 al2, s2 = hk_z (hk_u2 (hk_u2 s 18 0 8) 18 1 3) 19 0 → lm2 = hk_z lm 19 0 → rr2 = hk_uR (hk_z rr 19 0) 18 2 19 → al2 = al ++ [19] → k none (s2, lm2, rr2, al2)) : hk_Cl (d + 1) 2 [.ref 18, .int 8, .int 3] (s, lm, rr, al) k := by
  refine hk_mth hk_m2 rfl rfl (n := 1000) ?_
  refine hk_nai 24 rfl rfl u rfl rfl ?_
  exact h1 _ _ _ _ rfl rfl rfl rfl
end HKN
-- GEN
section HKG
variable {d t n : Nat} {r c v : Int32} {s : Nat → Nat → Int32} {lm : Nat → Nat → Int64} {rr : Nat → Nat → Nat} {al : List Nat} {k : Option Value → hk_H → Prop}
theorem g_full (ht : hk_tb t) (h1 : s t 0 ≤ s t 3 → k (some (.int 1)) (s, lm, hk_uR rr t 2 (t + 1), al)) (h0 : s t 3 < s t 0 → k (some (.int 0)) (s, lm, hk_uR rr t 2 (t + 1), al)) : hk_Cl (d + 1) 4 [.ref t] (s, lm, hk_uR rr t 2 (t + 1), al) k := by
  rcases ht with rfl | rfl | rfl | rfl | rfl | rfl | rfl | rfl | rfl
  all_goals
    refine hk_mth hk_m4 rfl rfl (n := 1000) ?_
    refine And.intro (fun c1 => ?_) (fun c1 => ?_)
    · exact And.intro (Or.inl rfl) (h0 c1)
    · exact And.intro (Or.inr rfl) (h1 (Int32.not_lt.mp c1))
theorem g_put_in (ht : hk_tb t) (hw : hk_tw s t n) {i j : Nat} (hi : i < hk_mo t) (hj : j < hk_co t) (h1 : k none (hk_u2 s (t + 1) (i * hk_co t + j) v, lm, hk_uR rr t 2 (t + 1), al)) : hk_Cl (d + 1) 5 [.ref t, .int (nI i), .int (nI j), .int v] (s, lm, hk_uR rr t 2 (t + 1), al) k := by
  obtain ⟨g1, g2⟩ := hk_cell ht hw hi (Nat.le_refl _) hj
  obtain ⟨g3, g4⟩ := hk_mo31 ht
  have a1 : ¬ nI i < 0 := nI_pos (by omega)
  have a2 : ¬ s t 0 ≤ nI i := by rw [hw.1]; exact hk_nlt hi (by omega)
  have a3 : ¬ nI j < 0 := nI_pos (by omega)
  have a4 : ¬ s t 1 ≤ nI j := by rw [hw.2.1]; exact hk_nlt hj (by omega)
  rw [← g2] at h1
  rcases ht with rfl | rfl | rfl | rfl | rfl | rfl | rfl | rfl | rfl
  all_goals
    refine hk_mth hk_m5 rfl rfl (n := 1000) ?_
    refine And.intro (fun hc => absurd hc a1) (fun _ => ?_)
    refine And.intro (fun hc => absurd hc a2) (fun _ => ?_)
    refine And.intro (fun hc => absurd hc a3) (fun _ => ?_)
    refine And.intro (fun hc => absurd hc a4) (fun _ => ?_)
    exact And.intro g1 h1
theorem g_put_out (ht : hk_tb t) (hw : hk_tw s t n) {i j : Nat} (hi : i < hk_mo t) (hj : ¬ j < hk_co t) (hj2 : j < 2 ^ 30) (h1 : k none (s, lm, hk_uR rr t 2 (t + 1), al)) : hk_Cl (d + 1) 5 [.ref t, .int (nI i), .int (nI j), .int v] (s, lm, hk_uR rr t 2 (t + 1), al) k := by
  obtain ⟨g3, g4⟩ := hk_mo31 ht
  have a1 : ¬ nI i < 0 := nI_pos (by omega)
  have a2 : ¬ s t 0 ≤ nI i := by rw [hw.1]; exact hk_nlt hi (by omega)
  have a3 : ¬ nI j < 0 := nI_pos (by omega)
  have a4 : s t 1 ≤ nI j := by rw [hw.2.1]; exact nI_le (by omega) (by omega)
  rcases ht with rfl | rfl | rfl | rfl | rfl | rfl | rfl | rfl | rfl
  all_goals
    refine hk_mth hk_m5 rfl rfl (n := 1000) ?_
    refine And.intro (fun hc => absurd hc a1) (fun _ => ?_)
    refine And.intro (fun hc => absurd hc a2) (fun _ => ?_)
    refine And.intro (fun hc => absurd hc a3) (fun _ => ?_)
    refine And.intro (fun _ => ?_) (fun hc => absurd a4 hc)
    exact h1
theorem g_put_row {s2 : Nat → Nat → Int32} {f : Nat → Int32} {j : Nat} (ht : hk_tb t) (hw : hk_tw s t n) (hn : n < hk_mo t) (h : hk_adc s s2 t n (hk_co t) f) (hj : j < 5) (h1 : ∀ s3, hk_adc s s3 t n (hk_co t) (fun z => if z = j then v else f z) → k none (s3, lm, hk_uR rr t 2 (t + 1), al)) : hk_Cl (d + 1) 5 [.ref t, .int (nI n), .int (nI j), .int v] (s2, lm, hk_uR rr t 2 (t + 1), al) k := by
  by_cases hc : j < hk_co t
  · refine g_put_in ht (hk_adc_tw h hw) hn hc (h1 _ ?_)
    have := hk_adc_put (v := v) h hc (by omega)
    rwa [if_neg (by omega)] at this
  · refine g_put_out ht (hk_adc_tw h hw) hn hc (by omega) (h1 _ ⟨h.1, fun z hz => ?_⟩)
    dsimp only
    rw [if_neg (by omega)]
    exact h.2 z hz
theorem hk_gadd_end {a1 a2 a3 a4 a5 : Int32} (hw : hk_tw s t n) (h1 : ∀ s2, hk_add s s2 t n [a1, a2, a3, a4, a5] → k (some (.int (nI n))) (s2, lm, hk_uR rr t 2 (t + 1), al)) (s2 : Nat → Nat → Int32) (h2 : hk_adc s s2 t n (hk_co t) (fun z => if z = 4 then a5 else if z = 3 then a4 else if z = 2 then a3 else if z = 1 then a2 else if z = 0 then a1 else 0)) : k (some (.int (nI n))) (hk_u2 s2 t 3 (s2 t 3 + 1), lm, hk_uR rr t 2 (t + 1), al) := by
  have e : s2 t 3 + 1 = nI (n + 1) := by rw [(hk_adc_tw h2 hw).2.2.1, nI_1]
  rw [e]
  refine h1 _ (hk_adc_end h2 fun j hj => ?_)
  match j with
  | 0 => rfl
  | 1 => rfl
  | 2 => rfl
  | 3 => rfl
  | 4 => rfl
  | j + 5 => simp
theorem g_add_8 {a1 a2 a3 a4 a5 : Int32} (ht : hk_tb 8) (hw : hk_tw s 8 n) (hn : n < hk_mo 8) (h1 : ∀ s2, hk_add s s2 8 n [a1, a2, a3, a4, a5] → k (some (.int (nI n))) (s2, lm, hk_uR rr 8 2 (8 + 1), al)) : hk_Cl (d + 2) 3 [.ref 8, .int a1, .int a2, .int a3, .int a4, .int a5] (s, lm, hk_uR rr 8 2 (8 + 1), al) k := by
  have hco := hk_co2 ht
  have hmo := hk_mo31 ht
  have fin := hk_gadd_end hw h1
  refine hk_mth hk_m3 rfl rfl (n := 1000) ?_
  refine g_full ht (fun hc => absurd hc (by rw [hw.1, hw.2.2.1]; exact hk_nlt hn (by omega))) (fun _ => ?_)
  refine And.intro (fun _ => ?_) (fun hc => absurd (by decide) hc)
  have loop : ∀ (q m : Nat), m + q = hk_co 8 → ∀ s2, hk_adc s s2 8 n m (fun _ => 0) → hk_Rn (d + 1) none hk_c3 (hk_sfx 19 hk_c3) [some (.ref 8), some (.int a1), some (.int a2), some (.int a3), some (.int a4), some (.int a5), some (.int (nI n)), some (.int (nI m))] [] (s2, lm, hk_uR rr 8 2 (8 + 1), al) k := by
    intro q
    induction q with
    | zero =>
      intro m hm s2 h2
      have hc1 : s2 8 1 ≤ nI m := by rw [(hk_adc_tw h2 hw).2.1]; exact nI_le (by omega) (by omega)
      refine hk_hd (n := 1000) (t := 19) rfl ?_
      refine And.intro (fun _ => ?_) (fun hc => absurd hc1 hc)
      rw [show m = hk_co 8 by omega] at h2
      refine g_put_row (j := 0) ht hw hn h2 (by omega) fun s3 h3 => ?_
      refine g_put_row (j := 1) ht hw hn h3 (by omega) fun s4 h4 => ?_
      refine g_put_row (j := 2) ht hw hn h4 (by omega) fun s5 h5 => ?_
      refine g_put_row (j := 3) ht hw hn h5 (by omega) fun s6 h6 => ?_
      refine g_put_row (j := 4) ht hw hn h6 (by omega) fun s7 h7 => ?_
      exact fin s7 h7
    | succ q ih =>
      intro m hm s2 h2
      have hc1 : ¬ s2 8 1 ≤ nI m := by rw [(hk_adc_tw h2 hw).2.1]; exact hk_nlt (by omega) (by omega)
      refine hk_hd (n := 1000) (t := 19) rfl ?_
      refine And.intro (fun hc => absurd hc hc1) (fun _ => ?_)
      refine g_put_in ht (hk_adc_tw h2 hw) hn (j := m) (by omega) ?_
      have h3 := hk_adc_put (v := 0) h2 (j := m) (by omega) (Nat.le_refl m)
      rw [if_pos rfl] at h3
      refine hk_Rn_cast (by rw [← nI_1]; rfl) (ih (m + 1) (by omega) _ ⟨h3.1, fun z hz => ?_⟩)
      rw [h3.2 z hz]
      dsimp only
      split <;> rfl
  have h0 : hk_adc s s 8 n 0 (fun _ => 0) := ⟨fun _ _ _ => rfl, fun j hj => absurd hj (Nat.not_lt_zero j)⟩
  exact hk_Rn_cast (by rw [← hw.2.2.1]; rfl) (loop _ 0 (Nat.zero_add _) s h0)
theorem g_add_10 {a1 a2 a3 a4 a5 : Int32} (ht : hk_tb 10) (hw : hk_tw s 10 n) (hn : n < hk_mo 10) (h1 : ∀ s2, hk_add s s2 10 n [a1, a2, a3, a4, a5] → k (some (.int (nI n))) (s2, lm, hk_uR rr 10 2 (10 + 1), al)) : hk_Cl (d + 2) 3 [.ref 10, .int a1, .int a2, .int a3, .int a4, .int a5] (s, lm, hk_uR rr 10 2 (10 + 1), al) k := by
  have hco := hk_co2 ht
  have hmo := hk_mo31 ht
  have fin := hk_gadd_end hw h1
  refine hk_mth hk_m3 rfl rfl (n := 1000) ?_
  refine g_full ht (fun hc => absurd hc (by rw [hw.1, hw.2.2.1]; exact hk_nlt hn (by omega))) (fun _ => ?_)
  refine And.intro (fun _ => ?_) (fun hc => absurd (by decide) hc)
  have loop : ∀ (q m : Nat), m + q = hk_co 10 → ∀ s2, hk_adc s s2 10 n m (fun _ => 0) → hk_Rn (d + 1) none hk_c3 (hk_sfx 19 hk_c3) [some (.ref 10), some (.int a1), some (.int a2), some (.int a3), some (.int a4), some (.int a5), some (.int (nI n)), some (.int (nI m))] [] (s2, lm, hk_uR rr 10 2 (10 + 1), al) k := by
    intro q
    induction q with
    | zero =>
      intro m hm s2 h2
      have hc1 : s2 10 1 ≤ nI m := by rw [(hk_adc_tw h2 hw).2.1]; exact nI_le (by omega) (by omega)
      refine hk_hd (n := 1000) (t := 19) rfl ?_
      refine And.intro (fun _ => ?_) (fun hc => absurd hc1 hc)
      rw [show m = hk_co 10 by omega] at h2
      refine g_put_row (j := 0) ht hw hn h2 (by omega) fun s3 h3 => ?_
      refine g_put_row (j := 1) ht hw hn h3 (by omega) fun s4 h4 => ?_
      refine g_put_row (j := 2) ht hw hn h4 (by omega) fun s5 h5 => ?_
      refine g_put_row (j := 3) ht hw hn h5 (by omega) fun s6 h6 => ?_
      refine g_put_row (j := 4) ht hw hn h6 (by omega) fun s7 h7 => ?_
      exact fin s7 h7
    | succ q ih =>
      intro m hm s2 h2
      have hc1 : ¬ s2 10 1 ≤ nI m := by rw [(hk_adc_tw h2 hw).2.1]; exact hk_nlt (by omega) (by omega)
      refine hk_hd (n := 1000) (t := 19) rfl ?_
      refine And.intro (fun hc => absurd hc hc1) (fun _ => ?_)
      refine g_put_in ht (hk_adc_tw h2 hw) hn (j := m) (by omega) ?_
      have h3 := hk_adc_put (v := 0) h2 (j := m) (by omega) (Nat.le_refl m)
      rw [if_pos rfl] at h3
      refine hk_Rn_cast (by rw [← nI_1]; rfl) (ih (m + 1) (by omega) _ ⟨h3.1, fun z hz => ?_⟩)
      rw [h3.2 z hz]
      dsimp only
      split <;> rfl
  have h0 : hk_adc s s 10 n 0 (fun _ => 0) := ⟨fun _ _ _ => rfl, fun j hj => absurd hj (Nat.not_lt_zero j)⟩
  exact hk_Rn_cast (by rw [← hw.2.2.1]; rfl) (loop _ 0 (Nat.zero_add _) s h0)
end HKG
theorem hk_add_1 {s s2 : Nat → Nat → Int32} {t n : Nat} {x : Int32} (h : hk_add s s2 t n [0, 0, x, 0, 0]) (h2 : 2 < hk_co t) (hz : ∀ j, j < hk_co t → s (t + 1) (n * hk_co t + j) = 0) : s2 = hk_u2 (hk_u2 s (t + 1) (n * hk_co t + 2) x) t 3 (nI (n + 1)) := by
  funext p q
  by_cases h3 : p = t ∧ q = 3
  · rw [h3.1, h3.2, hk_u2s]; exact h.2.1
  · rw [hk_u2o h3]
    by_cases h4 : p = t + 1 ∧ n * hk_co t ≤ q ∧ q < n * hk_co t + hk_co t
    · obtain ⟨h5, h6, h7⟩ := h4
      obtain ⟨j, rfl⟩ := Nat.exists_eq_add_of_le h6
      subst h5
      have hj : j < hk_co t := by omega
      rw [h.2.2 j hj]
      by_cases h8 : j = 2
      · subst h8; rw [hk_u2s]; rfl
      · rw [hk_u2o (fun e => h8 (by omega)), hz j hj]
        match j, h8 with
        | 0, _ => rfl
        | 1, _ => rfl
        | 3, _ => rfl
        | 4, _ => rfl
        | j + 5, _ => simp
    · rw [h.1 p q h4 h3, hk_u2o (fun e => h4 ⟨e.1, by omega, by omega⟩)]
theorem hk_add_0 {s s2 : Nat → Nat → Int32} {t n : Nat} (h : hk_add s s2 t n [0, 0, 0, 0, 0]) (hz : ∀ j, j < hk_co t → s (t + 1) (n * hk_co t + j) = 0) : s2 = hk_u2 s t 3 (nI (n + 1)) := by
  funext p q
  by_cases h3 : p = t ∧ q = 3
  · rw [h3.1, h3.2, hk_u2s]; exact h.2.1
  · rw [hk_u2o h3]
    by_cases h4 : p = t + 1 ∧ n * hk_co t ≤ q ∧ q < n * hk_co t + hk_co t
    · obtain ⟨h5, h6, h7⟩ := h4
      obtain ⟨j, rfl⟩ := Nat.exists_eq_add_of_le h6
      subst h5
      have hj : j < hk_co t := by omega
      rw [h.2.2 j hj, hz j hj]
      match j with
      | 0 => rfl
      | 1 => rfl
      | 2 => rfl
      | 3 => rfl
      | 4 => rfl
      | j + 5 => simp
    · exact h.1 p q h4 h3
theorem hk_nmR {d : Nat} {scr : Option (Nat × (Nat → Int32))} {cd cs : List hk_E} {L : hk_L} {st : List Value} {h : hk_H} {k : Option Value → hk_H → Prop} (H : ∀ s2 lm2 rr2 al2, s2 = h.1 → lm2 = h.2.1 → rr2 = h.2.2.1 → al2 = h.2.2.2 → hk_Rn d scr cd cs L st (s2, lm2, rr2, al2) k) : hk_Rn d scr cd cs L st h k := H _ _ _ _ rfl rfl rfl rfl
section HKH
variable {d n : Nat} {s : Nat → Nat → Int32} {lm : Nat → Nat → Int64} {rr : Nat → Nat → Nat} {al : List Nat} {k : Option Value → hk_H → Prop}
theorem h_add_8 {a1 a2 a3 a4 a5 : Int32} (hr : rr 8 2 = 8 + 1) (hw : hk_tw s 8 n) (hn : n < hk_mo 8) (h1 : ∀ s2, hk_add s s2 8 n [a1, a2, a3, a4, a5] → k (some (.int (nI n))) (s2, lm, rr, al)) : hk_Cl (d + 2) 3 [.ref 8, .int a1, .int a2, .int a3, .int a4, .int a5] (s, lm, rr, al) k := by
  obtain ⟨rr', rfl⟩ : ∃ rr', rr = hk_uR rr' 8 2 (8 + 1) := ⟨rr, hk_uR_id hr⟩
  exact g_add_8 (by simp [hk_tb]) hw hn h1
theorem h_add_10 {a1 a2 a3 a4 a5 : Int32} (hr : rr 10 2 = 10 + 1) (hw : hk_tw s 10 n) (hn : n < hk_mo 10) (h1 : ∀ s2, hk_add s s2 10 n [a1, a2, a3, a4, a5] → k (some (.int (nI n))) (s2, lm, rr, al)) : hk_Cl (d + 2) 3 [.ref 10, .int a1, .int a2, .int a3, .int a4, .int a5] (s, lm, rr, al) k := by
  obtain ⟨rr', rfl⟩ : ∃ rr', rr = hk_uR rr' 10 2 (10 + 1) := ⟨rr, hk_uR_id hr⟩
  exact g_add_10 (by simp [hk_tb]) hw hn h1

/-- a new house -/
def hk_hi : List (List Int32) := [[0, 0, 0, 0, 0, 0, 0, 0, 0, 0, 0, 0, 0, 300, 60000, 1, 100], [6, 9], [], [96, 6], [], [150, 5], [], [4, 3, 0, 4], [0, 0, (-1), 0, 0, (-1), 0, 0, (-1), 0, 0, (-1)], [4, 61, 0, 4], [], [4, 3], [], [20, 2], [], [8, 2], [], [8, 3], [], [1, 4, 2]]
def hk_hr : List (List Nat) := [[2, 4, 6, 8, 10, 12, 14, 16, 18, 20, 21, 22], [0, 0, 3], [], [0, 0, 5], [], [0, 0, 7], [], [0, 0, 9], [], [0, 0, 11], [], [0, 0, 13], [], [0, 0, 15], [], [0, 0, 17], [], [0, 0, 19]]
theorem n_house0_1 (u : hk_up al 2) (h1 : ∀ al2, hk_up al2 23 → al2 = al ++ List.range' 2 21 → k none (hk_ov 0 1 22 hk_hi s, hk_ov 0 1 22 [] lm, hk_ov 0 1 22 hk_hr rr, al2)) : hk_Cl (d + 3) 1 [.ref 1] (hk_ov 0 1 1 [] s, hk_ov 0 1 1 [] lm, hk_ov 0 1 1 [] rr, al) k := by
  refine hk_mth hk_m1 rfl rfl (n := 1000) ?_
  refine hk_mkI u rfl rfl ?_
  have u2 := hk_up_nx u (q := 3) rfl (by decide)
  refine n_table_2 u2 (fun s2 l2 r2 a2 es2 el2 er2 ea2 => ?_)
  have u3 := hk_up_nx u2 (q := 4) rfl (by decide)
  try dsimp only at es2
  try dsimp only at el2
  try dsimp only at er2
  try dsimp only at ea2
  try dsimp only at u3
  rw [← ea2] at u3
  rw [hk_ov_z (m := 2) rfl (by decide) rfl, hk_ov_u2 (by decide) (by decide), hk_ov_u2 (by decide) (by decide), hk_ov_z (m := 3) rfl (by decide) rfl] at es2
  rw [hk_ov_z (m := 2) rfl (by decide) rfl, hk_ov_z (m := 3) rfl (by decide) rfl] at el2
  rw [hk_ov_z (m := 2) rfl (by decide) rfl, hk_ov_z (m := 3) rfl (by decide) rfl, hk_ov_uR (by decide) (by decide)] at er2
  refine hk_mkI u3 rfl rfl ?_
  have u4 := hk_up_nx u3 (q := 5) rfl (by decide)
  refine n_table_4 u4 (fun s4 l4 r4 a4 es4 el4 er4 ea4 => ?_)
  have u5 := hk_up_nx u4 (q := 6) rfl (by decide)
  try dsimp only at es4
  try dsimp only at el4
  try dsimp only at er4
  try dsimp only at ea4
  try dsimp only at u5
  rw [← ea4] at u5
  rw [es2] at es4
  rw [el2] at el4
  rw [er2, hk_ov_uR (by decide) (by decide)] at er4
  rw [ea2] at ea4
  rw [hk_ov_z (m := 4) rfl (by decide) rfl, hk_ov_u2 (by decide) (by decide), hk_ov_u2 (by decide) (by decide), hk_ov_z (m := 5) rfl (by decide) rfl] at es4
  rw [hk_ov_z (m := 4) rfl (by decide) rfl, hk_ov_z (m := 5) rfl (by decide) rfl] at el4
  rw [hk_ov_z (m := 4) rfl (by decide) rfl, hk_ov_z (m := 5) rfl (by decide) rfl, hk_ov_uR (by decide) (by decide)] at er4
  refine hk_mkI u5 rfl rfl ?_
  have u6 := hk_up_nx u5 (q := 7) rfl (by decide)
  refine n_table_6 u6 (fun s6 l6 r6 a6 es6 el6 er6 ea6 => ?_)
  have u7 := hk_up_nx u6 (q := 8) rfl (by decide)
  try dsimp only at es6
  try dsimp only at el6
  try dsimp only at er6
  try dsimp only at ea6
  try dsimp only at u7
  rw [← ea6] at u7
  rw [es4] at es6
  rw [el4] at el6
  rw [er4, hk_ov_uR (by decide) (by decide)] at er6
  rw [ea4] at ea6
  rw [hk_ov_z (m := 6) rfl (by decide) rfl, hk_ov_u2 (by decide) (by decide), hk_ov_u2 (by decide) (by decide), hk_ov_z (m := 7) rfl (by decide) rfl] at es6
  rw [hk_ov_z (m := 6) rfl (by decide) rfl, hk_ov_z (m := 7) rfl (by decide) rfl] at el6
  rw [hk_ov_z (m := 6) rfl (by decide) rfl, hk_ov_z (m := 7) rfl (by decide) rfl, hk_ov_uR (by decide) (by decide)] at er6
  refine hk_mkI u7 rfl rfl ?_
  have u8 := hk_up_nx u7 (q := 9) rfl (by decide)
  refine n_table_8 u8 (fun s8 l8 r8 a8 es8 el8 er8 ea8 => ?_)
  have u9 := hk_up_nx u8 (q := 10) rfl (by decide)
  try dsimp only at es8
  try dsimp only at el8
  try dsimp only at er8
  try dsimp only at ea8
  try dsimp only at u9
  rw [← ea8] at u9
  rw [es6] at es8
  rw [el6] at el8
  rw [er6, hk_ov_uR (by decide) (by decide)] at er8
  rw [ea6] at ea8
  rw [hk_ov_z (m := 8) rfl (by decide) rfl, hk_ov_u2 (by decide) (by decide), hk_ov_u2 (by decide) (by decide), hk_ov_z (m := 9) rfl (by decide) rfl] at es8
  rw [hk_ov_z (m := 8) rfl (by decide) rfl, hk_ov_z (m := 9) rfl (by decide) rfl] at el8
  rw [hk_ov_z (m := 8) rfl (by decide) rfl, hk_ov_z (m := 9) rfl (by decide) rfl, hk_ov_uR (by decide) (by decide)] at er8
  refine hk_mkI u9 rfl rfl ?_
  have u10 := hk_up_nx u9 (q := 11) rfl (by decide)
  refine n_table_10 u10 (fun s10 l10 r10 a10 es10 el10 er10 ea10 => ?_)
  have u11 := hk_up_nx u10 (q := 12) rfl (by decide)
  try dsimp only at es10
  try dsimp only at el10
  try dsimp only at er10
  try dsimp only at ea10
  try dsimp only at u11
  rw [← ea10] at u11
  rw [es8] at es10
  rw [el8] at el10
  rw [er8, hk_ov_uR (by decide) (by decide)] at er10
  rw [ea8] at ea10
  rw [hk_ov_z (m := 10) rfl (by decide) rfl, hk_ov_u2 (by decide) (by decide), hk_ov_u2 (by decide) (by decide), hk_ov_z (m := 11) rfl (by decide) rfl] at es10
  rw [hk_ov_z (m := 10) rfl (by decide) rfl, hk_ov_z (m := 11) rfl (by decide) rfl] at el10
  rw [hk_ov_z (m := 10) rfl (by decide) rfl, hk_ov_z (m := 11) rfl (by decide) rfl, hk_ov_uR (by decide) (by decide)] at er10
  refine hk_mkI u11 rfl rfl ?_
  have u12 := hk_up_nx u11 (q := 13) rfl (by decide)
  refine n_table_12 u12 (fun s12 l12 r12 a12 es12 el12 er12 ea12 => ?_)
  have u13 := hk_up_nx u12 (q := 14) rfl (by decide)
  try dsimp only at es12
  try dsimp only at el12
  try dsimp only at er12
  try dsimp only at ea12
  try dsimp only at u13
  rw [← ea12] at u13
  rw [es10] at es12
  rw [el10] at el12
  rw [er10, hk_ov_uR (by decide) (by decide)] at er12
  rw [ea10] at ea12
  rw [hk_ov_z (m := 12) rfl (by decide) rfl, hk_ov_u2 (by decide) (by decide), hk_ov_u2 (by decide) (by decide), hk_ov_z (m := 13) rfl (by decide) rfl] at es12
  rw [hk_ov_z (m := 12) rfl (by decide) rfl, hk_ov_z (m := 13) rfl (by decide) rfl] at el12
  rw [hk_ov_z (m := 12) rfl (by decide) rfl, hk_ov_z (m := 13) rfl (by decide) rfl, hk_ov_uR (by decide) (by decide)] at er12
  refine hk_mkI u13 rfl rfl ?_
  have u14 := hk_up_nx u13 (q := 15) rfl (by decide)
  refine n_table_14 u14 (fun s14 l14 r14 a14 es14 el14 er14 ea14 => ?_)
  have u15 := hk_up_nx u14 (q := 16) rfl (by decide)
  try dsimp only at es14
  try dsimp only at el14
  try dsimp only at er14
  try dsimp only at ea14
  try dsimp only at u15
  rw [← ea14] at u15
  rw [es12] at es14
  rw [el12] at el14
  rw [er12, hk_ov_uR (by decide) (by decide)] at er14
  rw [ea12] at ea14
  rw [hk_ov_z (m := 14) rfl (by decide) rfl, hk_ov_u2 (by decide) (by decide), hk_ov_u2 (by decide) (by decide), hk_ov_z (m := 15) rfl (by decide) rfl] at es14
  rw [hk_ov_z (m := 14) rfl (by decide) rfl, hk_ov_z (m := 15) rfl (by decide) rfl] at el14
  rw [hk_ov_z (m := 14) rfl (by decide) rfl, hk_ov_z (m := 15) rfl (by decide) rfl, hk_ov_uR (by decide) (by decide)] at er14
  refine hk_mkI u15 rfl rfl ?_
  have u16 := hk_up_nx u15 (q := 17) rfl (by decide)
  refine n_table_16 u16 (fun s16 l16 r16 a16 es16 el16 er16 ea16 => ?_)
  have u17 := hk_up_nx u16 (q := 18) rfl (by decide)
  try dsimp only at es16
  try dsimp only at el16
  try dsimp only at er16
  try dsimp only at ea16
  try dsimp only at u17
  rw [← ea16] at u17
  rw [es14] at es16
  rw [el14] at el16
  rw [er14, hk_ov_uR (by decide) (by decide)] at er16
  rw [ea14] at ea16
  rw [hk_ov_z (m := 16) rfl (by decide) rfl, hk_ov_u2 (by decide) (by decide), hk_ov_u2 (by decide) (by decide), hk_ov_z (m := 17) rfl (by decide) rfl] at es16
  rw [hk_ov_z (m := 16) rfl (by decide) rfl, hk_ov_z (m := 17) rfl (by decide) rfl] at el16
  rw [hk_ov_z (m := 16) rfl (by decide) rfl, hk_ov_z (m := 17) rfl (by decide) rfl, hk_ov_uR (by decide) (by decide)] at er16
  refine hk_mkI u17 rfl rfl ?_
  have u18 := hk_up_nx u17 (q := 19) rfl (by decide)
  refine n_table_18 u18 (fun s18 l18 r18 a18 es18 el18 er18 ea18 => ?_)
  have u19 := hk_up_nx u18 (q := 20) rfl (by decide)
  try dsimp only at es18
  try dsimp only at el18
  try dsimp only at er18
  try dsimp only at ea18
  try dsimp only at u19
  rw [← ea18] at u19
  rw [es16] at es18
  rw [el16] at el18
  rw [er16, hk_ov_uR (by decide) (by decide)] at er18
  rw [ea16] at ea18
  rw [hk_ov_z (m := 18) rfl (by decide) rfl, hk_ov_u2 (by decide) (by decide), hk_ov_u2 (by decide) (by decide), hk_ov_z (m := 19) rfl (by decide) rfl] at es18
  rw [hk_ov_z (m := 18) rfl (by decide) rfl, hk_ov_z (m := 19) rfl (by decide) rfl] at el18
  rw [hk_ov_z (m := 18) rfl (by decide) rfl, hk_ov_z (m := 19) rfl (by decide) rfl, hk_ov_uR (by decide) (by decide)] at er18
  refine hk_nai 3 rfl rfl u19 rfl rfl ?_
  have u20 := hk_up_nx u19 (q := 21) rfl (by decide)
  refine hk_nai 600 rfl rfl u20 rfl rfl ?_
  have u21 := hk_up_nx u20 (q := 22) rfl (by decide)
  refine hk_nai 90 rfl rfl u21 rfl rfl ?_
  have u22 := hk_up_nx u21 (q := 23) rfl (by decide)
  refine hk_nmR (fun s0 lZ rZ aZ e0 elZ erZ eaZ => ?_)
  try dsimp only at e0
  try dsimp only at elZ
  try dsimp only at erZ
  try dsimp only at eaZ
  try dsimp only at u22
  rw [← eaZ] at u22
  rw [es18, hk_ov_z (m := 20) rfl (by decide) rfl, hk_ov_z (m := 21) rfl (by decide) rfl, hk_ov_z (m := 22) rfl (by decide) rfl] at e0
  rw [el18, hk_ov_z (m := 20) rfl (by decide) rfl, hk_ov_z (m := 21) rfl (by decide) rfl, hk_ov_z (m := 22) rfl (by decide) rfl] at elZ
  rw [er18, hk_ov_uR (by decide) (by decide), hk_ov_z (m := 20) rfl (by decide) rfl, hk_ov_uR (by decide) (by decide), hk_ov_z (m := 21) rfl (by decide) rfl, hk_ov_uR (by decide) (by decide), hk_ov_z (m := 22) rfl (by decide) rfl, hk_ov_uR (by decide) (by decide)] at erZ
  rw [ea18] at eaZ
  have erY : rZ = hk_ov 0 1 22 hk_hr rr := erZ
  subst erY
  refine hk_hd (n := 1000) (t := 157) rfl ?_
  refine And.intro (fun hc => absurd hc (show ¬ (4 : Int32) ≤ 0 by decide)) (fun _ => ?_)
  refine h_add_8 (n := 0) rfl (by rw [e0]; exact ⟨rfl, rfl, rfl, by decide⟩) (by decide) (fun s100 f0 => ?_)
  have e1 := hk_add_1 f0 (by decide) (fun j hj => by rw [e0]; match j, hj with | 0, _ => rfl | 1, _ => rfl | 2, _ => rfl)
  rw [e0, hk_ov_u2 (by decide) (by decide), hk_ov_u2 (by decide) (by decide)] at e1
  refine hk_hd (n := 1000) (t := 157) rfl ?_
  refine And.intro (fun hc => absurd hc (show ¬ (4 : Int32) ≤ 1 by decide)) (fun _ => ?_)
  refine h_add_8 (n := 1) rfl (by rw [e1]; exact ⟨rfl, rfl, rfl, by decide⟩) (by decide) (fun s101 f1 => ?_)
  have e2 := hk_add_1 f1 (by decide) (fun j hj => by rw [e1]; match j, hj with | 0, _ => rfl | 1, _ => rfl | 2, _ => rfl)
  rw [e1, hk_ov_u2 (by decide) (by decide), hk_ov_u2 (by decide) (by decide)] at e2
  refine hk_hd (n := 1000) (t := 157) rfl ?_
  refine And.intro (fun hc => absurd hc (show ¬ (4 : Int32) ≤ 2 by decide)) (fun _ => ?_)
  refine h_add_8 (n := 2) rfl (by rw [e2]; exact ⟨rfl, rfl, rfl, by decide⟩) (by decide) (fun s102 f2 => ?_)
  have e3 := hk_add_1 f2 (by decide) (fun j hj => by rw [e2]; match j, hj with | 0, _ => rfl | 1, _ => rfl | 2, _ => rfl)
  rw [e2, hk_ov_u2 (by decide) (by decide), hk_ov_u2 (by decide) (by decide)] at e3
  refine hk_hd (n := 1000) (t := 157) rfl ?_
  refine And.intro (fun hc => absurd hc (show ¬ (4 : Int32) ≤ 3 by decide)) (fun _ => ?_)
  refine h_add_8 (n := 3) rfl (by rw [e3]; exact ⟨rfl, rfl, rfl, by decide⟩) (by decide) (fun s103 f3 => ?_)
  have e4 := hk_add_1 f3 (by decide) (fun j hj => by rw [e3]; match j, hj with | 0, _ => rfl | 1, _ => rfl | 2, _ => rfl)
  rw [e3, hk_ov_u2 (by decide) (by decide), hk_ov_u2 (by decide) (by decide)] at e4
  refine hk_hd (n := 1000) (t := 157) rfl ?_
  refine And.intro (fun _ => ?_) (fun hc => absurd (show (4 : Int32) ≤ 4 by decide) hc)
  refine hk_hd (n := 1000) (t := 183) rfl ?_
  refine And.intro (fun hc => absurd hc (show ¬ (4 : Int32) ≤ 0 by decide)) (fun _ => ?_)
  refine h_add_10 (n := 0) rfl (by rw [e4]; exact ⟨rfl, rfl, rfl, by decide⟩) (by decide) (fun s104 f4 => ?_)
  have e5 := hk_add_0 f4 (fun j hj => by rw [e4]; rfl)
  rw [e4, hk_ov_u2 (by decide) (by decide)] at e5
  refine hk_hd (n := 1000) (t := 183) rfl ?_
  refine And.intro (fun hc => absurd hc (show ¬ (4 : Int32) ≤ 1 by decide)) (fun _ => ?_)
  refine h_add_10 (n := 1) rfl (by rw [e5]; exact ⟨rfl, rfl, rfl, by decide⟩) (by decide) (fun s105 f5 => ?_)
  have e6 := hk_add_0 f5 (fun j hj => by rw [e5]; rfl)
  rw [e5, hk_ov_u2 (by decide) (by decide)] at e6
  refine hk_hd (n := 1000) (t := 183) rfl ?_
  refine And.intro (fun hc => absurd hc (show ¬ (4 : Int32) ≤ 2 by decide)) (fun _ => ?_)
  refine h_add_10 (n := 2) rfl (by rw [e6]; exact ⟨rfl, rfl, rfl, by decide⟩) (by decide) (fun s106 f6 => ?_)
  have e7 := hk_add_0 f6 (fun j hj => by rw [e6]; rfl)
  rw [e6, hk_ov_u2 (by decide) (by decide)] at e7
  refine hk_hd (n := 1000) (t := 183) rfl ?_
  refine And.intro (fun hc => absurd hc (show ¬ (4 : Int32) ≤ 3 by decide)) (fun _ => ?_)
  refine h_add_10 (n := 3) rfl (by rw [e7]; exact ⟨rfl, rfl, rfl, by decide⟩) (by decide) (fun s107 f7 => ?_)
  have e8 := hk_add_0 f7 (fun j hj => by rw [e7]; rfl)
  rw [e7, hk_ov_u2 (by decide) (by decide)] at e8
  refine hk_hd (n := 1000) (t := 183) rfl ?_
  refine And.intro (fun _ => ?_) (fun hc => absurd (show (4 : Int32) ≤ 4 by decide) hc)
  refine hk_sti (j := 0) rfl (by decide) (by decide) ?_
  refine hk_sti (j := 1) rfl (by decide) (by decide) ?_
  refine hk_sti (j := 2) rfl (by decide) (by decide) ?_
  have fin := h1 aZ u22 (by rw [eaZ]; simp [List.append_assoc, List.range'])
  have eF : (hk_u2 (hk_u2 (hk_u2 (hk_u2 (hk_u2 (hk_u2 (hk_u2 s107 20 0 1) 20 1 4) 20 2 2) 1 13 300) 1 14 60000) 1 15 1) 1 16 100) = hk_ov 0 1 22 hk_hi s := by
    rw [e8, hk_ov_u2 (by decide) (by decide), hk_ov_u2 (by decide) (by decide), hk_ov_u2 (by decide) (by decide), hk_ov_u2 (by decide) (by decide), hk_ov_u2 (by decide) (by decide), hk_ov_u2 (by decide) (by decide), hk_ov_u2 (by decide) (by decide)]
    rfl
  rw [← eF, ← elZ] at fin
  exact fin
theorem hk_zov {α : Type} {z : α} {p : Nat} {f : Nat → Nat → α} : hk_z f p z = hk_ov z p 1 [] f :=
  (congrArg (fun g => hk_z g p z) hk_ov_0.symm).trans (hk_ov_z rfl (Nat.le_refl _) rfl)
theorem hk_ov_m {α : Type} {z : α} {A B n m : Nat} {L : List (List α)} {f : Nat → Nat → α} (hB : B = A + 1) (hm : m = n + 1) : hk_ov z B n L (hk_ov z A 1 [] f) = hk_ov z A m ([] :: L) f := by
  subst hB hm
  funext p q
  unfold hk_ov
  by_cases h : A + 1 ≤ p ∧ p < A + 1 + n
  · rw [if_pos h, if_pos (by omega)]
    obtain ⟨j, rfl⟩ := Nat.exists_eq_add_of_le h.1
    unfold hk_lf
    rw [show A + 1 + j - (A + 1) = j by omega, show A + 1 + j - A = j + 1 by omega, List.getElem?_cons_succ]
  · rw [if_neg h]
    by_cases h2 : A ≤ p ∧ p < A + 1
    · rw [if_pos h2, if_pos (by omega), show p - A = 0 by omega]
      rfl
    · rw [if_neg h2, if_neg (by omega)]
theorem n_house_1 (u : hk_up al 2) (h1 : ∀ s2 lm2 rr2 al2, hk_up al2 23 → s2 = hk_ov 0 1 22 hk_hi s → lm2 = hk_ov 0 1 22 [] lm → rr2 = hk_ov 0 1 22 hk_hr rr → al2 = al ++ List.range' 2 21 → k none (s2, lm2, rr2, al2)) : hk_Cl (d + 3) 1 [.ref 1] (hk_z s 1 0, hk_z lm 1 0, hk_z rr 1 0, al) k := by
  rw [hk_zov, hk_zov, hk_zov]
  exact n_house0_1 u (fun al2 ua e => h1 _ _ _ _ ua rfl rfl rfl e)
theorem n_reader (u : hk_up al 25) (h1 : ∀ s2 lm2 rr2 al2, hk_up al2 25 → s2 = (hk_u2 s 24 5 (-1)) → lm2 = lm → rr2 = (hk_uR rr 24 0 1) → al2 = al → k none (s2, lm2, rr2, al2)) : hk_Cl (d + 1) 6 [.ref 24, .ref 1] (s, lm, rr, al) k := by
  refine hk_mth hk_m6 rfl rfl (n := 1000) ?_
  exact h1 _ _ _ _ u rfl rfl rfl rfl
theorem n_storms (u : hk_up al 26) (h1 : ∀ s2 lm2 rr2 al2, hk_up al2 29 → s2 = (hk_z (hk_z (hk_z s 26 0) 27 0) 28 0) → lm2 = (hk_z (hk_z (hk_z lm 26 0) 27 0) 28 0) → rr2 = (hk_uR (hk_z (hk_uR (hk_z (hk_uR (hk_z rr 26 0) 25 0 26) 27 0) 25 1 27) 28 0) 25 2 28) → al2 = (((al ++ [26]) ++ [27]) ++ [28]) → k none (s2, lm2, rr2, al2)) : hk_Cl (d + 1) 7 [.ref 25] (s, lm, rr, al) k := by
  refine hk_mth hk_m7 rfl rfl (n := 1000) ?_
  refine hk_nai 360 rfl rfl u rfl rfl ?_
  have u1 := hk_up_nx u (q := 27) rfl (by decide)
  refine hk_nai 6 rfl rfl u1 rfl rfl ?_
  have u2 := hk_up_nx u1 (q := 28) rfl (by decide)
  refine hk_nai 6 rfl rfl u2 rfl rfl ?_
  have u3 := hk_up_nx u2 (q := 29) rfl (by decide)
  exact h1 _ _ _ _ u3 rfl rfl rfl rfl
theorem n_planner (u : hk_up al 30) (h1 : ∀ s2 lm2 rr2 al2, hk_up al2 36 → s2 = (hk_z (hk_z (hk_z (hk_z (hk_z (hk_z s 30 0) 31 0) 32 0) 33 0) 34 0) 35 0) → lm2 = (hk_z (hk_z (hk_z (hk_z (hk_z (hk_z lm 30 0) 31 0) 32 0) 33 0) 34 0) 35 0) → rr2 = (hk_uR (hk_uR (hk_z (hk_uR (hk_z (hk_uR (hk_z (hk_uR (hk_z (hk_uR (hk_z (hk_uR (hk_z rr 30 0) 29 0 30) 31 0) 29 1 31) 32 0) 29 2 32) 33 0) 29 3 33) 34 0) 29 4 34) 35 0) 29 6 35) 29 5 1) → al2 = ((((((al ++ [30]) ++ [31]) ++ [32]) ++ [33]) ++ [34]) ++ [35]) → k none (s2, lm2, rr2, al2)) : hk_Cl (d + 1) 8 [.ref 29, .ref 1] (s, lm, rr, al) k := by
  refine hk_mth hk_m8 rfl rfl (n := 1000) ?_
  refine hk_nai 4 rfl rfl u rfl rfl ?_
  have u1 := hk_up_nx u (q := 31) rfl (by decide)
  refine hk_nai 4 rfl rfl u1 rfl rfl ?_
  have u2 := hk_up_nx u1 (q := 32) rfl (by decide)
  refine hk_nai 16 rfl rfl u2 rfl rfl ?_
  have u3 := hk_up_nx u2 (q := 33) rfl (by decide)
  refine hk_nai 16 rfl rfl u3 rfl rfl ?_
  have u4 := hk_up_nx u3 (q := 34) rfl (by decide)
  refine hk_nai 10 rfl rfl u4 rfl rfl ?_
  have u5 := hk_up_nx u4 (q := 35) rfl (by decide)
  refine hk_nai 0 rfl rfl u5 rfl rfl ?_
  have u6 := hk_up_nx u5 (q := 36) rfl (by decide)
  exact h1 _ _ _ _ u6 rfl rfl rfl rfl
theorem n_leaks (u : hk_up al 37) (h1 : ∀ s2 lm2 rr2 al2, hk_up al2 37 → s2 = s → lm2 = lm → rr2 = rr → al2 = al → k none (s2, lm2, rr2, al2)) : hk_Cl (d + 1) 9 [.ref 36] (s, lm, rr, al) k := by
  refine hk_mth hk_m9 rfl rfl (n := 1000) ?_
  exact h1 _ _ _ _ u rfl rfl rfl rfl
theorem n_crew (u : hk_up al 38) (h1 : ∀ s2 lm2 rr2 al2, hk_up al2 40 → s2 = (hk_z (hk_z s 38 0) 39 0) → lm2 = (hk_z (hk_z lm 38 0) 39 0) → rr2 = (hk_uR (hk_z (hk_uR (hk_z rr 38 0) 37 0 38) 39 0) 37 1 39) → al2 = ((al ++ [38]) ++ [39]) → k none (s2, lm2, rr2, al2)) : hk_Cl (d + 1) 10 [.ref 37] (s, lm, rr, al) k := by
  refine hk_mth hk_m10 rfl rfl (n := 1000) ?_
  refine hk_nai 32 rfl rfl u rfl rfl ?_
  have u1 := hk_up_nx u (q := 39) rfl (by decide)
  refine hk_nai 5 rfl rfl u1 rfl rfl ?_
  have u2 := hk_up_nx u1 (q := 40) rfl (by decide)
  exact h1 _ _ _ _ u2 rfl rfl rfl rfl
end HKH
def hk_ci : List (List Int32) := [[], [0, 0, 0, 0, 0, 0, 0, 0, 0, 0, 0, 0, 0, 300, 60000, 1, 100], [6, 9], [], [96, 6], [], [150, 5], [], [4, 3, 0, 4], [0, 0, (-1), 0, 0, (-1), 0, 0, (-1), 0, 0, (-1)], [4, 61, 0, 4], [], [4, 3], [], [20, 2], [], [8, 2], [], [8, 3], [], [1, 4, 2], [], [], [], [0, 0, 0, 0, 0, (-1)]]
def hk_cr : List (List Nat) := [[1, 23, 24, 25, 29, 36, 37], [2, 4, 6, 8, 10, 12, 14, 16, 18, 20, 21, 22], [0, 0, 3], [], [0, 0, 5], [], [0, 0, 7], [], [0, 0, 9], [], [0, 0, 11], [], [0, 0, 13], [], [0, 0, 15], [], [0, 0, 17], [], [0, 0, 19], [], [], [], [], [], [1], [26, 27, 28], [], [], [], [30, 31, 32, 33, 34, 1, 35], [], [], [], [], [], [], [], [38, 39]]
section HKK
variable {d : Nat} {s : Nat → Nat → Int32} {lm : Nat → Nat → Int64} {rr : Nat → Nat → Nat} {al : List Nat} {k : Option Value → hk_H → Prop}
theorem n_hk (u : hk_up al 1) (h1 : k none (hk_ov 0 0 40 hk_ci s, hk_ov 0 0 40 [[]] lm, hk_ov 0 0 40 hk_cr rr, al ++ List.range' 1 39)) : hk_Cl (d + 4) 0 [.ref 0] (hk_z s 0 0, hk_z lm 0 0, hk_z rr 0 0, al) k := by
  refine hk_mth hk_m0 rfl rfl (n := 1000) ?_
  refine hk_mkI u rfl rfl ?_
  have u1 := hk_up_nx u (q := 2) rfl (by decide)
  refine n_house_1 u1 (fun s1 l1 r1 a1 ua1 es1 el1 er1 ea1 => ?_)
  try dsimp only at es1
  try dsimp only at el1
  try dsimp only at er1
  try dsimp only at ea1
  rw [hk_zov, hk_ov_m (m := 23) rfl rfl] at es1
  rw [hk_zov, hk_ov_m (m := 23) rfl rfl] at el1
  rw [hk_zov, hk_ov_m (m := 23) rfl rfl] at er1
  have er1x : r1 = hk_ov 0 0 23 [[], [2, 4, 6, 8, 10, 12, 14, 16, 18, 20, 21, 22], [0, 0, 3], [], [0, 0, 5], [], [0, 0, 7], [], [0, 0, 9], [], [0, 0, 11], [], [0, 0, 13], [], [0, 0, 15], [], [0, 0, 17], [], [0, 0, 19]] rr := er1
  clear er1; subst er1x
  refine hk_nai 2 rfl rfl ua1 rfl rfl ?_
  have u23 := hk_up_nx ua1 (q := 24) rfl (by decide)
  refine hk_mkI u23 rfl rfl ?_
  have v2 := hk_up_nx u23 (q := 25) rfl (by decide)
  refine n_reader v2 (fun s2 l2 r2 a2 ua2 es2 el2 er2 ea2 => ?_)
  try dsimp only at es2
  try dsimp only at el2
  try dsimp only at er2
  try dsimp only at ea2
  rw [es1, hk_ov_z (m := 24) rfl (by decide) rfl, hk_ov_z (m := 25) rfl (by decide) rfl, hk_ov_u2 (by decide) (by decide)] at es2
  rw [el1, hk_ov_z (m := 24) rfl (by decide) rfl, hk_ov_z (m := 25) rfl (by decide) rfl] at el2
  rw [hk_ov_uR (by decide) (by decide), hk_ov_z (m := 24) rfl (by decide) rfl, hk_ov_uR (by decide) (by decide), hk_ov_z (m := 25) rfl (by decide) rfl, hk_ov_uR (by decide) (by decide)] at er2
  have er2x : r2 = hk_ov 0 0 25 [[1, 23], [2, 4, 6, 8, 10, 12, 14, 16, 18, 20, 21, 22], [0, 0, 3], [], [0, 0, 5], [], [0, 0, 7], [], [0, 0, 9], [], [0, 0, 11], [], [0, 0, 13], [], [0, 0, 15], [], [0, 0, 17], [], [0, 0, 19], [], [], [], [], [], [1]] rr := er2
  clear er2; subst er2x
  rw [ea1] at ea2
  refine hk_mkI ua2 rfl rfl ?_
  have v3 := hk_up_nx ua2 (q := 26) rfl (by decide)
  refine n_storms v3 (fun s3 l3 r3 a3 ua3 es3 el3 er3 ea3 => ?_)
  try dsimp only at es3
  try dsimp only at el3
  try dsimp only at er3
  try dsimp only at ea3
  rw [es2, hk_ov_z (m := 26) rfl (by decide) rfl, hk_ov_z (m := 27) rfl (by decide) rfl, hk_ov_z (m := 28) rfl (by decide) rfl, hk_ov_z (m := 29) rfl (by decide) rfl] at es3
  rw [el2, hk_ov_z (m := 26) rfl (by decide) rfl, hk_ov_z (m := 27) rfl (by decide) rfl, hk_ov_z (m := 28) rfl (by decide) rfl, hk_ov_z (m := 29) rfl (by decide) rfl] at el3
  rw [hk_ov_uR (by decide) (by decide), hk_ov_z (m := 26) rfl (by decide) rfl, hk_ov_z (m := 27) rfl (by decide) rfl, hk_ov_uR (by decide) (by decide), hk_ov_z (m := 28) rfl (by decide) rfl, hk_ov_uR (by decide) (by decide), hk_ov_z (m := 29) rfl (by decide) rfl, hk_ov_uR (by decide) (by decide)] at er3
  have er3x : r3 = hk_ov 0 0 29 [[1, 23, 24], [2, 4, 6, 8, 10, 12, 14, 16, 18, 20, 21, 22], [0, 0, 3], [], [0, 0, 5], [], [0, 0, 7], [], [0, 0, 9], [], [0, 0, 11], [], [0, 0, 13], [], [0, 0, 15], [], [0, 0, 17], [], [0, 0, 19], [], [], [], [], [], [1], [26, 27, 28]] rr := er3
  clear er3; subst er3x
  rw [ea2] at ea3
  refine hk_mkI ua3 rfl rfl ?_
  have v4 := hk_up_nx ua3 (q := 30) rfl (by decide)
  refine n_planner v4 (fun s4 l4 r4 a4 ua4 es4 el4 er4 ea4 => ?_)
  try dsimp only at es4
  try dsimp only at el4
  try dsimp only at er4
  try dsimp only at ea4
  rw [es3, hk_ov_z (m := 30) rfl (by decide) rfl, hk_ov_z (m := 31) rfl (by decide) rfl, hk_ov_z (m := 32) rfl (by decide) rfl, hk_ov_z (m := 33) rfl (by decide) rfl, hk_ov_z (m := 34) rfl (by decide) rfl, hk_ov_z (m := 35) rfl (by decide) rfl, hk_ov_z (m := 36) rfl (by decide) rfl] at es4
  rw [el3, hk_ov_z (m := 30) rfl (by decide) rfl, hk_ov_z (m := 31) rfl (by decide) rfl, hk_ov_z (m := 32) rfl (by decide) rfl, hk_ov_z (m := 33) rfl (by decide) rfl, hk_ov_z (m := 34) rfl (by decide) rfl, hk_ov_z (m := 35) rfl (by decide) rfl, hk_ov_z (m := 36) rfl (by decide) rfl] at el4
  rw [hk_ov_uR (by decide) (by decide), hk_ov_z (m := 30) rfl (by decide) rfl, hk_ov_z (m := 31) rfl (by decide) rfl, hk_ov_uR (by decide) (by decide), hk_ov_z (m := 32) rfl (by decide) rfl, hk_ov_uR (by decide) (by decide), hk_ov_z (m := 33) rfl (by decide) rfl, hk_ov_uR (by decide) (by decide), hk_ov_z (m := 34) rfl (by decide) rfl, hk_ov_uR (by decide) (by decide), hk_ov_z (m := 35) rfl (by decide) rfl, hk_ov_uR (by decide) (by decide), hk_ov_z (m := 36) rfl (by decide) rfl, hk_ov_uR (by decide) (by decide), hk_ov_uR (by decide) (by decide)] at er4
  have er4x : r4 = hk_ov 0 0 36 [[1, 23, 24, 25], [2, 4, 6, 8, 10, 12, 14, 16, 18, 20, 21, 22], [0, 0, 3], [], [0, 0, 5], [], [0, 0, 7], [], [0, 0, 9], [], [0, 0, 11], [], [0, 0, 13], [], [0, 0, 15], [], [0, 0, 17], [], [0, 0, 19], [], [], [], [], [], [1], [26, 27, 28], [], [], [], [30, 31, 32, 33, 34, 1, 35]] rr := er4
  clear er4; subst er4x
  rw [ea3] at ea4
  refine hk_mkI ua4 rfl rfl ?_
  have v5 := hk_up_nx ua4 (q := 37) rfl (by decide)
  refine n_leaks v5 (fun s5 l5 r5 a5 ua5 es5 el5 er5 ea5 => ?_)
  try dsimp only at es5
  try dsimp only at el5
  try dsimp only at er5
  try dsimp only at ea5
  rw [es4, hk_ov_z (m := 37) rfl (by decide) rfl] at es5
  rw [el4, hk_ov_z (m := 37) rfl (by decide) rfl] at el5
  rw [hk_ov_uR (by decide) (by decide), hk_ov_z (m := 37) rfl (by decide) rfl] at er5
  have er5x : r5 = hk_ov 0 0 37 [[1, 23, 24, 25, 29], [2, 4, 6, 8, 10, 12, 14, 16, 18, 20, 21, 22], [0, 0, 3], [], [0, 0, 5], [], [0, 0, 7], [], [0, 0, 9], [], [0, 0, 11], [], [0, 0, 13], [], [0, 0, 15], [], [0, 0, 17], [], [0, 0, 19], [], [], [], [], [], [1], [26, 27, 28], [], [], [], [30, 31, 32, 33, 34, 1, 35]] rr := er5
  clear er5; subst er5x
  rw [ea4] at ea5
  refine hk_mkI ua5 rfl rfl ?_
  have v6 := hk_up_nx ua5 (q := 38) rfl (by decide)
  refine n_crew v6 (fun s6 l6 r6 a6 ua6 es6 el6 er6 ea6 => ?_)
  try dsimp only at es6
  try dsimp only at el6
  try dsimp only at er6
  try dsimp only at ea6
  rw [es5, hk_ov_z (m := 38) rfl (by decide) rfl, hk_ov_z (m := 39) rfl (by decide) rfl, hk_ov_z (m := 40) rfl (by decide) rfl] at es6
  rw [el5, hk_ov_z (m := 38) rfl (by decide) rfl, hk_ov_z (m := 39) rfl (by decide) rfl, hk_ov_z (m := 40) rfl (by decide) rfl] at el6
  rw [hk_ov_uR (by decide) (by decide), hk_ov_z (m := 38) rfl (by decide) rfl, hk_ov_z (m := 39) rfl (by decide) rfl, hk_ov_uR (by decide) (by decide), hk_ov_z (m := 40) rfl (by decide) rfl, hk_ov_uR (by decide) (by decide)] at er6
  have er6x : r6 = hk_ov 0 0 40 [[1, 23, 24, 25, 29, 36], [2, 4, 6, 8, 10, 12, 14, 16, 18, 20, 21, 22], [0, 0, 3], [], [0, 0, 5], [], [0, 0, 7], [], [0, 0, 9], [], [0, 0, 11], [], [0, 0, 13], [], [0, 0, 15], [], [0, 0, 17], [], [0, 0, 19], [], [], [], [], [], [1], [26, 27, 28], [], [], [], [30, 31, 32, 33, 34, 1, 35], [], [], [], [], [], [], [], [38, 39]] rr := er6
  clear er6; subst er6x
  rw [ea5] at ea6
  have fR : hk_uR (hk_ov 0 0 40 [[1, 23, 24, 25, 29, 36], [2, 4, 6, 8, 10, 12, 14, 16, 18, 20, 21, 22], [0, 0, 3], [], [0, 0, 5], [], [0, 0, 7], [], [0, 0, 9], [], [0, 0, 11], [], [0, 0, 13], [], [0, 0, 15], [], [0, 0, 17], [], [0, 0, 19], [], [], [], [], [], [1], [26, 27, 28], [], [], [], [30, 31, 32, 33, 34, 1, 35], [], [], [], [], [], [], [], [38, 39]] rr) 0 6 37 = hk_ov 0 0 40 hk_cr rr := hk_ov_uR (by decide) (by decide)
  have fS : s6 = hk_ov 0 0 40 hk_ci s := es6
  have fA : a6 = al ++ List.range' 1 39 := by rw [ea6]; simp [List.append_assoc, List.range']
  have fin := h1
  rw [← fR, ← fS, ← el6, ← fA] at fin
  exact fin
end HKK
def hk_mr : List (List Nat) := [[41, 42, 43, 44, 0, 45, 46, 0, 47, 48, 49, 50]]
/-- the reference's numbers at the start -/
def hk_st0 (s : Nat → Nat → Int32) : Nat → Nat → Int32 := (hk_u2 (hk_u2 (hk_u2 (hk_u2 (hk_u2 (hk_u2 (hk_u2 (hk_u2 (hk_u2 (hk_u2 (hk_u2 s 41 8 300) 41 9 60000) 41 10 1) 41 11 100) 41 12 1) 41 13 4) 41 14 2) 41 1412 (-1)) 41 1415 (-1)) 41 1418 (-1)) 41 1421 (-1))
section HKL
variable {d : Nat} {s : Nat → Nat → Int32} {lm : Nat → Nat → Int64} {rr : Nat → Nat → Nat} {al : List Nat} {k : Option Value → hk_H → Prop}
theorem n_mo (u : hk_up al 41) (h1 : k none (hk_st0 (hk_ov 0 40 11 [] s), hk_ov 0 40 11 [] lm, hk_ov 0 40 11 hk_mr rr, al ++ List.range' 41 10)) : hk_Cl (d + 1) 134 [.ref 40] (hk_z s 40 0, hk_z lm 40 0, hk_z rr 40 0, al) k := by
  refine hk_mth hk_m134 rfl rfl (n := 1000) ?_
  refine hk_nai 2448 rfl rfl u rfl rfl ?_
  have u1 := hk_up_nx u (q := 42) rfl (by decide)
  refine hk_nai 2448 rfl rfl u1 rfl rfl ?_
  have u2 := hk_up_nx u1 (q := 43) rfl (by decide)
  refine hk_nai 4896 rfl rfl u2 rfl rfl ?_
  have u3 := hk_up_nx u2 (q := 44) rfl (by decide)
  refine hk_nai 2 rfl rfl u3 rfl rfl ?_
  have u4 := hk_up_nx u3 (q := 45) rfl (by decide)
  refine hk_nai 70 rfl rfl u4 rfl rfl ?_
  have u5 := hk_up_nx u4 (q := 46) rfl (by decide)
  refine hk_nai 70 rfl rfl u5 rfl rfl ?_
  have u6 := hk_up_nx u5 (q := 47) rfl (by decide)
  refine hk_nai 70 rfl rfl u6 rfl rfl ?_
  have u7 := hk_up_nx u6 (q := 48) rfl (by decide)
  refine hk_nai 70 rfl rfl u7 rfl rfl ?_
  have u8 := hk_up_nx u7 (q := 49) rfl (by decide)
  refine hk_nai 161051 rfl rfl u8 rfl rfl ?_
  have u9 := hk_up_nx u8 (q := 50) rfl (by decide)
  refine hk_nai 4 rfl rfl u9 rfl rfl ?_
  have u10 := hk_up_nx u9 (q := 51) rfl (by decide)
  refine hk_sti (j := 8) rfl (by decide) (by decide) ?_
  refine hk_sti (j := 9) rfl (by decide) (by decide) ?_
  refine hk_sti (j := 10) rfl (by decide) (by decide) ?_
  refine hk_sti (j := 11) rfl (by decide) (by decide) ?_
  refine hk_sti (j := 12) rfl (by decide) (by decide) ?_
  refine hk_sti (j := 13) rfl (by decide) (by decide) ?_
  refine hk_sti (j := 14) rfl (by decide) (by decide) ?_
  refine hk_nmR (fun s0 l0 r0 a0 e0 el er ea => ?_)
  try dsimp only at e0
  try dsimp only at el
  try dsimp only at er
  try dsimp only at ea
  rw [hk_zov (p := 40), hk_ov_z (m := 2) rfl (by decide) rfl, hk_ov_z (m := 3) rfl (by decide) rfl, hk_ov_z (m := 4) rfl (by decide) rfl, hk_ov_z (m := 5) rfl (by decide) rfl, hk_ov_z (m := 6) rfl (by decide) rfl, hk_ov_z (m := 7) rfl (by decide) rfl, hk_ov_z (m := 8) rfl (by decide) rfl, hk_ov_z (m := 9) rfl (by decide) rfl, hk_ov_z (m := 10) rfl (by decide) rfl, hk_ov_z (m := 11) rfl (by decide) rfl] at e0 el
  rw [hk_zov (p := 40), hk_ov_z (m := 2) rfl (by decide) rfl, hk_ov_uR (by decide) (by decide), hk_ov_z (m := 3) rfl (by decide) rfl, hk_ov_uR (by decide) (by decide), hk_ov_z (m := 4) rfl (by decide) rfl, hk_ov_uR (by decide) (by decide), hk_ov_z (m := 5) rfl (by decide) rfl, hk_ov_uR (by decide) (by decide), hk_ov_z (m := 6) rfl (by decide) rfl, hk_ov_uR (by decide) (by decide), hk_ov_z (m := 7) rfl (by decide) rfl, hk_ov_uR (by decide) (by decide), hk_ov_z (m := 8) rfl (by decide) rfl, hk_ov_uR (by decide) (by decide), hk_ov_z (m := 9) rfl (by decide) rfl, hk_ov_uR (by decide) (by decide), hk_ov_z (m := 10) rfl (by decide) rfl, hk_ov_uR (by decide) (by decide), hk_ov_z (m := 11) rfl (by decide) rfl, hk_ov_uR (by decide) (by decide)] at er
  have er2 : r0 = hk_ov 0 40 11 hk_mr rr := er
  clear er; subst er2
  refine hk_hd (n := 1000) (t := 147) rfl ?_
  refine And.intro (fun hc => absurd hc (show ¬ (4 : Int32) ≤ 0 by decide)) (fun _ => ?_)
  refine hk_sti (j := 1412) rfl (by decide) (by decide) ?_
  refine hk_hd (n := 1000) (t := 147) rfl ?_
  refine And.intro (fun hc => absurd hc (show ¬ (4 : Int32) ≤ 1 by decide)) (fun _ => ?_)
  refine hk_sti (j := 1415) rfl (by decide) (by decide) ?_
  refine hk_hd (n := 1000) (t := 147) rfl ?_
  refine And.intro (fun hc => absurd hc (show ¬ (4 : Int32) ≤ 2 by decide)) (fun _ => ?_)
  refine hk_sti (j := 1418) rfl (by decide) (by decide) ?_
  refine hk_hd (n := 1000) (t := 147) rfl ?_
  refine And.intro (fun hc => absurd hc (show ¬ (4 : Int32) ≤ 3 by decide)) (fun _ => ?_)
  refine hk_sti (j := 1421) rfl (by decide) (by decide) ?_
  refine hk_hd (n := 1000) (t := 147) rfl ?_
  refine And.intro (fun _ => ?_) (fun hc => absurd (show (4 : Int32) ≤ 4 by decide) hc)
  have fA : a0 = al ++ List.range' 41 10 := by rw [ea]; simp [List.append_assoc, List.range']
  unfold hk_st0 at h1
  rw [← fA, ← el, ← e0] at h1
  exact h1
end HKL
/-- where the references point at the start -/
theorem hk_r0 : hk_ov 0 40 11 hk_mr (hk_ov 0 0 40 hk_cr (fun _ _ => 0)) = hk_RH 0 0 35 := by
  funext p q
  match p with
  | 0 => rfl
  | 1 => rfl
  | 2 => rfl
  | 3 => rfl
  | 4 => rfl
  | 5 => rfl
  | 6 => rfl
  | 7 => rfl
  | 8 => rfl
  | 9 => rfl
  | 10 => rfl
  | 11 => rfl
  | 12 => rfl
  | 13 => rfl
  | 14 => rfl
  | 15 => rfl
  | 16 => rfl
  | 17 => rfl
  | 18 => rfl
  | 19 => rfl
  | 20 => rfl
  | 21 => rfl
  | 22 => rfl
  | 23 => match q with | 0 => rfl | 1 => rfl | q + 2 => rfl
  | 24 => rfl
  | 25 => rfl
  | 26 => rfl
  | 27 => rfl
  | 28 => rfl
  | 29 => rfl
  | 30 => rfl
  | 31 => rfl
  | 32 => rfl
  | 33 => rfl
  | 34 => rfl
  | 35 => rfl
  | 36 => rfl
  | 37 => rfl
  | 38 => rfl
  | 39 => rfl
  | 40 => rfl
  | 41 => rfl
  | 42 => rfl
  | 43 => rfl
  | 44 => rfl
  | 45 => rfl
  | 46 => rfl
  | 47 => rfl
  | 48 => rfl
  | 49 => rfl
  | 50 => rfl
  | p + 51 =>
    unfold hk_ov
    rw [if_neg (by omega), if_neg (by omega)]
    rfl
