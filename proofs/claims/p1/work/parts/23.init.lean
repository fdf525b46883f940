/-! ===== functions given by lists; new cells ===== -/
def hk_lf {α : Type} (z : α) (R : List (List α)) (p k : Nat) : α := (((R[p]?).getD [])[k]?).getD z
def hk_ls1 {α : Type} (z : α) : Nat → α → List α → List α
  | 0, x, [] => [x]
  | 0, x, _ :: r => x :: r
  | k + 1, x, [] => z :: hk_ls1 z k x []
  | k + 1, x, a :: r => a :: hk_ls1 z k x r
def hk_ls2 {α : Type} (z : α) : Nat → Nat → α → List (List α) → List (List α)
  | 0, k, x, [] => [hk_ls1 z k x []]
  | 0, k, x, a :: r => hk_ls1 z k x a :: r
  | p + 1, k, x, [] => [] :: hk_ls2 z p k x []
  | p + 1, k, x, a :: r => a :: hk_ls2 z p k x r
theorem hk_ls1_at {α : Type} {z x : α} : ∀ (k : Nat) (r : List α) (j : Nat), ((hk_ls1 z k x r)[j]?).getD z = if j = k then x else (r[j]?).getD z
  | 0, [], 0 => rfl
  | 0, [], j + 1 => by simp [hk_ls1]
  | 0, a :: r, 0 => rfl
  | 0, a :: r, j + 1 => by simp [hk_ls1]
  | k + 1, [], 0 => by simp [hk_ls1]
  | k + 1, [], j + 1 => by
    have := hk_ls1_at (z := z) (x := x) k [] j
    simp only [hk_ls1, List.getElem?_cons_succ, this]
    by_cases h : j = k
    · subst h; simp
    · simp [h]
  | k + 1, a :: r, 0 => by simp [hk_ls1]
  | k + 1, a :: r, j + 1 => by
    have := hk_ls1_at (z := z) (x := x) k r j
    simp only [hk_ls1, List.getElem?_cons_succ, this]
    by_cases h : j = k
    · subst h; simp
    · simp [h]
theorem hk_ls2_at {α : Type} {z x : α} {k : Nat} : ∀ (p : Nat) (R : List (List α)) (q j : Nat), hk_lf z (hk_ls2 z p k x R) q j = if q = p then (if j = k then x else hk_lf z R q j) else hk_lf z R q j
  | 0, [], 0, j => by simp only [hk_ls2, hk_lf, List.getElem?_cons_zero, Option.getD_some, hk_ls1_at]; simp
  | 0, [], q + 1, j => by simp [hk_ls2, hk_lf]
  | 0, a :: r, 0, j => by simp only [hk_ls2, hk_lf, List.getElem?_cons_zero, Option.getD_some, hk_ls1_at]; simp
  | 0, a :: r, q + 1, j => by simp [hk_ls2, hk_lf]
  | p + 1, [], 0, j => by simp [hk_ls2, hk_lf]
  | p + 1, [], q + 1, j => by
    have := hk_ls2_at (z := z) (x := x) (k := k) p [] q j
    unfold hk_lf at this ⊢
    simp only [hk_ls2, List.getElem?_cons_succ, this]
    simp
  | p + 1, a :: r, 0, j => by simp [hk_ls2, hk_lf]
  | p + 1, a :: r, q + 1, j => by
    have := hk_ls2_at (z := z) (x := x) (k := k) p r q j
    unfold hk_lf at this ⊢
    simp only [hk_ls2, List.getElem?_cons_succ, this]
    simp
theorem hk_u2_lf {R : List (List Int32)} {p k : Nat} {x : Int32} : hk_u2 (hk_lf 0 R) p k x = hk_lf 0 (hk_ls2 0 p k x R) := by
  funext q j
  rw [hk_ls2_at]
  unfold hk_u2
  by_cases h : q = p
  · subst h
    rw [if_pos rfl, if_pos rfl]
    by_cases h2 : j = k
    · subst h2; rw [pk_us, if_pos rfl]
    · rw [pk_un h2, if_neg h2]
  · rw [if_neg h, if_neg h]
theorem hk_uR_lf {R : List (List Nat)} {p k x : Nat} : hk_uR (hk_lf 0 R) p k x = hk_lf 0 (hk_ls2 0 p k x R) := by
  funext q j
  rw [hk_ls2_at]
  unfold hk_uR
  by_cases h : q = p
  · subst h
    rw [if_pos rfl, if_pos rfl]
  · rw [if_neg h, if_neg h]
theorem hk_z_lf {α : Type} {z : α} {R : List (List α)} {p : Nat} (h : (R[p]?).getD [] = []) : hk_z (hk_lf z R) p z = hk_lf z R := by
  funext q j
  unfold hk_z
  by_cases h2 : q = p
  · subst h2
    rw [if_pos rfl]
    unfold hk_lf
    rw [h]
    rfl
  · rw [if_neg h2]
/-- places B .. B + n - 1 by a list, the rest as before -/
def hk_ov {α : Type} (z : α) (B n : Nat) (R : List (List α)) (f : Nat → Nat → α) (p q : Nat) : α := if B ≤ p ∧ p < B + n then hk_lf z R (p - B) q else f p q
theorem hk_ov_0 {α : Type} {z : α} {B : Nat} {f : Nat → Nat → α} : hk_ov z B 0 [] f = f := by
  funext p q
  unfold hk_ov
  rw [if_neg (by omega)]
theorem hk_ov_z {α : Type} {z : α} {B n m p : Nat} {R : List (List α)} {f : Nat → Nat → α} (hp : p = B + n) (hR : R.length ≤ n) (hm : m = n + 1) : hk_z (hk_ov z B n R f) p z = hk_ov z B m R f := by
  subst hp hm
  funext a q
  unfold hk_z hk_ov
  by_cases h : a = B + n
  · subst h
    rw [if_pos rfl, if_pos (by omega)]
    unfold hk_lf
    have e : R[B + n - B]? = none := List.getElem?_eq_none (by omega)
    rw [e]
    rfl
  · rw [if_neg h]
    by_cases h2 : B ≤ a ∧ a < B + n
    · rw [if_pos h2, if_pos (by omega)]
    · rw [if_neg h2, if_neg (by omega)]
theorem hk_ov_u2 {B n p k : Nat} {x : Int32} {R : List (List Int32)} {f : Nat → Nat → Int32} (hp : B ≤ p) (hq : p < B + n) : hk_u2 (hk_ov 0 B n R f) p k x = hk_ov 0 B n (hk_ls2 0 (p - B) k x R) f := by
  funext a q
  unfold hk_u2
  by_cases h : a = p
  · subst h
    rw [if_pos rfl]
    unfold hk_ov
    rw [if_pos ⟨hp, hq⟩, hk_ls2_at, if_pos rfl]
    by_cases h2 : q = k
    · subst h2; rw [pk_us, if_pos rfl]
    · rw [pk_un h2, if_neg h2, if_pos ⟨hp, hq⟩]
  · rw [if_neg h]
    unfold hk_ov
    by_cases h2 : B ≤ a ∧ a < B + n
    · rw [if_pos h2, if_pos h2, hk_ls2_at, if_neg (by omega)]
    · rw [if_neg h2, if_neg h2]
theorem hk_ov_uR {B n p k x : Nat} {R : List (List Nat)} {f : Nat → Nat → Nat} (hp : B ≤ p) (hq : p < B + n) : hk_uR (hk_ov 0 B n R f) p k x = hk_ov 0 B n (hk_ls2 0 (p - B) k x R) f := by
  funext a q
  unfold hk_uR
  by_cases h : a = p
  · subst h
    rw [if_pos rfl]
    show (if q = k then x else hk_ov 0 B n R f a q) = _
    unfold hk_ov
    rw [if_pos (And.intro hp hq), if_pos (And.intro hp hq), hk_ls2_at, if_pos rfl]
  · rw [if_neg h]
    unfold hk_ov
    by_cases h2 : B ≤ a ∧ a < B + n
    · rw [if_pos h2, if_pos h2, hk_ls2_at, if_neg (by omega)]
    · rw [if_neg h2, if_neg h2]
/-- the next place is p -/
def hk_up (al : List Nat) (p : Nat) : Prop := p < 95 ∧ (∀ q ∈ al, q < p ∨ q = 95) ∧ al.length = p + (if al.contains 95 then 1 else 0)
theorem hk_up_np {al : List Nat} {p n : Nat} (h : hk_up al p) (hn : Nat.beq n 100000 = false) : hk_np 95 100000 al n = p ∧ al.contains p = false := by
  obtain ⟨h1, h2, h3⟩ := h
  refine ⟨?_, ?_⟩
  · unfold hk_np
    rw [hn]
    cases hc : al.contains 95 with
    | true => rw [hc] at h3; simp only [if_pos] at h3 ⊢; omega
    | false => rw [hc] at h3; simp at h3 ⊢; omega
  · cases hc : al.contains p with
    | false => rfl
    | true =>
      rcases h2 p (List.contains_iff_mem.mp hc) with h4 | h4 <;> omega
theorem hk_up_nx {al : List Nat} {p q : Nat} (h : hk_up al p) (hq : q = p + 1) (hp : q < 95) : hk_up (al ++ [p]) q := by
  subst hq
  obtain ⟨h1, h2, h3⟩ := h
  have e : (al ++ [p]).contains 95 = al.contains 95 := by
    cases hc : al.contains 95 with
    | true =>
      have := List.contains_iff_mem.mp hc
      exact List.contains_iff_mem.mpr (List.mem_append_left _ this)
    | false =>
      cases hd : (al ++ [p]).contains 95 with
      | false => rfl
      | true =>
        rcases List.mem_append.mp (List.contains_iff_mem.mp hd) with h4 | h4
        · rw [List.contains_iff_mem.mpr h4] at hc; cases hc
        · rw [List.mem_singleton] at h4; omega
  refine ⟨hp, fun q hq => ?_, ?_⟩
  · rcases List.mem_append.mp hq with h4 | h4
    · rcases h2 q h4 with h5 | h5 <;> omega
    · rw [List.mem_singleton] at h4; omega
  · rw [e, List.length_append, List.length_singleton, h3]
    omega
theorem hk_mkI {nx : hk_L → List Value → hk_H → Prop} {L : hk_L} {r : List Value} {s : Nat → Nat → Int32} {lm : Nat → Nat → Int64} {rr : Nat → Nat → Nat} {al : List Nat} {k n p : Nat} (u : hk_up al p) (hs : hk_is (hk_SH p) k n = true) (hn : Nat.beq n 100000 = false) (P : nx L (.ref p :: r) (hk_z s p 0, hk_z lm p 0, hk_z rr p 0, al ++ [p])) : hk_mk hk_SH 95 100000 False nx L r (s, lm, rr, al) k n := by
  obtain ⟨h1, h2⟩ := hk_up_np (n := n) u hn
  unfold hk_mk
  simp only
  rw [h1, hs, h2]
  exact P
theorem hk_nai {nx : hk_L → List Value → hk_H → Prop} {L : hk_L} {r : List Value} {s : Nat → Nat → Int32} {lm : Nat → Nat → Int64} {rr : Nat → Nat → Nat} {al : List Nat} {k p : Nat} {v : Int32} (N : Nat) (e : v = nI N) (hN : Nat.ble N 200000 = true) (u : hk_up al p) (hs : hk_is (hk_SH p) k N = true) (hn : Nat.beq N 100000 = false) (P : nx L (.ref p :: r) (hk_z s p 0, hk_z lm p 0, hk_z rr p 0, al ++ [p])) : (¬ v < 0 ∧ v.toNatClampNeg ≤ 200000) ∧ hk_mk hk_SH 95 100000 False nx L r (s, lm, rr, al) k v.toNatClampNeg := by
  subst e
  have h1 := Nat.le_of_ble_eq_true hN
  rw [nI_clamp (by omega)]
  exact ⟨⟨nI_pos (by omega), h1⟩, hk_mkI u hs hn P⟩
/-! ===== the constructors ===== -/
theorem hk_uR_id {rr : Nat → Nat → Nat} {p k x : Nat} (h : rr p k = x) : rr = hk_uR rr p k x := by
  funext a b
  unfold hk_uR
  by_cases h1 : a = p
  · subst h1
    rw [if_pos rfl]
    show rr a b = if b = k then x else rr a b
    by_cases h2 : b = k
    · subst h2; rw [if_pos rfl, h]
    · rw [if_neg h2]
  · rw [if_neg h1]
/-- a table's row and cells -/
def hk_nt (s : Nat → Nat → Int32) (t m c : Nat) (x y : Int32) : Nat → Nat → Int32 := hk_z (hk_u2 (hk_u2 s t 0 x) t 1 y) c 0
section HKN
variable {d : Nat} {s : Nat → Nat → Int32} {lm : Nat → Nat → Int64} {rr : Nat → Nat → Nat} {al : List Nat} {k : Option Value → hk_H → Prop}
theorem n_table_2 (u : hk_up al 3) (h1 : ∀ s2, s2 = hk_z (hk_u2 (hk_u2 s 2 0 6) 2 1 9) 3 0 → k none (s2, hk_z lm 3 0, hk_uR (hk_z rr 3 0) 2 2 3, al ++ [3])) : hk_Cl (d + 1) 2 [.ref 2, .int 6, .int 9] (s, lm, rr, al) k := by
  refine hk_mth hk_m2 rfl rfl (n := 1000) ?_
  refine hk_nai 54 rfl rfl u rfl rfl ?_
  exact h1 _ rfl
theorem n_table_4 (u : hk_up al 5) (h1 : ∀ s2, s2 = hk_z (hk_u2 (hk_u2 s 4 0 96) 4 1 6) 5 0 → k none (s2, hk_z lm 5 0, hk_uR (hk_z rr 5 0) 4 2 5, al ++ [5])) : hk_Cl (d + 1) 2 [.ref 4, .int 96, .int 6] (s, lm, rr, al) k := by
  refine hk_mth hk_m2 rfl rfl (n := 1000) ?_
  refine hk_nai 576 rfl rfl u rfl rfl ?_
  exact h1 _ rfl
theorem n_table_6 (u : hk_up al 7) (h1 : ∀ s2, s2 = hk_z (hk_u2 (hk_u2 s 6 0 150) 6 1 5) 7 0 → k none (s2, hk_z lm 7 0, hk_uR (hk_z rr 7 0) 6 2 7, al ++ [7])) : hk_Cl (d + 1) 2 [.ref 6, .int 150, .int 5] (s, lm, rr, al) k := by
  refine hk_mth hk_m2 rfl rfl (n := 1000) ?_
  refine hk_nai 750 rfl rfl u rfl rfl ?_
  exact h1 _ rfl
theorem n_table_8 (u : hk_up al 9) (h1 : ∀ s2, s2 = hk_z (hk_u2 (hk_u2 s 8 0 4) 8 1 3) 9 0 → k none (s2, hk_z lm 9 0, hk_uR (hk_z rr 9 0) 8 2 9, al ++ [9])) : hk_Cl (d + 1) 2 [.ref 8, .int 4, .int 3] (s, lm, rr, al) k := by
  refine hk_mth hk_m2 rfl rfl (n := 1000) ?_
  refine hk_nai 12 rfl rfl u rfl rfl ?_
  exact h1 _ rfl
theorem n_table_10 (u : hk_up al 11) (h1 : ∀ s2, s2 = hk_z (hk_u2 (hk_u2 s 10 0 4) 10 1 61) 11 0 → k none (s2, hk_z lm 11 0, hk_uR (hk_z rr 11 0) 10 2 11, al ++ [11])) : hk_Cl (d + 1) 2 [.ref 10, .int 4, .int 61] (s, lm, rr, al) k := by
  refine hk_mth hk_m2 rfl rfl (n := 1000) ?_
  refine hk_nai 244 rfl rfl u rfl rfl ?_
  exact h1 _ rfl
theorem n_table_12 (u : hk_up al 13) (h1 : ∀ s2, s2 = hk_z (hk_u2 (hk_u2 s 12 0 4) 12 1 3) 13 0 → k none (s2, hk_z lm 13 0, hk_uR (hk_z rr 13 0) 12 2 13, al ++ [13])) : hk_Cl (d + 1) 2 [.ref 12, .int 4, .int 3] (s, lm, rr, al) k := by
  refine hk_mth hk_m2 rfl rfl (n := 1000) ?_
  refine hk_nai 12 rfl rfl u rfl rfl ?_
  exact h1 _ rfl
theorem n_table_14 (u : hk_up al 15) (h1 : ∀ s2, s2 = hk_z (hk_u2 (hk_u2 s 14 0 20) 14 1 2) 15 0 → k none (s2, hk_z lm 15 0, hk_uR (hk_z rr 15 0) 14 2 15, al ++ [15])) : hk_Cl (d + 1) 2 [.ref 14, .int 20, .int 2] (s, lm, rr, al) k := by
  refine hk_mth hk_m2 rfl rfl (n := 1000) ?_
  refine hk_nai 40 rfl rfl u rfl rfl ?_
  exact h1 _ rfl
theorem n_table_16 (u : hk_up al 17) (h1 : ∀ s2, s2 = hk_z (hk_u2 (hk_u2 s 16 0 8) 16 1 2) 17 0 → k none (s2, hk_z lm 17 0, hk_uR (hk_z rr 17 0) 16 2 17, al ++ [17])) : hk_Cl (d + 1) 2 [.ref 16, .int 8, .int 2] (s, lm, rr, al) k := by
  refine hk_mth hk_m2 rfl rfl (n := 1000) ?_
  refine hk_nai 16 rfl rfl u rfl rfl ?_
  exact h1 _ rfl
theorem n_table_18 (u : hk_up al 19) (h1 : ∀ s2, s2 = hk_z (hk_u2 (hk_u2 s 18 0 8) 18 1 3) 19 0 → k none (s2, hk_z lm 19 0, hk_uR (hk_z rr 19 0) 18 2 19, al ++ [19])) : hk_Cl (d + 1) 2 [.ref 18, .int 8, .int 3] (s, lm, rr, al) k := by
  refine hk_mth hk_m2 rfl rfl (n := 1000) ?_
  refine hk_nai 24 rfl rfl u rfl rfl ?_
  exact h1 _ rfl
end HKN
-- GEN
section HKG
variable {d t n : Nat} {r c v : Int32} {s : Nat → Nat → Int32} {lm : Nat → Nat → Int64} {rr : Nat → Nat → Nat} {al : List Nat} {k : Option Value → hk_H → Prop}
theorem g_full (ht : hk_tb t) (h1 : s t 0 ≤ s t 3 → k (some (.int 1)) (s, lm, hk_uR rr t 2 (t + 1), al)) (h0 : s t 3 < s t 0 → k (some (.int 0)) (s, lm, hk_uR rr t 2 (t + 1), al)) : hk_Cl (d + 1) 4 [.ref t] (s, lm, hk_uR rr t 2 (t + 1), al) k := by
  rcases ht with rfl | rfl | rfl | rfl | rfl | rfl | rfl | rfl | rfl
  all_goals
    refine hk_mth hk_m4 rfl rfl (n := 1000) ?_
    refine And.intro (fun c1 => ?_) (fun c1 => ?_)
    · exact And.intro (Or.inl rfl) (h0 c1)
    · exact And.intro (Or.inr rfl) (h1 (Int32.not_lt.mp c1))
theorem g_put_in (ht : hk_tb t) (hw : hk_tw s t n) {i j : Nat} (hi : i < hk_mo t) (hj : j < hk_co t) (h1 : k none (hk_u2 s (t + 1) (i * hk_co t + j) v, lm, hk_uR rr t 2 (t + 1), al)) : hk_Cl (d + 1) 5 [.ref t, .int (nI i), .int (nI j), .int v] (s, lm, hk_uR rr t 2 (t + 1), al) k := by
  obtain ⟨g1, g2⟩ := hk_cell ht hw hi (Nat.le_refl _) hj
  obtain ⟨g3, g4⟩ := hk_mo31 ht
  have a1 : ¬ nI i < 0 := nI_pos (by omega)
  have a2 : ¬ s t 0 ≤ nI i := by rw [hw.1]; exact hk_nlt hi (by omega)
  have a3 : ¬ nI j < 0 := nI_pos (by omega)
  have a4 : ¬ s t 1 ≤ nI j := by rw [hw.2.1]; exact hk_nlt hj (by omega)
  rw [← g2] at h1
  rcases ht with rfl | rfl | rfl | rfl | rfl | rfl | rfl | rfl | rfl
  all_goals
    refine hk_mth hk_m5 rfl rfl (n := 1000) ?_
    refine And.intro (fun hc => absurd hc a1) (fun _ => ?_)
    refine And.intro (fun hc => absurd hc a2) (fun _ => ?_)
    refine And.intro (fun hc => absurd hc a3) (fun _ => ?_)
    refine And.intro (fun hc => absurd hc a4) (fun _ => ?_)
    exact And.intro g1 h1
theorem g_put_out (ht : hk_tb t) (hw : hk_tw s t n) {i j : Nat} (hi : i < hk_mo t) (hj : ¬ j < hk_co t) (hj2 : j < 2 ^ 30) (h1 : k none (s, lm, hk_uR rr t 2 (t + 1), al)) : hk_Cl (d + 1) 5 [.ref t, .int (nI i), .int (nI j), .int v] (s, lm, hk_uR rr t 2 (t + 1), al) k := by
  obtain ⟨g3, g4⟩ := hk_mo31 ht
  have a1 : ¬ nI i < 0 := nI_pos (by omega)
  have a2 : ¬ s t 0 ≤ nI i := by rw [hw.1]; exact hk_nlt hi (by omega)
  have a3 : ¬ nI j < 0 := nI_pos (by omega)
  have a4 : s t 1 ≤ nI j := by rw [hw.2.1]; exact nI_le (by omega) (by omega)
  rcases ht with rfl | rfl | rfl | rfl | rfl | rfl | rfl | rfl | rfl
  all_goals
    refine hk_mth hk_m5 rfl rfl (n := 1000) ?_
    refine And.intro (fun hc => absurd hc a1) (fun _ => ?_)
    refine And.intro (fun hc => absurd hc a2) (fun _ => ?_)
    refine And.intro (fun hc => absurd hc a3) (fun _ => ?_)
    refine And.intro (fun _ => ?_) (fun hc => absurd a4 hc)
    exact h1
theorem g_put_row {s2 : Nat → Nat → Int32} {f : Nat → Int32} {j : Nat} (ht : hk_tb t) (hw : hk_tw s t n) (hn : n < hk_mo t) (h : hk_adc s s2 t n (hk_co t) f) (hj : j < 5) (h1 : ∀ s3, hk_adc s s3 t n (hk_co t) (fun z => if z = j then v else f z) → k none (s3, lm, hk_uR rr t 2 (t + 1), al)) : hk_Cl (d + 1) 5 [.ref t, .int (nI n), .int (nI j), .int v] (s2, lm, hk_uR rr t 2 (t + 1), al) k := by
  by_cases hc : j < hk_co t
  · refine g_put_in ht (hk_adc_tw h hw) hn hc (h1 _ ?_)
    have := hk_adc_put (v := v) h hc (by omega)
    rwa [if_neg (by omega)] at this
  · refine g_put_out ht (hk_adc_tw h hw) hn hc (by omega) (h1 _ ⟨h.1, fun z hz => ?_⟩)
    dsimp only
    rw [if_neg (by omega)]
    exact h.2 z hz
theorem hk_gadd_end {a1 a2 a3 a4 a5 : Int32} (hw : hk_tw s t n) (h1 : ∀ s2, hk_add s s2 t n [a1, a2, a3, a4, a5] → k (some (.int (nI n))) (s2, lm, hk_uR rr t 2 (t + 1), al)) (s2 : Nat → Nat → Int32) (h2 : hk_adc s s2 t n (hk_co t) (fun z => if z = 4 then a5 else if z = 3 then a4 else if z = 2 then a3 else if z = 1 then a2 else if z = 0 then a1 else 0)) : k (some (.int (nI n))) (hk_u2 s2 t 3 (s2 t 3 + 1), lm, hk_uR rr t 2 (t + 1), al) := by
  have e : s2 t 3 + 1 = nI (n + 1) := by rw [(hk_adc_tw h2 hw).2.2.1, nI_1]
  rw [e]
  refine h1 _ (hk_adc_end h2 fun j hj => ?_)
  match j with
  | 0 => rfl
  | 1 => rfl
  | 2 => rfl
  | 3 => rfl
  | 4 => rfl
  | j + 5 => simp
theorem g_add_8 {a1 a2 a3 a4 a5 : Int32} (ht : hk_tb 8) (hw : hk_tw s 8 n) (hn : n < hk_mo 8) (h1 : ∀ s2, hk_add s s2 8 n [a1, a2, a3, a4, a5] → k (some (.int (nI n))) (s2, lm, hk_uR rr 8 2 (8 + 1), al)) : hk_Cl (d + 2) 3 [.ref 8, .int a1, .int a2, .int a3, .int a4, .int a5] (s, lm, hk_uR rr 8 2 (8 + 1), al) k := by
  have hco := hk_co2 ht
  have hmo := hk_mo31 ht
  have fin := hk_gadd_end hw h1
  refine hk_mth hk_m3 rfl rfl (n := 1000) ?_
  refine g_full ht (fun hc => absurd hc (by rw [hw.1, hw.2.2.1]; exact hk_nlt hn (by omega))) (fun _ => ?_)
  refine And.intro (fun _ => ?_) (fun hc => absurd (by decide) hc)
  have loop : ∀ (q m : Nat), m + q = hk_co 8 → ∀ s2, hk_adc s s2 8 n m (fun _ => 0) → hk_Rn (d + 1) none hk_c3 (hk_sfx 19 hk_c3) [some (.ref 8), some (.int a1), some (.int a2), some (.int a3), some (.int a4), some (.int a5), some (.int (nI n)), some (.int (nI m))] [] (s2, lm, hk_uR rr 8 2 (8 + 1), al) k := by
    intro q
    induction q with
    | zero =>
      intro m hm s2 h2
      have hc1 : s2 8 1 ≤ nI m := by rw [(hk_adc_tw h2 hw).2.1]; exact nI_le (by omega) (by omega)
      refine hk_hd (n := 1000) (t := 19) rfl ?_
      refine And.intro (fun _ => ?_) (fun hc => absurd hc1 hc)
      rw [show m = hk_co 8 by omega] at h2
      refine g_put_row (j := 0) ht hw hn h2 (by omega) fun s3 h3 => ?_
      refine g_put_row (j := 1) ht hw hn h3 (by omega) fun s4 h4 => ?_
      refine g_put_row (j := 2) ht hw hn h4 (by omega) fun s5 h5 => ?_
      refine g_put_row (j := 3) ht hw hn h5 (by omega) fun s6 h6 => ?_
      refine g_put_row (j := 4) ht hw hn h6 (by omega) fun s7 h7 => ?_
      exact fin s7 h7
    | succ q ih =>
      intro m hm s2 h2
      have hc1 : ¬ s2 8 1 ≤ nI m := by rw [(hk_adc_tw h2 hw).2.1]; exact hk_nlt (by omega) (by omega)
      refine hk_hd (n := 1000) (t := 19) rfl ?_
      refine And.intro (fun hc => absurd hc hc1) (fun _ => ?_)
      refine g_put_in ht (hk_adc_tw h2 hw) hn (j := m) (by omega) ?_
      have h3 := hk_adc_put (v := 0) h2 (j := m) (by omega) (Nat.le_refl m)
      rw [if_pos rfl] at h3
      refine hk_Rn_cast (by rw [← nI_1]; rfl) (ih (m + 1) (by omega) _ ⟨h3.1, fun z hz => ?_⟩)
      rw [h3.2 z hz]
      dsimp only
      split <;> rfl
  have h0 : hk_adc s s 8 n 0 (fun _ => 0) := ⟨fun _ _ _ => rfl, fun j hj => absurd hj (Nat.not_lt_zero j)⟩
  exact hk_Rn_cast (by rw [← hw.2.2.1]; rfl) (loop _ 0 (Nat.zero_add _) s h0)
theorem g_add_10 {a1 a2 a3 a4 a5 : Int32} (ht : hk_tb 10) (hw : hk_tw s 10 n) (hn : n < hk_mo 10) (h1 : ∀ s2, hk_add s s2 10 n [a1, a2, a3, a4, a5] → k (some (.int (nI n))) (s2, lm, hk_uR rr 10 2 (10 + 1), al)) : hk_Cl (d + 2) 3 [.ref 10, .int a1, .int a2, .int a3, .int a4, .int a5] (s, lm, hk_uR rr 10 2 (10 + 1), al) k := by
  have hco := hk_co2 ht
  have hmo := hk_mo31 ht
  have fin := hk_gadd_end hw h1
  refine hk_mth hk_m3 rfl rfl (n := 1000) ?_
  refine g_full ht (fun hc => absurd hc (by rw [hw.1, hw.2.2.1]; exact hk_nlt hn (by omega))) (fun _ => ?_)
  refine And.intro (fun _ => ?_) (fun hc => absurd (by decide) hc)
  have loop : ∀ (q m : Nat), m + q = hk_co 10 → ∀ s2, hk_adc s s2 10 n m (fun _ => 0) → hk_Rn (d + 1) none hk_c3 (hk_sfx 19 hk_c3) [some (.ref 10), some (.int a1), some (.int a2), some (.int a3), some (.int a4), some (.int a5), some (.int (nI n)), some (.int (nI m))] [] (s2, lm, hk_uR rr 10 2 (10 + 1), al) k := by
    intro q
    induction q with
    | zero =>
      intro m hm s2 h2
      have hc1 : s2 10 1 ≤ nI m := by rw [(hk_adc_tw h2 hw).2.1]; exact nI_le (by omega) (by omega)
      refine hk_hd (n := 1000) (t := 19) rfl ?_
      refine And.intro (fun _ => ?_) (fun hc => absurd hc1 hc)
      rw [show m = hk_co 10 by omega] at h2
      refine g_put_row (j := 0) ht hw hn h2 (by omega) fun s3 h3 => ?_
      refine g_put_row (j := 1) ht hw hn h3 (by omega) fun s4 h4 => ?_
      refine g_put_row (j := 2) ht hw hn h4 (by omega) fun s5 h5 => ?_
      refine g_put_row (j := 3) ht hw hn h5 (by omega) fun s6 h6 => ?_
      refine g_put_row (j := 4) ht hw hn h6 (by omega) fun s7 h7 => ?_
      exact fin s7 h7
    | succ q ih =>
      intro m hm s2 h2
      have hc1 : ¬ s2 10 1 ≤ nI m := by rw [(hk_adc_tw h2 hw).2.1]; exact hk_nlt (by omega) (by omega)
      refine hk_hd (n := 1000) (t := 19) rfl ?_
      refine And.intro (fun hc => absurd hc hc1) (fun _ => ?_)
      refine g_put_in ht (hk_adc_tw h2 hw) hn (j := m) (by omega) ?_
      have h3 := hk_adc_put (v := 0) h2 (j := m) (by omega) (Nat.le_refl m)
      rw [if_pos rfl] at h3
      refine hk_Rn_cast (by rw [← nI_1]; rfl) (ih (m + 1) (by omega) _ ⟨h3.1, fun z hz => ?_⟩)
      rw [h3.2 z hz]
      dsimp only
      split <;> rfl
  have h0 : hk_adc s s 10 n 0 (fun _ => 0) := ⟨fun _ _ _ => rfl, fun j hj => absurd hj (Nat.not_lt_zero j)⟩
  exact hk_Rn_cast (by rw [← hw.2.2.1]; rfl) (loop _ 0 (Nat.zero_add _) s h0)
end HKG
