/-! ===== functions given by lists; new cells ===== -/
def hk_lf {α : Type} (z : α) (R : List (List α)) (p k : Nat) : α := (((R[p]?).getD [])[k]?).getD z
def hk_ls1 {α : Type} (z : α) : Nat → α → List α → List α
  | 0, x, [] => [x]
  | 0, x, _ :: r => x :: r
  | k + 1, x, [] => z :: hk_ls1 z k x []
  | k + 1, x, a :: r => a :: hk_ls1 z k x r
def hk_ls2 {α : Type} (z : α) : Nat → Nat → α → List (List α) → List (List α)
  | 0, k, x, [] => [hk_ls1 z k x []]
  | 0, k, x, a :: r => hk_ls1 z k x a :: r
  | p + 1, k, x, [] => [] :: hk_ls2 z p k x []
  | p + 1, k, x, a :: r => a :: hk_ls2 z p k x r
theorem hk_ls1_at {α : Type} {z x : α} : ∀ (k : Nat) (r : List α) (j : Nat), ((hk_ls1 z k x r)[j]?).getD z = if j = k then x else (r[j]?).getD z
  | 0, [], 0 => rfl
  | 0, [], j + 1 => by simp [hk_ls1]
  | 0, a :: r, 0 => rfl
  | 0, a :: r, j + 1 => by simp [hk_ls1]
  | k + 1, [], 0 => by simp [hk_ls1]
  | k + 1, [], j + 1 => by
    have := hk_ls1_at (z := z) (x := x) k [] j
    simp only [hk_ls1, List.getElem?_cons_succ, this]
    by_cases h : j = k
    · subst h; simp
    · simp [h]
  | k + 1, a :: r, 0 => by simp [hk_ls1]
  | k + 1, a :: r, j + 1 => by
    have := hk_ls1_at (z := z) (x := x) k r j
    simp only [hk_ls1, List.getElem?_cons_succ, this]
    by_cases h : j = k
    · subst h; simp
    · simp [h]
theorem hk_ls2_at {α : Type} {z x : α} {k : Nat} : ∀ (p : Nat) (R : List (List α)) (q j : Nat), hk_lf z (hk_ls2 z p k x R) q j = if q = p then (if j = k then x else hk_lf z R q j) else hk_lf z R q j
  | 0, [], 0, j => by simp only [hk_ls2, hk_lf, List.getElem?_cons_zero, Option.getD_some, hk_ls1_at]; simp
  | 0, [], q + 1, j => by simp [hk_ls2, hk_lf]
  | 0, a :: r, 0, j => by simp only [hk_ls2, hk_lf, List.getElem?_cons_zero, Option.getD_some, hk_ls1_at]; simp
  | 0, a :: r, q + 1, j => by simp [hk_ls2, hk_lf]
  | p + 1, [], 0, j => by simp [hk_ls2, hk_lf]
  | p + 1, [], q + 1, j => by
    have := hk_ls2_at (z := z) (x := x) (k := k) p [] q j
    unfold hk_lf at this ⊢
    simp only [hk_ls2, List.getElem?_cons_succ, this]
    simp
  | p + 1, a :: r, 0, j => by simp [hk_ls2, hk_lf]
  | p + 1, a :: r, q + 1, j => by
    have := hk_ls2_at (z := z) (x := x) (k := k) p r q j
    unfold hk_lf at this ⊢
    simp only [hk_ls2, List.getElem?_cons_succ, this]
    simp
theorem hk_u2_lf {R : List (List Int32)} {p k : Nat} {x : Int32} : hk_u2 (hk_lf 0 R) p k x = hk_lf 0 (hk_ls2 0 p k x R) := by
  funext q j
  rw [hk_ls2_at]
  unfold hk_u2
  by_cases h : q = p
  · subst h
    rw [if_pos rfl, if_pos rfl]
    by_cases h2 : j = k
    · subst h2; rw [pk_us, if_pos rfl]
    · rw [pk_un h2, if_neg h2]
  · rw [if_neg h, if_neg h]
theorem hk_uR_lf {R : List (List Nat)} {p k x : Nat} : hk_uR (hk_lf 0 R) p k x = hk_lf 0 (hk_ls2 0 p k x R) := by
  funext q j
  rw [hk_ls2_at]
  unfold hk_uR
  by_cases h : q = p
  · subst h
    rw [if_pos rfl, if_pos rfl]
  · rw [if_neg h, if_neg h]
theorem hk_z_lf {α : Type} {z : α} {R : List (List α)} {p : Nat} (h : (R[p]?).getD [] = []) : hk_z (hk_lf z R) p z = hk_lf z R := by
  funext q j
  unfold hk_z
  by_cases h2 : q = p
  · subst h2
    rw [if_pos rfl]
    unfold hk_lf
    rw [h]
    rfl
  · rw [if_neg h2]
/-- the next place is p -/
def hk_up (al : List Nat) (p : Nat) : Prop := p < 95 ∧ (∀ q ∈ al, q < p ∨ q = 95) ∧ al.length = p + (if al.contains 95 then 1 else 0)
theorem hk_up_np {al : List Nat} {p n : Nat} (h : hk_up al p) (hn : Nat.beq n 100000 = false) : hk_np 95 100000 al n = p ∧ al.contains p = false := by
  obtain ⟨h1, h2, h3⟩ := h
  refine ⟨?_, ?_⟩
  · unfold hk_np
    rw [hn]
    cases hc : al.contains 95 with
    | true => rw [hc] at h3; simp only [if_pos] at h3 ⊢; omega
    | false => rw [hc] at h3; simp at h3 ⊢; omega
  · cases hc : al.contains p with
    | false => rfl
    | true =>
      rcases h2 p (List.contains_iff_mem.mp hc) with h4 | h4 <;> omega
theorem hk_up_nx {al : List Nat} {p q : Nat} (h : hk_up al p) (hq : q = p + 1) (hp : q < 95) : hk_up (al ++ [p]) q := by
  subst hq
  obtain ⟨h1, h2, h3⟩ := h
  have e : (al ++ [p]).contains 95 = al.contains 95 := by
    cases hc : al.contains 95 with
    | true =>
      have := List.contains_iff_mem.mp hc
      exact List.contains_iff_mem.mpr (List.mem_append_left _ this)
    | false =>
      cases hd : (al ++ [p]).contains 95 with
      | false => rfl
      | true =>
        rcases List.mem_append.mp (List.contains_iff_mem.mp hd) with h4 | h4
        · rw [List.contains_iff_mem.mpr h4] at hc; cases hc
        · rw [List.mem_singleton] at h4; omega
  refine ⟨hp, fun q hq => ?_, ?_⟩
  · rcases List.mem_append.mp hq with h4 | h4
    · rcases h2 q h4 with h5 | h5 <;> omega
    · rw [List.mem_singleton] at h4; omega
  · rw [e, List.length_append, List.length_singleton, h3]
    omega
theorem hk_mkI {nx : hk_L → List Value → hk_H → Prop} {L : hk_L} {r : List Value} {s : Nat → Nat → Int32} {lm : Nat → Nat → Int64} {rr : Nat → Nat → Nat} {al : List Nat} {k n p : Nat} (u : hk_up al p) (hs : hk_is (hk_SH p) k n = true) (hn : Nat.beq n 100000 = false) (P : nx L (.ref p :: r) (hk_z s p 0, hk_z lm p 0, hk_z rr p 0, al ++ [p])) : hk_mk hk_SH 95 100000 False nx L r (s, lm, rr, al) k n := by
  obtain ⟨h1, h2⟩ := hk_up_np (n := n) u hn
  unfold hk_mk
  simp only
  rw [h1, hs, h2]
  exact P
theorem hk_nai {nx : hk_L → List Value → hk_H → Prop} {L : hk_L} {r : List Value} {s : Nat → Nat → Int32} {lm : Nat → Nat → Int64} {rr : Nat → Nat → Nat} {al : List Nat} {k p : Nat} {v : Int32} (N : Nat) (e : v = nI N) (hN : Nat.ble N 200000 = true) (u : hk_up al p) (hs : hk_is (hk_SH p) k N = true) (hn : Nat.beq N 100000 = false) (P : nx L (.ref p :: r) (hk_z s p 0, hk_z lm p 0, hk_z rr p 0, al ++ [p])) : (¬ v < 0 ∧ v.toNatClampNeg ≤ 200000) ∧ hk_mk hk_SH 95 100000 False nx L r (s, lm, rr, al) k v.toNatClampNeg := by
  subst e
  have h1 := Nat.le_of_ble_eq_true hN
  rw [nI_clamp (by omega)]
  exact ⟨⟨nI_pos (by omega), h1⟩, hk_mkI u hs hn P⟩
/-! ===== the constructors ===== -/
section HKN
variable {d : Nat} {s : Nat → Nat → Int32} {lm : Nat → Nat → Int64} {rr : Nat → Nat → Nat} {al : List Nat} {k : Option Value → hk_H → Prop}
theorem n_table_2 (u : hk_up al 3) (h1 : k none (hk_z (hk_u2 (hk_u2 s 2 0 6) 2 1 9) 3 0, hk_z lm 3 0, hk_uR (hk_z rr 3 0) 2 2 3, al ++ [3])) : hk_Cl (d + 1) 2 [.ref 2, .int 6, .int 9] (s, lm, rr, al) k := by
  refine hk_mth hk_m2 rfl rfl (n := 1000) ?_
  refine hk_nai 54 rfl rfl u rfl rfl ?_
  exact h1
end HKN
