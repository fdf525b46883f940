/-! ===== where the references point; plain facts ===== -/
/-- a house's references, the house at B -/
def hk_hx (B : Nat) : List (List Nat) := [[B + 1, B + 3, B + 5, B + 7, B + 9, B + 11, B + 13, B + 15, B + 17, B + 19, B + 20, B + 21], [0, 0, B + 2], [], [0, 0, B + 4], [], [0, 0, B + 6], [], [0, 0, B + 8], [], [0, 0, B + 10], [], [0, 0, B + 12], [], [0, 0, B + 14], [], [0, 0, B + 16], [], [0, 0, B + 18], [], [], [], []]
def hk_rx (i : Nat) : List (List Nat) := match i with
  | 0 => []
  | 51 => hk_hx 51
  | _ => hk_hx 51 ++ hk_hx 73
def hk_rl (i0 i1 b : Nat) : List (List Nat) := [[1, 23, 24, 25, 29, 36, 37], [2, 4, 6, 8, 10, 12, 14, 16, 18, 20, 21, 22], [0, 0, 3], [], [0, 0, 5], [], [0, 0, 7], [], [0, 0, 9], [], [0, 0, 11], [], [0, 0, 13], [], [0, 0, 15], [], [0, 0, 17], [], [0, 0, 19], [], [], [], [], [i0, i1], [1], [26, 27, 28], [], [], [], [30, 31, 32, 33, 34, 1, b], [], [], [], [], [], [], [], [38, 39], [], [], [41, 42, 43, 44, 0, 45, 46, 0, 47, 48, 49, 50]] ++ ([[], [], [], [], [], [], [], [], [], []] ++ hk_rx (i0 + i1))
def hk_RH (i0 i1 b : Nat) (p k : Nat) : Nat := (((hk_rl i0 i1 b)[p]?).getD [])[k]?.getD 0
/-- the tables of the house: their rows' and columns' numbers -/
def hk_mo (t : Nat) : Nat := match t with
  | 2 => 6 | 4 => 96 | 6 => 150 | 8 => 4 | 10 => 4 | 12 => 4 | 14 => 20 | 16 => 8 | 18 => 8 | 52 => 6 | 54 => 96 | 56 => 150 | 58 => 4 | 60 => 4 | 62 => 4 | 64 => 20 | 66 => 8 | 68 => 8 | 74 => 6 | 76 => 96 | 78 => 150 | 80 => 4 | 82 => 4 | 84 => 4 | 86 => 20 | 88 => 8 | 90 => 8 | _ => 0
def hk_co (t : Nat) : Nat := match t with
  | 2 => 9 | 4 => 6 | 6 => 5 | 8 => 3 | 10 => 61 | 12 => 3 | 14 => 2 | 16 => 2 | 18 => 3 | 52 => 9 | 54 => 6 | 56 => 5 | 58 => 3 | 60 => 61 | 62 => 3 | 64 => 2 | 66 => 2 | 68 => 3 | 74 => 9 | 76 => 6 | 78 => 5 | 80 => 3 | 82 => 61 | 84 => 3 | 86 => 2 | 88 => 2 | 90 => 3 | _ => 0
def hk_tb (t : Nat) : Prop := t = 2 ∨ t = 4 ∨ t = 6 ∨ t = 8 ∨ t = 10 ∨ t = 12 ∨ t = 14 ∨ t = 16 ∨ t = 18
/-- a table with n rows -/
def hk_tw (s : Nat → Nat → Int32) (t n : Nat) : Prop := s t 0 = nI (hk_mo t) ∧ s t 1 = nI (hk_co t) ∧ s t 3 = nI n ∧ n ≤ hk_mo t
theorem hk_ixin {i n m : Nat} {q c : Nat} (hi : i < n) (hn : n ≤ q) (hc : c < m) (hq : q * m < 2 ^ 30) : nI i * nI m + nI c = nI (i * m + c) ∧ i * m + c < q * m ∧ vp_in (nI i * nI m + nI c) (q * m) ∧ (nI i * nI m + nI c).toNatClampNeg = i * m + c := by
  have h1 : (i + 1) * m ≤ q * m := Nat.mul_le_mul_right m (by omega)
  rw [Nat.add_mul] at h1
  have h2 : i * m + c < q * m := by omega
  rw [pk_mul, nI_add]
  exact ⟨rfl, h2, vp_in_nI h2 (by omega), nI_clamp (by omega)⟩
theorem hk_nlt {i n : Nat} (h : i < n) (hn : n < 2 ^ 31) : ¬ nI n ≤ nI i := fun q => by
  rw [nI_leI (by omega) (by omega)] at q
  omega
theorem hk_zI : (0 : Int32) = nI 0 := rfl
theorem hk_Rn_cast {d : Nat} {scr : Option (Nat × (Nat → Int32))} {cd cs : List hk_E} {L L2 : hk_L} {st : List Value} {h : hk_H} {k : Option Value → hk_H → Prop} (e : L = L2) (r : hk_Rn d scr cd cs L2 st h k) : hk_Rn d scr cd cs L st h k := e ▸ r
theorem hk_lit (n : Nat) : (OfNat.ofNat n : Int32) = nI n := rfl
section HKX
variable {d n : Nat} {scr : Option (Nat × (Nat → Int32))} {cd cs : List hk_E} {L : hk_L} {st : List Value} {k : Option Value → hk_H → Prop} {s : Nat → Nat → Int32} {h2 : (Nat → Nat → Int64) × (Nat → Nat → Nat) × List Nat}
/-- a store, a load at a place that is known -/
theorem hk_sti {i x : Int32} {j N p : Nat} (e : i = nI j) (hj : j < N) (hN : N < 2 ^ 31) (h : hk_wp d scr cd k n cs L st (hk_u2 s p j x, h2)) : vp_in i N ∧ hk_wp d scr cd k n cs L st (hk_u2 s p i.toNatClampNeg x, h2) := by
  subst e
  rw [nI_clamp (by omega)]
  exact ⟨vp_in_nI hj hN, h⟩
theorem hk_ldi {i v : Int32} {j N p : Nat} (e : i = nI j) (hj : j < N) (hN : N < 2 ^ 31) (hv : s p j = v) (h : hk_wp d scr cd k n cs L (.int v :: st) (s, h2)) : vp_in i N ∧ hk_wp d scr cd k n cs L (.int (s p i.toNatClampNeg) :: st) (s, h2) := by
  subst e hv
  rw [nI_clamp (by omega)]
  exact ⟨vp_in_nI hj hN, h⟩
theorem hk_sti2 {i x x2 : Int32} {j N p : Nat} (e : i = nI j) (hj : j < N) (hN : N < 2 ^ 31) (ev : x = x2) (h : hk_wp d scr cd k n cs L st (hk_u2 s p j x2, h2)) : vp_in i N ∧ hk_wp d scr cd k n cs L st (hk_u2 s p i.toNatClampNeg x, h2) := by
  subst ev
  exact hk_sti e hj hN h
theorem hk_stn {i x : Int32} {j N p : Nat} {lm : Nat → Nat → Int64} {rr : Nat → Nat → Nat} {al : List Nat} (e : i = nI j) (hj : j < N) (hN : N < 2 ^ 31) (h : ∀ s2, s2 = hk_u2 s p j x → hk_wp d scr cd k n cs L st (s2, lm, rr, al)) : vp_in i N ∧ hk_wp d scr cd k n cs L st (hk_u2 s p i.toNatClampNeg x, lm, rr, al) := by
  subst e
  rw [nI_clamp (by omega)]
  exact ⟨vp_in_nI hj hN, h _ rfl⟩
end HKX
theorem hk_rng {v : Int32} {n : Nat} (hn : n < 2 ^ 31) (h1 : ¬ v < 0) (h2 : ¬ nI n < v) : ∃ j, j ≤ n ∧ v = nI j := by
  obtain ⟨j, h3, rfl⟩ := nI_of h1
  exact ⟨j, by rw [nI_ltI (by omega) h3] at h2; omega, rfl⟩
theorem hk_u2s {s : Nat → Nat → Int32} {p j : Nat} {x : Int32} : hk_u2 s p j x p j = x := by simp [hk_u2, upd]
theorem hk_u2o {s : Nat → Nat → Int32} {p j q i : Nat} {x : Int32} (h : ¬ (q = p ∧ i = j)) : hk_u2 s p j x q i = s q i := by
  unfold hk_u2
  by_cases h1 : q = p
  · subst h1
    rw [if_pos rfl, pk_un (fun e => h ⟨rfl, e⟩)]
  · rw [if_neg h1]
theorem hk_Cl_arg {d y : Nat} {a a2 : List Value} {h : hk_H} {k : Option Value → hk_H → Prop} (e : a = a2) (c : hk_Cl d y a2 h k) : hk_Cl d y a h k := e ▸ c
theorem hk_v3 {r : Value} {x x2 v : Int32} (e : x = x2) : [r, .int x, .int v] = [r, .int x2, .int v] := by rw [e]
