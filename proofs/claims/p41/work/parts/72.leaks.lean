/-! ===== leaks: both sides find the same ===== -/
def hk_pcF : Nat → Nat → Nat
  | 0, _ => 0
  | q + 1, j => j % 2 + hk_pcF q (j / 2)
theorem hk_pc_s {j : Nat} : hk_pc j = j % 2 + hk_pc (j / 2) := by
  by_cases h : j = 0
  · subst h
    rw [show (0 : Nat) / 2 = 0 from rfl, show hk_pc 0 = 0 by unfold hk_pc; rfl]
  · rw [hk_pc, dif_neg h]
theorem hk_pc_F : ∀ (q j : Nat), j < 2 ^ q → hk_pc j = hk_pcF q j
  | 0, j, h => by
    have e : j = 0 := by omega
    subst e
    unfold hk_pc
    rfl
  | q + 1, j, h => by
    rw [hk_pc_s, hk_pcF, hk_pc_F q (j / 2) (by rw [Nat.pow_succ] at h; omega)]
theorem hk_pc_lq : ∀ (q j : Nat), j < 2 ^ q → hk_pc j ≤ q
  | 0, j, h => by
    have e : j = 0 := by omega
    subst e
    unfold hk_pc
    exact Nat.le_refl 0
  | q + 1, j, h => by
    have := hk_pc_lq q (j / 2) (by rw [Nat.pow_succ] at h; omega)
    rw [hk_pc_s]
    omega
theorem hk_pc_x : ∀ (x j : Nat), j.testBit x = true → hk_pc j = hk_pc (j ^^^ 2 ^ x) + 1
  | 0, j, h => by
    have h : j % 2 = 1 := by
      rw [Nat.testBit_zero] at h
      exact of_decide_eq_true h
    have e1 : (j ^^^ 2 ^ 0) / 2 = j / 2 := by
      rw [Nat.xor_div_two]
      exact Nat.xor_zero _
    have e2 : (j ^^^ 2 ^ 0) % 2 = 0 := by
      have := (Nat.xor_mod_two_eq_one (a := j) (b := 2 ^ 0))
      have h1 : (2 ^ 0) % 2 = 1 := rfl
      have h2 : ¬ ((j ^^^ 2 ^ 0) % 2 = 1) := fun q => (this.mp q) ⟨fun _ => h1, fun _ => h⟩
      omega
    rw [hk_pc_s (j := j), hk_pc_s (j := j ^^^ 2 ^ 0), e1, e2]
    omega
  | x + 1, j, h => by
    have h : (j / 2).testBit x = true := by
      rw [Nat.testBit_succ] at h
      exact h
    have e1 : (j ^^^ 2 ^ (x + 1)) / 2 = (j / 2) ^^^ 2 ^ x := by
      rw [Nat.xor_div_two, show 2 ^ (x + 1) / 2 = 2 ^ x by rw [Nat.pow_succ]; omega]
    have e2 : (j ^^^ 2 ^ (x + 1)) % 2 = j % 2 := by
      have t := (Nat.xor_mod_two_eq_one (a := j) (b := 2 ^ (x + 1)))
      have h1 : ¬ (2 ^ (x + 1)) % 2 = 1 := by rw [Nat.pow_succ]; omega
      by_cases h2 : j % 2 = 1
      · rw [t.mpr (fun q => h1 (q.mp h2)), h2]
      · have h3 : ¬ ((j ^^^ 2 ^ (x + 1)) % 2 = 1) := fun q => (t.mp q) ⟨fun a => absurd a h2, fun a => absurd a h1⟩
        omega
    have := hk_pc_x x (j / 2) h
    rw [hk_pc_s (j := j), hk_pc_s (j := j ^^^ 2 ^ (x + 1)), e1, e2]
    omega
/-! bits of a number -/
def hk_ib (v : Int32) (x : Nat) : Bool := v.toBitVec.getLsbD x
theorem hk_ib_and (a c : Int32) (x : Nat) : hk_ib (a &&& c) x = (hk_ib a x && hk_ib c x) := BitVec.getLsbD_and (x := a.toBitVec) (y := c.toBitVec)
theorem hk_ib_or (a c : Int32) (x : Nat) : hk_ib (a ||| c) x = (hk_ib a x || hk_ib c x) := BitVec.getLsbD_or (x := a.toBitVec) (y := c.toBitVec)
theorem hk_ib_xor (a c : Int32) (x : Nat) : hk_ib (a ^^^ c) x = (hk_ib a x ^^ hk_ib c x) := BitVec.getLsbD_xor (x := a.toBitVec) (y := c.toBitVec)
theorem hk_ib_m1 : ∀ x, x < 32 → hk_ib (-1) x = true := by decide
theorem hk_ib_0 : ∀ x, x < 32 → hk_ib 0 x = false := by decide
theorem hk_ib_ge {v : Int32} {x : Nat} (h : 32 ≤ x) : hk_ib v x = false := BitVec.getLsbD_of_ge _ _ h
theorem hk_ib_z {v : Int32} : v = 0 ↔ ∀ x, x < 32 → hk_ib v x = false := by
  refine ⟨fun e x hx => e ▸ hk_ib_0 x hx, fun h => ?_⟩
  refine Int32.toBitVec_inj.mp (BitVec.eq_of_getLsbD_eq fun x hx => ?_)
  exact (h x hx).trans (hk_ib_0 x hx).symm
theorem hk_ib_nI {j x : Nat} (hx : x < 32) : hk_ib (nI j) x = j.testBit x := by
  have e : (nI j).toBitVec = BitVec.ofNat 32 j := rfl
  unfold hk_ib
  rw [e, BitVec.getLsbD_ofNat, decide_eq_true hx, Bool.true_and]
/-- a set by which the first n tests come out as they did -/
def hk_fit (pl wt : Nat → Int32) (n : Nat) (v : Int32) : Prop := ∀ j, j < n → (pl j &&& v = 0 ↔ ¬ wt j = 1)
/-- what wet and what dry tests ask for -/
def hk_lwd (pl wt : Nat → Int32) : Nat → Int32 × Int32
  | 0 => (0, 0)
  | j + 1 => if wt j = 1 then ((hk_lwd pl wt j).1 ||| pl j, (hk_lwd pl wt j).2) else ((hk_lwd pl wt j).1, (hk_lwd pl wt j).2 ||| pl j)
theorem hk_lwd_w {pl wt : Nat → Int32} {x : Nat} : ∀ n, hk_ib (hk_lwd pl wt n).1 x = true ↔ ∃ j, j < n ∧ wt j = 1 ∧ hk_ib (pl j) x = true
  | 0 => by
    refine ⟨fun h => ?_, fun ⟨j, hj, _⟩ => absurd hj (Nat.not_lt_zero j)⟩
    by_cases hx : x < 32
    · rw [show (hk_lwd pl wt 0).1 = 0 from rfl, hk_ib_0 x hx] at h
      exact absurd h (by decide)
    · rw [hk_ib_ge (by omega)] at h
      exact absurd h (by decide)
  | n + 1 => by
    have ih := hk_lwd_w (pl := pl) (wt := wt) (x := x) n
    by_cases hw : wt n = 1
    · rw [hk_lwd, if_pos hw]
      show hk_ib ((hk_lwd pl wt n).1 ||| pl n) x = true ↔ _
      rw [hk_ib_or, Bool.or_eq_true, ih]
      constructor
      · rintro (⟨j, h1, h2, h3⟩ | h)
        · exact ⟨j, by omega, h2, h3⟩
        · exact ⟨n, by omega, hw, h⟩
      · rintro ⟨j, h1, h2, h3⟩
        by_cases e : j = n
        · subst e; exact Or.inr h3
        · exact Or.inl ⟨j, by omega, h2, h3⟩
    · rw [hk_lwd, if_neg hw]
      show hk_ib (hk_lwd pl wt n).1 x = true ↔ _
      rw [ih]
      constructor
      · rintro ⟨j, h1, h2, h3⟩
        exact ⟨j, by omega, h2, h3⟩
      · rintro ⟨j, h1, h2, h3⟩
        by_cases e : j = n
        · subst e; exact absurd h2 hw
        · exact ⟨j, by omega, h2, h3⟩
theorem hk_lwd_d {pl wt : Nat → Int32} {x : Nat} : ∀ n, hk_ib (hk_lwd pl wt n).2 x = true ↔ ∃ j, j < n ∧ ¬ wt j = 1 ∧ hk_ib (pl j) x = true
  | 0 => by
    refine ⟨fun h => ?_, fun ⟨j, hj, _⟩ => absurd hj (Nat.not_lt_zero j)⟩
    by_cases hx : x < 32
    · rw [show (hk_lwd pl wt 0).2 = 0 from rfl, hk_ib_0 x hx] at h
      exact absurd h (by decide)
    · rw [hk_ib_ge (by omega)] at h
      exact absurd h (by decide)
  | n + 1 => by
    have ih := hk_lwd_d (pl := pl) (wt := wt) (x := x) n
    by_cases hw : wt n = 1
    · rw [hk_lwd, if_pos hw]
      show hk_ib (hk_lwd pl wt n).2 x = true ↔ _
      rw [ih]
      constructor
      · rintro ⟨j, h1, h2, h3⟩
        exact ⟨j, by omega, h2, h3⟩
      · rintro ⟨j, h1, h2, h3⟩
        by_cases e : j = n
        · subst e; exact absurd hw h2
        · exact ⟨j, by omega, h2, h3⟩
    · rw [hk_lwd, if_neg hw]
      show hk_ib ((hk_lwd pl wt n).2 ||| pl n) x = true ↔ _
      rw [hk_ib_or, Bool.or_eq_true, ih]
      constructor
      · rintro (⟨j, h1, h2, h3⟩ | h)
        · exact ⟨j, by omega, h2, h3⟩
        · exact ⟨n, by omega, hw, h⟩
      · rintro ⟨j, h1, h2, h3⟩
        by_cases e : j = n
        · subst e; exact Or.inr h3
        · exact Or.inl ⟨j, by omega, h2, h3⟩
def hk_lky (pl wt : Nat → Int32) (n : Nat) : Int32 := (hk_lwd pl wt n).1 &&& ((hk_lwd pl wt n).2 ^^^ -1)
/-- a least set that fits lies within the likely places -/
theorem hk_lky_min {pl wt : Nat → Int32} {n i : Nat} (hi : i < 4096) (hf : hk_fit pl wt n (nI i)) (hm : ∀ j, j < 4096 → hk_fit pl wt n (nI j) → hk_pc i ≤ hk_pc j) : nI i &&& (hk_lky pl wt n ^^^ -1) = 0 := by
  rw [hk_ib_z]
  intro x hx
  rw [hk_ib_and, hk_ib_xor, hk_ib_m1 x hx]
  cases hv : hk_ib (nI i) x with
  | false => rfl
  | true =>
    have hd : hk_ib (hk_lwd pl wt n).2 x = false := by
      cases h : hk_ib (hk_lwd pl wt n).2 x with
      | false => rfl
      | true =>
        obtain ⟨j, h1, h2, h3⟩ := (hk_lwd_d n).mp h
        have h4 := (hf j h1).mpr h2
        have h5 := hk_ib_z.mp h4 x hx
        rw [hk_ib_and, h3, hv] at h5
        exact absurd h5 (by decide)
    have hw : hk_ib (hk_lwd pl wt n).1 x = true := by
      cases h : hk_ib (hk_lwd pl wt n).1 x with
      | true => rfl
      | false =>
        exfalso
        have hno : ∀ j, j < n → hk_ib (pl j) x = false := fun j hj => by
          cases h3 : hk_ib (pl j) x with
          | false => rfl
          | true =>
            by_cases hw : wt j = 1
            · have := (hk_lwd_w n).mpr ⟨j, hj, hw, h3⟩
              rw [h] at this
              exact absurd this (by decide)
            · have := (hk_lwd_d n).mpr ⟨j, hj, hw, h3⟩
              rw [hd] at this
              exact absurd this (by decide)
        have hx12 : x < 12 := by
          rw [hk_ib_nI hx] at hv
          have h1 := Nat.ge_two_pow_of_testBit hv
          have h2 : 2 ^ x < 2 ^ 12 := Nat.lt_of_le_of_lt h1 hi
          exact (Nat.pow_lt_pow_iff_right (by omega)).mp h2
        have hv2 : i.testBit x = true := by rw [← hk_ib_nI hx]; exact hv
        have hlt : i ^^^ 2 ^ x < 4096 := Nat.xor_lt_two_pow (n := 12) hi (Nat.pow_lt_pow_right (by omega) hx12)
        have hp := hk_pc_x x i hv2
        have hfit : hk_fit pl wt n (nI (i ^^^ 2 ^ x)) := fun j hj => by
          rw [← hf j hj]
          have : pl j &&& nI (i ^^^ 2 ^ x) = pl j &&& nI i := by
            refine Int32.toBitVec_inj.mp (BitVec.eq_of_getLsbD_eq fun y hy => ?_)
            show hk_ib (pl j &&& nI (i ^^^ 2 ^ x)) y = hk_ib (pl j &&& nI i) y
            rw [hk_ib_and, hk_ib_and, hk_ib_nI hy, hk_ib_nI hy, Nat.testBit_xor]
            by_cases e : x = y
            · subst e
              rw [hno j hj]
              rfl
            · rw [Nat.testBit_two_pow_of_ne e, Bool.xor_false]
          rw [this]
        have := hm _ hlt hfit
        omega
    unfold hk_lky
    rw [hk_ib_and, hk_ib_xor, hk_ib_m1 x hx, hd, hw]
    rfl
/-- how many below n -/
noncomputable def hk_nb (Q : Nat → Prop) : Nat → Nat
  | 0 => 0
  | n + 1 => hk_nb Q n + @ite Nat (Q n) (Classical.propDecidable (Q n)) 1 0
theorem hk_nb_y {Q : Nat → Prop} {n : Nat} (h : Q n) : hk_nb Q (n + 1) = hk_nb Q n + 1 := by
  rw [hk_nb, if_pos h]
theorem hk_nb_n {Q : Nat → Prop} {n : Nat} (h : ¬ Q n) : hk_nb Q (n + 1) = hk_nb Q n := by
  rw [hk_nb, if_neg h, Nat.add_zero]
theorem hk_nb_e {Q R : Nat → Prop} : ∀ n, (∀ j, j < n → (Q j ↔ R j)) → hk_nb Q n = hk_nb R n
  | 0, _ => rfl
  | n + 1, h => by
    have ih := hk_nb_e n (fun j hj => h j (by omega))
    by_cases q : Q n
    · rw [hk_nb_y q, hk_nb_y ((h n (by omega)).mp q), ih]
    · rw [hk_nb_n q, hk_nb_n (fun r => q ((h n (by omega)).mpr r)), ih]
theorem hk_nb_0 {Q : Nat → Prop} : ∀ n, (∀ j, j < n → ¬ Q j) → hk_nb Q n = 0
  | 0, _ => rfl
  | n + 1, h => by rw [hk_nb_n (h n (by omega)), hk_nb_0 n (fun j hj => h j (by omega))]
/-- the least of the smallest, and how many more are so small -/
def hk_mn (P : Nat → Prop) (m : Nat) (f e : Int32) (z : Prop) : Prop := (f = -1 ∧ z ∧ ∀ j, j < m → ¬ P j) ∨ ∃ i, i < m ∧ f = nI i ∧ P i ∧ (∀ j, j < m → P j → hk_pc i ≤ hk_pc j) ∧ (∀ j, j < i → P j → hk_pc i < hk_pc j) ∧ e = nI (hk_nb (fun j => j ≠ i ∧ P j ∧ hk_pc j = hk_pc i) m)
theorem hk_mn_skip {P : Nat → Prop} {m : Nat} {f e : Int32} {z : Prop} (h : hk_mn P m f e z) (hp : ¬ P m) : hk_mn P (m + 1) f e z := by
  rcases h with ⟨h1, h2, h3⟩ | ⟨i, h1, h2, h3, h4, h5, h6⟩
  · exact Or.inl ⟨h1, h2, fun j hj q => (Nat.lt_or_ge j m).elim (fun a => h3 j a q) (fun a => hp ((show j = m by omega) ▸ q))⟩
  · exact Or.inr ⟨i, by omega, h2, h3, fun j hj q => (Nat.lt_or_ge j m).elim (fun a => h4 j a q) (fun a => absurd ((show j = m by omega) ▸ q) hp), h5, by rw [hk_nb_n (fun q => hp q.2.1)]; exact h6⟩
theorem hk_mn_more {P : Nat → Prop} {m i : Nat} {e : Int32} {z : Prop} (h : hk_mn P m (nI i) e z) (hi : i < 4096) (hm : m ≤ 4096) (hp : hk_pc i < hk_pc m) : hk_mn P (m + 1) (nI i) e z := by
  rcases h with ⟨h1, h2, h3⟩ | ⟨i2, h1, h2, h3, h4, h5, h6⟩
  · exact absurd h1 (fun q => nI_pos (n := i) (by omega) (by rw [q]; decide))
  · have ei : i = i2 := (nI_eq (by omega) (by omega)).mp h2
    subst ei
    refine Or.inr ⟨i, by omega, rfl, h3, fun j hj q => (Nat.lt_or_ge j m).elim (fun a => h4 j a q) (fun a => ?_), h5, by rw [hk_nb_n (fun q => by omega)]; exact h6⟩
    have ej : j = m := by omega
    subst ej
    omega
theorem hk_mn_same {P : Nat → Prop} {m i : Nat} {e : Int32} {z z2 : Prop} (h : hk_mn P m (nI i) e z) (hi : i < 4096) (hm : m ≤ 4096) (hP : P m) (hp : hk_pc m = hk_pc i) : hk_mn P (m + 1) (nI i) (e + 1) z2 := by
  rcases h with ⟨h1, h2, h3⟩ | ⟨i2, h1, h2, h3, h4, h5, h6⟩
  · exact absurd h1 (fun q => nI_pos (n := i) (by omega) (by rw [q]; decide))
  · have ei : i = i2 := (nI_eq (by omega) (by omega)).mp h2
    subst ei
    refine Or.inr ⟨i, by omega, rfl, h3, fun j hj q => (Nat.lt_or_ge j m).elim (fun a => h4 j a q) (fun a => ?_), h5, by rw [hk_nb_y ⟨by omega, hP, hp⟩, h6, nI_1]⟩
    have ej : j = m := by omega
    subst ej
    omega
theorem hk_mn_new {P : Nat → Prop} {m : Nat} {f e : Int32} {z z2 : Prop} (h : hk_mn P m f e z) (hm : m ≤ 4096) (hP : P m) (hp : f = -1 ∨ ∃ i, i < 4096 ∧ f = nI i ∧ hk_pc m < hk_pc i) : hk_mn P (m + 1) (nI m) 0 z2 := by
  have key : ∀ j, j < m → P j → hk_pc m < hk_pc j := fun j hj q => by
    rcases h with ⟨h1, h2, h3⟩ | ⟨i2, h1, h2, h3, h4, h5, h6⟩
    · exact absurd q (h3 j hj)
    · rcases hp with hp | ⟨i, hi, hp, hlt⟩
      · rw [h2] at hp
        exact absurd hp (fun q => nI_pos (n := i2) (by omega) (by rw [q]; decide))
      · have ei : i = i2 := (nI_eq (by omega) (by omega)).mp (hp.symm.trans h2)
        subst ei
        exact Nat.lt_of_lt_of_le hlt (h4 j hj q)
  refine Or.inr ⟨m, by omega, rfl, hP, fun j hj q => (Nat.lt_or_ge j m).elim (fun a => Nat.le_of_lt (key j a q)) (fun a => ?_), key, ?_⟩
  · have ej : j = m := by omega
    subst ej
    exact Nat.le_refl _
  · rw [hk_nb_n (fun q => q.1 rfl), hk_nb_0 m (fun j hj q => by have := key j hj q.2.1; omega)]
    rfl
/-- the two sides come to the same -/
theorem hk_mn_two {P P2 : Nat → Prop} {f e f2 e2 : Int32} {z z2 : Prop} (h : hk_mn P 4096 f e z) (h2 : hk_mn P2 4096 f2 e2 z2) (hs : ∀ j, j < 4096 → P2 j → P j) (hm : ∀ i, i < 4096 → P i → (∀ j, j < 4096 → P j → hk_pc i ≤ hk_pc j) → P2 i) : f = f2 ∧ (f = -1 ∧ z2 ∨ ¬ f = -1 ∧ e = e2) := by
  rcases h with ⟨a1, a2, a3⟩ | ⟨i, a1, a2, a3, a4, a5, a6⟩
  · rcases h2 with ⟨b1, b2, b3⟩ | ⟨i2, b1, b2, b3, b4, b5, b6⟩
    · exact ⟨a1.trans b1.symm, Or.inl ⟨a1, b2⟩⟩
    · exact absurd (hs i2 b1 b3) (a3 i2 b1)
  · have hn : ¬ f = -1 := fun q => nI_pos (n := i) (by omega) (by rw [← a2, q]; decide)
    have p2 := hm i a1 a3 a4
    rcases h2 with ⟨b1, b2, b3⟩ | ⟨i2, b1, b2, b3, b4, b5, b6⟩
    · exact absurd p2 (b3 i a1)
    · have q1 := a4 i2 b1 (hs i2 b1 b3)
      have q2 := b4 i a1 p2
      have ei : i = i2 := by
        rcases Nat.lt_trichotomy i i2 with h | h | h
        · have := b5 i h p2
          omega
        · exact h
        · have := a5 i2 h (hs i2 b1 b3)
          omega
      subst ei
      refine ⟨a2.trans b2.symm, Or.inr ⟨hn, ?_⟩⟩
      rw [a6, b6, hk_nb_e (Q := fun j => j ≠ i ∧ P j ∧ hk_pc j = hk_pc i) (R := fun j => j ≠ i ∧ P2 j ∧ hk_pc j = hk_pc i) 4096 (fun j hj => ⟨fun q => ⟨q.1, hm j hj q.2.1 (fun j2 hj2 r => by rw [q.2.2]; exact a4 j2 hj2 r), q.2.2⟩, fun q => ⟨q.1, hs j hj q.2.1, q.2.2⟩⟩)]
/-! bits counted -/
def hk_ush (x y : Int32) : Int32 := (x.toUInt32 >>> (y.toUInt32 &&& Int32.toUInt32 31)).toInt32
def hk_bt2 (x : Int32) : Int32 := x - (hk_ush x 1 &&& 1431655765)
def hk_bt3 (x : Int32) : Int32 := (x &&& 858993459) + (hk_ush x 2 &&& 858993459)
def hk_bt4 (x : Int32) : Int32 := (x + hk_ush x 4) &&& 252645135
def hk_bt5 (x : Int32) : Int32 := x + hk_ush x 8
def hk_bt6 (x : Int32) : Int32 := x + hk_ush x 16
def hk_bitF (x : Int32) : Int32 := hk_bt6 (hk_bt5 (hk_bt4 (hk_bt3 (hk_bt2 x)))) &&& 63
set_option maxRecDepth 100000 in
theorem hk_bit12 : ∀ a, a < 64 → ∀ c, c < 64 → hk_bitF (nI (64 * a + c)) = nI (hk_pcF 12 (64 * a + c)) := by decide +kernel
theorem hk_bitE {j : Nat} (hj : j < 4096) : hk_bitF (nI j) = nI (hk_pc j) := by
  have := hk_bit12 (j / 64) (by omega) (j % 64) (by omega)
  rw [show 64 * (j / 64) + j % 64 = j by omega] at this
  rw [hk_pc_F 12 j hj]
  exact this
theorem hk_cmp32 : ∀ a, a < 16 → ∀ c, c < 16 → ((0 ≤ nI a - nI c ↔ c ≤ a) ∧ (nI a - nI c = 0 ↔ a = c)) := by decide +kernel
section HKEA
variable {d n a bb r : Nat} {v w x y z : Int32} {s : Nat → Nat → Int32} {lm : Nat → Nat → Int64} {i0 i1 b : Nat} {al : List Nat} {k : Option Value → hk_H → Prop} {hp : hk_H}
theorem c_bitE {j : Nat} (hj : j < 4096) (h1 : k (some (.int (nI (hk_pc j)))) hp) : hk_Cl (d + 1) 96 [.int (nI j)] hp k := by
  rw [← hk_bitE hj] at h1
  refine hk_mth hk_m96 rfl rfl (n := 1000) ?_
  exact h1
theorem c_gt14 (ht : hk_tw s 14 n) {j c : Nat} (hj : j < n) (hc : c < 2) (h1 : k (some (.int (s 15 (j * 2 + c)))) (s, lm, hk_RH i0 i1 b, al)) : hk_Cl (d + 1) 16 [.ref 14, .int (nI j), .int (nI c)] (s, lm, hk_RH i0 i1 b, al) k := c_get_in (by simp [hk_tb]) ht hj hc h1
theorem c_likelyX (hw : hk_TW s) (ht : hk_tw s 14 n) (h1 : k (some (.int (hk_lky (fun j => s 15 (j * 2)) (fun j => s 15 (j * 2 + 1)) n))) (s, lm, hk_RH i0 i1 b, al)) : hk_Cl (d + 2) 105 [.ref 14] (s, lm, hk_RH i0 i1 b, al) k := by
  obtain ⟨n2, hn, hn2, hr⟩ := hk_rows hw (t := 14) (by simp [hk_tb])
  have hmo := ht.2.2.2
  have hmo2 := hn.2.2.2
  have en : n2 = n := (nI_eq (by omega) (by have : hk_mo 14 = 20 := rfl; omega)).mp (hn.2.2.1.symm.trans ht.2.2.1)
  subst en
  have loop : ∀ (q j : Nat), j + q = n2 → hk_Rn (d + 1) none hk_c105 (hk_sfx 6 hk_c105) [some (.ref 14), some (.int (hk_lwd (fun j => s 15 (j * 2)) (fun j => s 15 (j * 2 + 1)) j).1), some (.int (hk_lwd (fun j => s 15 (j * 2)) (fun j => s 15 (j * 2 + 1)) j).2), some (.int (nI j))] [] (s, lm, hk_RH i0 i1 b, al) k := by
    intro q
    induction q with
    | zero =>
      intro j hj
      have e : j = n2 := by omega
      subst e
      refine hk_hd (n := 1000) (t := 6) rfl ?_
      refine And.intro (fun _ => ?_) (fun hc => absurd ((hr j (by omega)).mpr (by omega)) hc)
      exact h1
    | succ q ih =>
      intro j hj
      refine hk_hd (n := 1000) (t := 6) rfl ?_
      refine And.intro (fun hc => absurd hc (fun q => absurd ((hr j (by omega)).mp q) (by omega))) (fun _ => ?_)
      refine c_gt14 (c := 1) ht (by omega) (by omega) ?_
      refine And.intro (fun c1 => ?_) (fun c1 => ?_)
      · have c1 : ¬ s 15 (j * 2 + 1) = 1 := c1
        refine c_gt14 (c := 0) ht (by omega) (by omega) ?_
        refine hk_Rn_cast ?_ (ih (j + 1) (by omega))
        rw [hk_lwd, if_neg c1, ← nI_1]
        rfl
      · have c1 : ¬ ¬ s 15 (j * 2 + 1) = 1 := c1
        refine c_gt14 (c := 0) ht (by omega) (by omega) ?_
        refine hk_Rn_cast ?_ (ih (j + 1) (by omega))
        rw [hk_lwd, if_pos (Classical.not_not.mp c1), ← nI_1]
        rfl
  refine hk_mth hk_m105 rfl rfl (n := 1000) ?_
  exact loop n2 0 (by omega)
theorem c_fitsX (hw : hk_TW s) (ht : hk_tw s 14 n) (h1 : hk_fit (fun j => s 15 (j * 2)) (fun j => s 15 (j * 2 + 1)) n v → k (some (.int 1)) (s, lm, hk_RH i0 i1 b, al)) (h0 : ¬ hk_fit (fun j => s 15 (j * 2)) (fun j => s 15 (j * 2 + 1)) n v → k (some (.int 0)) (s, lm, hk_RH i0 i1 b, al)) : hk_Cl (d + 2) 107 [.ref 14, .int v] (s, lm, hk_RH i0 i1 b, al) k := by
  obtain ⟨n2, hn, hn2, hr⟩ := hk_rows hw (t := 14) (by simp [hk_tb])
  have hmo := ht.2.2.2
  have en : n2 = n := (nI_eq (by omega) (by have : hk_mo 14 = 20 := rfl; omega)).mp (hn.2.2.1.symm.trans ht.2.2.1)
  subst en
  have loop : ∀ (q j : Nat) (l3 : Option Value), j + q = n2 → hk_fit (fun j => s 15 (j * 2)) (fun j => s 15 (j * 2 + 1)) j v → hk_Rn (d + 1) none hk_c107 (hk_sfx 2 hk_c107) [some (.ref 14), some (.int v), some (.int (nI j)), l3] [] (s, lm, hk_RH i0 i1 b, al) k := by
    intro q
    induction q with
    | zero =>
      intro j l3 hj hf
      have e : j = n2 := by omega
      subst e
      refine hk_hd (n := 1000) (t := 2) rfl ?_
      refine And.intro (fun _ => ?_) (fun hc => absurd ((hr j (by omega)).mpr (by omega)) hc)
      exact And.intro (Or.inr rfl) (h1 hf)
    | succ q ih =>
      intro j l3 hj hf
      have fit : (s 15 (j * 2) &&& v = 0 ↔ ¬ s 15 (j * 2 + 1) = 1) → hk_fit (fun j => s 15 (j * 2)) (fun j => s 15 (j * 2 + 1)) (j + 1) v := fun hh i hi => (Nat.lt_or_ge i j).elim (fun a => hf i a) (fun a => by
        have e : i = j := by omega
        subst e
        exact hh)
      have nofit : ¬ (s 15 (j * 2) &&& v = 0 ↔ ¬ s 15 (j * 2 + 1) = 1) → ¬ hk_fit (fun j => s 15 (j * 2)) (fun j => s 15 (j * 2 + 1)) n2 v := fun hh q => hh (q j (by omega))
      refine hk_hd (n := 1000) (t := 2) rfl ?_
      refine And.intro (fun hc => absurd hc (fun q => absurd ((hr j (by omega)).mp q) (by omega))) (fun _ => ?_)
      refine c_gt14 (c := 0) ht (by omega) (by omega) ?_
      refine And.intro (fun c1 => ?_) (fun c1 => ?_)
      · have c1 : s 15 (j * 2) &&& v = 0 := c1
        refine c_gt14 (c := 1) ht (by omega) (by omega) ?_
        refine And.intro (fun c2 => ?_) (fun c2 => ?_)
        · have c2 : ¬ s 15 (j * 2 + 1) = 1 := c2
          refine And.intro (fun _ => ?_) (fun hc => absurd (by decide) hc)
          exact hk_Rn_cast (by rw [← nI_1]; rfl) (ih (j + 1) _ (by omega) (fit ⟨fun _ => c2, fun _ => c1⟩))
        · have c2 : ¬ ¬ s 15 (j * 2 + 1) = 1 := c2
          refine And.intro (fun hc => absurd hc (by decide)) (fun _ => ?_)
          exact And.intro (Or.inl rfl) (h0 (nofit (fun q => c2 (q.mp c1))))
      · have c1 : ¬ s 15 (j * 2) &&& v = 0 := c1
        refine c_gt14 (c := 1) ht (by omega) (by omega) ?_
        refine And.intro (fun c2 => ?_) (fun c2 => ?_)
        · have c2 : ¬ s 15 (j * 2 + 1) = 1 := c2
          refine And.intro (fun hc => absurd hc (by decide)) (fun _ => ?_)
          exact And.intro (Or.inl rfl) (h0 (nofit (fun q => c1 (q.mpr c2))))
        · have c2 : ¬ ¬ s 15 (j * 2 + 1) = 1 := c2
          refine And.intro (fun _ => ?_) (fun hc => absurd (by decide) hc)
          exact hk_Rn_cast (by rw [← nI_1]; rfl) (ih (j + 1) _ (by omega) (fit ⟨fun q => absurd q c1, fun q => absurd q c2⟩))
  refine hk_mth hk_m107 rfl rfl (n := 1000) ?_
  exact loop n2 0 none (by omega) (fun i hi => absurd hi (Nat.not_lt_zero i))
theorem c_noL1 (e : s 36 0 = -1) (h1 : k (some (.int 1)) (s, lm, hk_RH i0 i1 b, al)) : hk_Cl (d + 2) 106 [.ref 36, .int v] (s, lm, hk_RH i0 i1 b, al) k := by
  refine hk_mth hk_m106 rfl rfl (n := 1000) ?_
  refine And.intro (fun _ => ?_) (fun hc => absurd e hc)
  exact And.intro (Or.inr rfl) h1
theorem c_noL2 {i j : Nat} (hi : i < 4096) (hj : j < 4096) (e : s 36 0 = nI i) (h1 : hk_pc j ≤ hk_pc i → k (some (.int 1)) (s, lm, hk_RH i0 i1 b, al)) (h0 : hk_pc i < hk_pc j → k (some (.int 0)) (s, lm, hk_RH i0 i1 b, al)) : hk_Cl (d + 2) 106 [.ref 36, .int (nI j)] (s, lm, hk_RH i0 i1 b, al) k := by
  have p1 := hk_pc_lq 12 i hi
  have p2 := hk_pc_lq 12 j hj
  refine hk_mth hk_m106 rfl rfl (n := 1000) ?_
  refine And.intro (fun hc => absurd hc (show ¬ s 36 0 = -1 by rw [e]; exact hk_nm1 (by omega))) (fun _ => ?_)
  refine c_bitE hj ?_
  refine hk_Cl_arg (show [Value.int (s 36 0)] = [Value.int (nI i)] by rw [e]) ?_
  refine c_bitE hi ?_
  refine And.intro (fun c2 => ?_) (fun c2 => ?_)
  · have c2 : nI (hk_pc i) < nI (hk_pc j) := c2
    rw [nI_ltI (by omega) (by omega)] at c2
    exact And.intro (Or.inl rfl) (h0 c2)
  · have c2 : ¬ nI (hk_pc i) < nI (hk_pc j) := c2
    rw [nI_ltI (by omega) (by omega)] at c2
    exact And.intro (Or.inr rfl) (h1 (by omega))
/-- what the class finds -/
def hk_fitC (s : Nat → Nat → Int32) (n j : Nat) : Prop := hk_fit (fun j => s 15 (j * 2)) (fun j => s 15 (j * 2 + 1)) n (nI j) ∧ nI j &&& (hk_lky (fun j => s 15 (j * 2)) (fun j => s 15 (j * 2 + 1)) n ^^^ -1) = 0
theorem c_findX (hw : hk_TW s) (ht : hk_tw s 14 n) (h1 : ∀ s2, hk_F36 s s2 → hk_mn (hk_fitC s n) 4096 (s2 36 0) (s2 36 1) (s2 36 1 = -1) → k none (s2, lm, hk_RH i0 i1 b, al)) : hk_Cl (d + 3) 104 [.ref 36, .ref 14] (s, lm, hk_RH i0 i1 b, al) k := by
  have loop : ∀ (q j : Nat) (s3 : Nat → Nat → Int32), j + q = 4096 → hk_F36 s s3 → hk_mn (hk_fitC s n) j (s3 36 0) (s3 36 1) (s3 36 1 = -1) → hk_Rn (d + 2) none hk_c104 (hk_sfx 17 hk_c104) [some (.ref 36), some (.ref 14), some (.int (hk_lky (fun j => s 15 (j * 2)) (fun j => s 15 (j * 2 + 1)) n)), some (.int (nI j))] [] (s3, lm, hk_RH i0 i1 b, al) k := by
    intro q
    induction q with
    | zero =>
      intro j s3 hj h3 hm
      have e : j = 4096 := by omega
      subst e
      refine hk_hd (n := 1000) (t := 17) rfl ?_
      refine And.intro (fun _ => ?_) (fun hc => absurd (show (4095 : Int32) < nI 4096 by decide) hc)
      exact h1 s3 h3 hm
    | succ q ih =>
      intro j s3 hj h3 hm
      have a1 : ¬ nI 4095 < nI j := by rw [nI_ltI (by omega) (by omega)]; omega
      have hw3 := hk_F36_TW h3 hw
      have ht3 : hk_tw s3 14 n := ⟨by rw [h3 _ _ (by omega)]; exact ht.1, by rw [h3 _ _ (by omega)]; exact ht.2.1, by rw [h3 _ _ (by omega)]; exact ht.2.2.1, ht.2.2.2⟩
      have e15 : s3 15 = s 15 := funext fun q => h3 15 q (by omega)
      have nx : ∀ s4, hk_F36 s s4 → hk_mn (hk_fitC s n) (j + 1) (s4 36 0) (s4 36 1) (s4 36 1 = -1) → hk_Rn (d + 2) none hk_c104 (hk_sfx 17 hk_c104) [some (.ref 36), some (.ref 14), some (.int (hk_lky (fun j => s 15 (j * 2)) (fun j => s 15 (j * 2 + 1)) n)), some (.int (nI j + 1))] [] (s4, lm, hk_RH i0 i1 b, al) k := fun s4 h4 m4 => hk_Rn_cast (by rw [nI_1]) (ih (j + 1) s4 (by omega) h4 m4)
      have nw : ∀ z2, hk_mn (hk_fitC s n) (j + 1) (nI j) 0 z2 → hk_Rn (d + 2) none hk_c104 (hk_sfx 17 hk_c104) [some (.ref 36), some (.ref 14), some (.int (hk_lky (fun j => s 15 (j * 2)) (fun j => s 15 (j * 2 + 1)) n)), some (.int (nI j + 1))] [] (hk_u2 (hk_u2 s3 36 0 (nI j)) 36 1 0, lm, hk_RH i0 i1 b, al) k := fun z2 m4 => by
        refine nx _ (hk_F36_u (q := 1) (hk_F36_u (q := 0) h3)) ?_
        rw [hk_u2s, hk_u2o (by omega), hk_u2s]
        rcases m4 with ⟨m1, _⟩ | m1
        · exact absurd m1 (hk_nm1 (by omega))
        · exact Or.inr m1
      refine hk_hd (n := 1000) (t := 17) rfl ?_
      refine And.intro (fun hc => absurd hc a1) (fun _ => ?_)
      refine And.intro (fun c1 => ?_) (fun c1 => ?_)
      · have c1 : ¬ nI j &&& (hk_lky (fun j => s 15 (j * 2)) (fun j => s 15 (j * 2 + 1)) n ^^^ -1) = 0 := c1
        exact nx s3 h3 (hk_mn_skip hm (fun q => c1 q.2))
      have c1 : ¬ ¬ nI j &&& (hk_lky (fun j => s 15 (j * 2)) (fun j => s 15 (j * 2 + 1)) n ^^^ -1) = 0 := c1
      have c1 := Classical.not_not.mp c1
      have hmc := hm
      rcases hmc with ⟨f1, _, _⟩ | ⟨i, hi, f1, _⟩
      · refine c_noL1 f1 ?_
        refine And.intro (fun hc => absurd hc (by decide)) (fun _ => ?_)
        refine c_fitsX hw3 ht3 (fun hf => ?_) (fun hf => ?_)
        · rw [e15] at hf
          refine And.intro (fun hc => absurd hc (by decide)) (fun _ => ?_)
          refine And.intro (fun _ => ?_) (fun hc => absurd f1 hc)
          exact nw True (hk_mn_new hm (by omega) ⟨hf, c1⟩ (Or.inl f1))
        · rw [e15] at hf
          refine And.intro (fun _ => ?_) (fun hc => absurd (by decide) hc)
          exact nx s3 h3 (hk_mn_skip hm (fun q => hf q.1))
      · have hm2 := hm
        rw [f1] at hm2
        refine c_noL2 (i := i) (by omega) (by omega) f1 (fun hle => ?_) (fun hlt => ?_)
        · refine And.intro (fun hc => absurd hc (by decide)) (fun _ => ?_)
          refine c_fitsX hw3 ht3 (fun hf => ?_) (fun hf => ?_)
          · rw [e15] at hf
            refine And.intro (fun hc => absurd hc (by decide)) (fun _ => ?_)
            refine And.intro (fun hc => absurd hc (show ¬ s3 36 0 = -1 by rw [f1]; exact hk_nm1 (by omega))) (fun _ => ?_)
            refine c_bitE (by omega) ?_
            refine hk_Cl_arg (show [Value.int (s3 36 0)] = [Value.int (nI i)] by rw [f1]) ?_
            refine c_bitE (by omega) ?_
            have p1 := hk_pc_lq 12 i (by omega)
            have p2 := hk_pc_lq 12 j (by omega)
            refine And.intro (fun c5 => ?_) (fun c5 => ?_)
            · have c5 : ¬ nI (hk_pc j) = nI (hk_pc i) := c5
              rw [nI_eq (by omega) (by omega)] at c5
              exact nw True (hk_mn_new hm (by omega) ⟨hf, c1⟩ (Or.inr ⟨i, by omega, f1, by omega⟩))
            · have c5 : ¬ ¬ nI (hk_pc j) = nI (hk_pc i) := c5
              have c5 := Classical.not_not.mp c5
              rw [nI_eq (by omega) (by omega)] at c5
              refine nx (hk_u2 s3 36 1 (s3 36 1 + 1)) (hk_F36_u (q := 1) h3) ?_
              rw [hk_u2s, hk_u2o (by omega), f1]
              exact hk_mn_same hm2 (by omega) (by omega) ⟨hf, c1⟩ c5
          · rw [e15] at hf
            refine And.intro (fun _ => ?_) (fun hc => absurd (by decide) hc)
            exact nx s3 h3 (hk_mn_skip hm (fun q => hf q.1))
        · refine And.intro (fun _ => ?_) (fun hc => absurd (by decide) hc)
          refine nx s3 h3 ?_
          rw [f1]
          exact hk_mn_more hm2 (by omega) (by omega) hlt
  refine hk_mth hk_m104 rfl rfl (n := 1000) ?_
  have ht2 : hk_tw (hk_u2 (hk_u2 s 36 0 (-1)) 36 1 (-1)) 14 n := ⟨by rw [hk_u2o (by omega), hk_u2o (by omega)]; exact ht.1, by rw [hk_u2o (by omega), hk_u2o (by omega)]; exact ht.2.1, by rw [hk_u2o (by omega), hk_u2o (by omega)]; exact ht.2.2.1, ht.2.2.2⟩
  have e15 : hk_u2 (hk_u2 s 36 0 (-1)) 36 1 (-1) 15 = s 15 := funext fun q => by rw [hk_u2o (by omega), hk_u2o (by omega)]
  refine c_likelyX (hk_TW_u (hk_TW_u hw (by simp [hk_tb])) (by simp [hk_tb])) ht2 ?_
  rw [e15]
  refine loop 4096 0 (hk_u2 (hk_u2 s 36 0 (-1)) 36 1 (-1)) (by omega) (hk_F36_u (q := 1) (hk_F36_u (q := 0) (fun _ _ _ => rfl))) (Or.inl ⟨?_, ?_, fun j hj => absurd hj (Nat.not_lt_zero j)⟩)
  · rw [hk_u2o (by omega), hk_u2s]
  · rw [hk_u2s]
theorem c_leaksX (hw : hk_TW s) (ht : hk_tw s 14 n) (hb : ¬ hk_rg v 0 1 → k (some (.int (-2))) (s, lm, hk_RH i0 i1 b, al)) (hg : hk_rg v 0 1 → ∀ s2 f e, hk_F36 s s2 → hk_mn (hk_fitC s n) 4096 f e (e = -1) → k (some (.int (if v = 0 then f else e))) (s2, lm, hk_RH i0 i1 b, al)) : hk_Cl (d + 4) 103 [.ref 0, .int v] (s, lm, hk_RH i0 i1 b, al) k := by
  refine hk_mth hk_m103 rfl rfl (n := 1000) ?_
  refine c_within (fun p q => ?_) (fun a => ?_)
  rotate_left
  · refine And.intro (fun hc => absurd hc (by decide)) (fun _ => ?_)
    exact hb (fun q => a.elim q.1 q.2)
  refine And.intro (fun _ => ?_) (fun hc => absurd (by decide) hc)
  refine c_findX hw ht (fun s2 h2 hm => ?_)
  have key := hg ⟨p, q⟩ s2 _ _ h2 hm
  refine And.intro (fun c1 => ?_) (fun c1 => ?_)
  · have c1 : ¬ v = 0 := c1
    rw [if_neg c1] at key
    exact key
  · have c1 : ¬ ¬ v = 0 := c1
    rw [if_pos (Classical.not_not.mp c1)] at key
    exact key
/-! the reference -/
theorem m_tellsX (h4 : s 41 4 = nI n) (hn : n ≤ 20) (h1 : hk_fit (fun j => s 41 (1678 + 2 * j)) (fun j => s 41 (1678 + 2 * j + 1)) n v → k (some (.int 1)) (s, lm, hk_RH i0 i1 b, al)) (h0 : ¬ hk_fit (fun j => s 41 (1678 + 2 * j)) (fun j => s 41 (1678 + 2 * j + 1)) n v → k (some (.int 0)) (s, lm, hk_RH i0 i1 b, al)) : hk_Cl (d + 1) 209 [.ref 40, .int v] (s, lm, hk_RH i0 i1 b, al) k := by
  have loop : ∀ (q j : Nat), j + q = n → hk_fit (fun j => s 41 (1678 + 2 * j)) (fun j => s 41 (1678 + 2 * j + 1)) j v → hk_Rn d none hk_c209 (hk_sfx 2 hk_c209) [some (.ref 40), some (.int v), some (.int (nI j))] [] (s, lm, hk_RH i0 i1 b, al) k := by
    intro q
    induction q with
    | zero =>
      intro j hj hf
      have e : j = n := by omega
      subst e
      refine hk_hd (n := 1000) (t := 2) rfl ?_
      refine hk_ldi (i := nI 4) (j := 4) (by simp only [hk_lit, pk_mul, nI_add]) (by omega) (by decide) h4 ?_
      refine And.intro (fun _ => ?_) (fun hc => absurd (Int32.le_refl _) hc)
      exact And.intro (Or.inr rfl) (h1 hf)
    | succ q ih =>
      intro j hj hf
      have a1 : ¬ nI n ≤ nI j := hk_nlt (by omega) (by omega)
      have fit : (s 41 (1678 + 2 * j) &&& v = 0 ↔ ¬ s 41 (1678 + 2 * j + 1) = 1) → hk_fit (fun j => s 41 (1678 + 2 * j)) (fun j => s 41 (1678 + 2 * j + 1)) (j + 1) v := fun hh i hi => (Nat.lt_or_ge i j).elim (fun a => hf i a) (fun a => by
        have e : i = j := by omega
        subst e
        exact hh)
      have nofit : ¬ (s 41 (1678 + 2 * j) &&& v = 0 ↔ ¬ s 41 (1678 + 2 * j + 1) = 1) → ¬ hk_fit (fun j => s 41 (1678 + 2 * j)) (fun j => s 41 (1678 + 2 * j + 1)) n v := fun hh q => hh (q j (by omega))
      refine hk_hd (n := 1000) (t := 2) rfl ?_
      refine hk_ldi (i := nI 4) (j := 4) (by simp only [hk_lit, pk_mul, nI_add]) (by omega) (by decide) h4 ?_
      refine And.intro (fun hc => absurd hc a1) (fun _ => ?_)
      refine hk_ldi (i := 1678 + 2 * nI j) (j := 1678 + 2 * j) (by simp only [hk_lit, pk_mul, nI_add]) (by omega) (by decide) rfl ?_
      refine And.intro (fun c1 => ?_) (fun c1 => ?_)
      · have c1 : v &&& s 41 (1678 + 2 * j) = 0 := c1
        rw [Int32.and_comm] at c1
        refine hk_ldi (i := 1678 + 2 * nI j + 1) (j := 1678 + 2 * j + 1) (by simp only [hk_lit, pk_mul, nI_add]) (by omega) (by decide) rfl ?_
        refine And.intro (fun c2 => ?_) (fun c2 => ?_)
        · have c2 : ¬ s 41 (1678 + 2 * j + 1) = 1 := c2
          refine And.intro (fun _ => ?_) (fun hc => absurd (by decide) hc)
          exact hk_Rn_cast (by rw [← nI_1 j]; rfl) (ih (j + 1) (by omega) (fit ⟨fun _ => c2, fun _ => c1⟩))
        · have c2 : ¬ ¬ s 41 (1678 + 2 * j + 1) = 1 := c2
          refine And.intro (fun hc => absurd hc (by decide)) (fun _ => ?_)
          exact And.intro (Or.inl rfl) (h0 (nofit (fun q => c2 (q.mp c1))))
      · have c1 : ¬ v &&& s 41 (1678 + 2 * j) = 0 := c1
        rw [Int32.and_comm] at c1
        refine hk_ldi (i := 1678 + 2 * nI j + 1) (j := 1678 + 2 * j + 1) (by simp only [hk_lit, pk_mul, nI_add]) (by omega) (by decide) rfl ?_
        refine And.intro (fun c2 => ?_) (fun c2 => ?_)
        · have c2 : ¬ s 41 (1678 + 2 * j + 1) = 1 := c2
          refine And.intro (fun hc => absurd hc (by decide)) (fun _ => ?_)
          exact And.intro (Or.inl rfl) (h0 (nofit (fun q => c1 (q.mpr c2))))
        · have c2 : ¬ ¬ s 41 (1678 + 2 * j + 1) = 1 := c2
          refine And.intro (fun _ => ?_) (fun hc => absurd (by decide) hc)
          exact hk_Rn_cast (by rw [← nI_1 j]; rfl) (ih (j + 1) (by omega) (fit ⟨fun q => absurd q c1, fun q => absurd q c2⟩))
  refine hk_mth hk_m209 rfl rfl (n := 1000) ?_
  exact loop n 0 (by omega) (fun i hi => absurd hi (Nat.not_lt_zero i))
theorem m_leaksX (h4 : s 41 4 = nI n) (hn : n ≤ 20) (hb : ¬ hk_rg z 0 1 → k (some (.int (-2))) (s, lm, hk_RH i0 i1 b, al)) (hg : hk_rg z 0 1 → ∀ f e, hk_mn (fun j => hk_fit (fun j => s 41 (1678 + 2 * j)) (fun j => s 41 (1678 + 2 * j + 1)) n (nI j)) 4096 f e True → k (some (.int (if z = 0 ∨ f = -1 then f else e))) (s, lm, hk_RH i0 i1 b, al)) : hk_Cl (d + 3) 208 [.ref 40, .int z] (s, lm, hk_RH i0 i1 b, al) k := by
  refine hk_mth hk_m208 rfl rfl (n := 1000) ?_
  refine m_in (fun p1 p2 => ?_) (fun a => ?_)
  rotate_left
  · refine And.intro (fun hc => absurd hc (by decide)) (fun _ => ?_)
    exact hb (fun q => a.elim q.1 q.2)
  refine And.intro (fun _ => ?_) (fun hc => absurd (by decide) hc)
  have hg := hg ⟨p1, p2⟩
  have loop : ∀ (q j : Nat) (f e : Int32) (l5 : Option Value), j + q = 4096 → hk_mn (fun j => hk_fit (fun j => s 41 (1678 + 2 * j)) (fun j => s 41 (1678 + 2 * j + 1)) n (nI j)) j f e True → hk_Rn (d + 2) none hk_c208 (hk_sfx 19 hk_c208) [some (.ref 40), some (.int z), some (.int f), some (.int e), some (.int (nI j)), l5] [] (s, lm, hk_RH i0 i1 b, al) k := by
    intro q
    induction q with
    | zero =>
      intro j f e l5 hj hm
      have ej : j = 4096 := by omega
      subst ej
      have key := hg f e hm
      refine hk_hd (n := 1000) (t := 19) rfl ?_
      refine And.intro (fun _ => ?_) (fun hc => absurd (show (4096 : Int32) ≤ nI 4096 by decide) hc)
      refine And.intro (fun c1 => ?_) (fun c1 => ?_)
      · have c1 : z = 0 := c1
        rw [if_pos (Or.inl c1)] at key
        exact key
      have c1 : ¬ z = 0 := c1
      refine And.intro (fun c2 => ?_) (fun c2 => ?_)
      · have c2 : ¬ f = -1 := c2
        rw [if_neg (fun q => q.elim c1 c2)] at key
        exact key
      · have c2 : ¬ ¬ f = -1 := c2
        rw [if_pos (Or.inr (Classical.not_not.mp c2))] at key
        exact key
    | succ q ih =>
      intro j f e l5 hj hm
      have a1 : ¬ nI 4096 ≤ nI j := hk_nlt (by omega) (by omega)
      have nx : ∀ (f e v5 : Int32), hk_mn (fun j => hk_fit (fun j => s 41 (1678 + 2 * j)) (fun j => s 41 (1678 + 2 * j + 1)) n (nI j)) (j + 1) f e True → hk_Rn (d + 2) none hk_c208 (hk_sfx 19 hk_c208) [some (.ref 40), some (.int z), some (.int f), some (.int e), some (.int (nI j + 1)), some (.int v5)] [] (s, lm, hk_RH i0 i1 b, al) k := fun f e v5 hf => hk_Rn_cast (by rw [nI_1]) (ih (j + 1) f e _ (by omega) hf)
      refine hk_hd (n := 1000) (t := 19) rfl ?_
      refine And.intro (fun hc => absurd hc a1) (fun _ => ?_)
      refine m_tellsX h4 hn (fun hf => ?_) (fun hf => ?_)
      rotate_left
      · refine And.intro (fun _ => ?_) (fun hc => absurd (by decide) hc)
        exact hk_Rn_cast (by rw [← nI_1 j]; rfl) (ih (j + 1) f e l5 (by omega) (hk_mn_skip hm hf))
      refine And.intro (fun hc => absurd hc (by decide)) (fun _ => ?_)
      have hmc := hm
      rcases hmc with ⟨f1, _, _⟩ | ⟨i, hi, f1, _⟩
      · subst f1
        refine And.intro (fun hc => absurd hc (show ¬ ¬ (-1 : Int32) = -1 by decide)) (fun _ => ?_)
        refine And.intro (fun hc => absurd hc (show ¬ (0 : Int32) ≤ -1 by decide)) (fun _ => ?_)
        refine And.intro (fun hc => absurd hc (show ¬ (0 : Int32) ≤ -1 by decide)) (fun _ => ?_)
        exact nx _ _ _ (hk_mn_new hm (by omega) hf (Or.inl rfl))
      · subst f1
        have q1 := hk_pc_lq 12 i (by omega)
        have q2 := hk_pc_lq 12 j (by omega)
        have cm := hk_cmp32 (hk_pc j) (by omega) (hk_pc i) (by omega)
        refine And.intro (fun _ => ?_) (fun hc => absurd (hk_nm1 (by omega)) hc)
        refine m_popE (by omega) ?_
        refine m_popE (by omega) ?_
        refine And.intro (fun c3 => ?_) (fun c3 => ?_)
        · have c3 : 0 ≤ nI (hk_pc j) - nI (hk_pc i) := c3
          have d3 := cm.1.mp c3
          refine And.intro (fun c4 => ?_) (fun c4 => ?_)
          · have c4 : ¬ nI (hk_pc j) - nI (hk_pc i) = 0 := c4
            have d4 : hk_pc i < hk_pc j := by
              have : ¬ hk_pc j = hk_pc i := fun q => c4 (cm.2.mpr q)
              omega
            refine And.intro (fun _ => ?_) (fun hc => absurd c3 hc)
            exact nx _ _ _ (hk_mn_more hm (by omega) (by omega) d4)
          · have c4 : ¬ ¬ nI (hk_pc j) - nI (hk_pc i) = 0 := c4
            refine And.intro (fun _ => ?_) (fun hc => absurd c3 hc)
            exact nx _ _ _ (hk_mn_same hm (by omega) (by omega) hf (cm.2.mp (Classical.not_not.mp c4)))
        · have c3 : ¬ 0 ≤ nI (hk_pc j) - nI (hk_pc i) := c3
          have d3 : hk_pc j < hk_pc i := by
            have : ¬ hk_pc i ≤ hk_pc j := fun q => c3 (cm.1.mpr q)
            omega
          refine And.intro (fun hc => absurd hc c3) (fun _ => ?_)
          exact nx _ _ _ (hk_mn_new hm (by omega) hf (Or.inr ⟨i, by omega, rfl, d3⟩))
  exact loop 4096 0 (-1) 0 none (by omega) (Or.inl ⟨rfl, trivial, fun j hj => absurd hj (Nat.not_lt_zero j)⟩)
theorem q_leaksE : hk_SI 103 208 [.int v] True := by
  rintro h ⟨s, lm, i0, i1, b, al, rfl, hc, hi⟩
  obtain ⟨aa, bb, r, hr⟩ := hi.2.2.1
  obtain ⟨n, hn, en⟩ := hr.2.2.2.2.2.2.2.2.2.1
  obtain ⟨n2, ht⟩ := hi.1.1 14 (by simp [hk_tb])
  have e0 : s 14 3 = s 41 4 := hi.2.1 13 3 4 hk_lp3
  have hmo : hk_mo 14 = 20 := rfl
  have e2 : n2 = n := (nI_eq (by have := ht.2.2.2; omega) (by omega)).mp (ht.2.2.1.symm.trans (e0.trans en))
  subst e2
  have pl : (fun j => s 41 (1678 + 2 * j)) = fun j => s 41 (1678 + 2 * j) := rfl
  refine c_leaksX (d := 996) hi.1 ht (fun hb => ⟨_, rfl, m_leaksX (d := 997) en hn (fun _ => ⟨_, rfl, fun _ => rfl, hk_Inv_mk hc hi⟩) (fun hg => absurd hg hb)⟩) (fun hg s2 f e h2 hm => ⟨_, rfl, ?_⟩)
  have e41 : s2 41 = s 41 := funext fun q => h2 41 q (by omega)
  have hi2 : hk_IS s2 i0 i1 := hk_safe hi (hk_CF_p hi.1 (fun p q hp => h2 p q (by omega))) (hk_Gw_r s2) (by rw [e41]; exact ⟨_, _, _, hr⟩)
  refine m_leaksX (d := 997) (n := n2) (by rw [e41]; exact en) hn (fun hb => absurd hg hb) (fun _ f2 e2 hm2 => ⟨_, rfl, fun _ => ?_, hk_Inv_mk hc hi2⟩)
  rw [e41] at hm2
  have hfe : ∀ j, (hk_fit (fun j => s 15 (j * 2)) (fun j => s 15 (j * 2 + 1)) n2 (nI j) ↔ hk_fit (fun j => s 41 (1678 + 2 * j)) (fun j => s 41 (1678 + 2 * j + 1)) n2 (nI j)) := fun j => by
    have e1 : ∀ i, i < n2 → s 15 (i * 2) = s 41 (1678 + 2 * i) := fun i hi2 => hi.2.1 14 (i * 2) (1678 + 2 * i) (hk_lp13 (by omega) (by omega))
    have e2 : ∀ i, i < n2 → s 15 (i * 2 + 1) = s 41 (1678 + 2 * i + 1) := fun i hi2 => hi.2.1 14 (i * 2 + 1) (1678 + 2 * i + 1) (hk_lp13 (by omega) (by omega))
    constructor
    · intro q i hi2
      have := q i hi2
      dsimp only at this ⊢
      rw [← e1 i hi2, ← e2 i hi2]
      exact this
    · intro q i hi2
      have := q i hi2
      dsimp only at this ⊢
      rw [e1 i hi2, e2 i hi2]
      exact this
  have two := hk_mn_two hm2 hm (fun j hj q => (hfe j).mp q.1) (fun i hi2 q hmin => ⟨(hfe i).mpr q, hk_lky_min hi2 ((hfe i).mpr q) (fun j hj q2 => hmin j hj ((hfe j).mp q2))⟩)
  obtain ⟨ef, et⟩ := two
  subst ef
  by_cases hv : v = 0
  · rw [if_pos hv, if_pos (Or.inl hv)]
  · rw [if_neg hv]
    rcases et with ⟨q1, q2⟩ | ⟨q1, q2⟩
    · rw [if_pos (Or.inr q1), q1, q2]
    · rw [if_neg (fun q => q.elim hv q1), q2]
end HKEA
