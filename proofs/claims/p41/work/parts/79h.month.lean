/-! ===== a month, as a row out of a row ===== -/
theorem hk_nsub {a b : Nat} (h : b ≤ a) : nI a - nI b = nI (a - b) := by
  have e : nI a = nI (a - b) + nI b := by rw [nI_add, Nat.sub_add_cancel h]
  rw [e, Int32.add_sub_cancel]
theorem hk_nneg {a b : Nat} (h : a ≤ b) (hb : b < 2 ^ 30) : ¬ 0 < nI a - nI b := fun q => by
  have q := Int32.lt_iff_toInt_lt.mp q
  rw [show (0 : Int32).toInt = 0 from rfl, Int32.toInt_sub, nI_toInt (by omega), nI_toInt (by omega), Int.bmod_eq_of_le (by omega) (by omega)] at q
  omega
theorem hk_mxsub {a b : Nat} (ha : a < 2 ^ 30) (hb : b < 2 ^ 30) : hk_mx0 (nI a - nI b) = nI (a - b) := by
  by_cases h : b ≤ a
  · rw [hk_nsub h, hk_mx0_N _ (by omega)]
  · rw [hk_mx0_n (hk_nneg (by omega) hb)]
    have : a - b = 0 := by omega
    rw [this]
    rfl
theorem hk_thk_N {f : Nat → Int32} {p t w m : Nat} (ht : f (80 + 6 * p + 2) = nI t) (ht2 : t ≤ 5000) (hw : hk_wrP f p = nI w) (hw2 : w ≤ 50) (hm : m ≤ 60) : hk_thk f p (nI m) = nI (t - m * w) := by
  have : m * w ≤ 60 * 50 := Nat.mul_le_mul hm hw2
  unfold hk_thk
  rw [ht, hw, pk_mul, hk_mxsub (by omega) (by omega)]
theorem hk_wrP_N {f : Nat → Int32} {a b r p : Nat} (h : hk_RI f a b r) (hp : p < b) : ∃ w, w ≤ 50 ∧ hk_wrP f p = nI w := by
  obtain ⟨_, z, hz, ez⟩ := h.2.2.2.2.1 p hp
  obtain ⟨w, hw, ew⟩ := (hk_RI_P h).1 z hz
  refine ⟨w, hw, ?_⟩
  unfold hk_wrP hk_zn
  rw [ez, nI_clamp (by omega)]
  exact ew
theorem hk_wrP_c {f g : Nat → Int32} {p z : Nat} (hz : f (80 + 6 * p + 1) = nI z) (hz3 : z < 3) (e1 : g (80 + 6 * p + 1) = f (80 + 6 * p + 1)) (ew : ∀ z, z < 3 → g (12 + z) = f (12 + z)) : hk_wrP g p = hk_wrP f p := by
  unfold hk_wrP hk_zn
  rw [e1, hz, nI_clamp (by omega)]
  exact ew z hz3
theorem hk_thk_c {f g : Nat → Int32} {p z : Nat} {m : Int32} (hz : f (80 + 6 * p + 1) = nI z) (hz3 : z < 3) (e1 : g (80 + 6 * p + 1) = f (80 + 6 * p + 1)) (e2 : g (80 + 6 * p + 2) = f (80 + 6 * p + 2)) (ew : ∀ z, z < 3 → g (12 + z) = f (12 + z)) : hk_thk g p m = hk_thk f p m := by
  unfold hk_thk
  rw [hk_wrP_c hz hz3 e1 ew, e2]
theorem hk_lkT_c {f g : Nat → Int32} {p : Nat} {T U : Int32} (e1 : g (80 + 6 * p + 1) = f (80 + 6 * p + 1)) (e8 : g 8 = f 8) (eT : U = T) : hk_lkT g U p = hk_lkT f T p := by
  unfold hk_lkT
  rw [e1, e8, eT]
theorem hk_lkS_c {f g : Nat → Int32} {T U : Nat → Int32} {v : Int32} : ∀ n, (∀ p, p < n → g (80 + 6 * p) = f (80 + 6 * p)) → (∀ p, p < n → f (80 + 6 * p) = v → hk_lkT g (U p) p = hk_lkT f (T p) p) → hk_lkS g U v n = hk_lkS f T v n
  | 0, _, _ => rfl
  | n + 1, h1, h2 => by
    rw [hk_lkS, hk_lkS, h1 n (by omega), hk_lkS_c n (fun p hp => h1 p (by omega)) (fun p hp => h2 p (by omega))]
    by_cases c : f (80 + 6 * n) = v
    · rw [if_pos c, if_pos c, h2 n (by omega) c]
    · rw [if_neg c, if_neg c]
theorem hk_lsV_c {f g : Nat → Int32} {i : Nat} {v : Int32} (e0 : g (20 + 10 * i) = f (20 + 10 * i)) (e2 : g (20 + 10 * i + 2) = f (20 + 10 * i + 2)) (e4 : g (20 + 10 * i + 4) = f (20 + 10 * i + 4)) : hk_lsV g i v = hk_lsV f i v := by
  unfold hk_lsV
  rw [e0, e2, e4]
theorem hk_mn2_lt {x y : Int32} : (if x < y then x else y) = hk_mn2 x y := by
  unfold hk_mn2
  by_cases h : x < y
  · rw [if_pos h, if_neg (fun q => Int32.lt_irrefl (Int32.lt_trans h q))]
  · rw [if_neg h]
    by_cases h2 : y < x
    · rw [if_pos h2]
    · rw [if_neg h2]
      exact Int32.le_antisymm (Int32.not_lt.mp h) (Int32.not_lt.mp h2)
def hk_sea (f : Nat → Int32) : Int32 := f (1848 + (f 7).toNatClampNeg)
def hk_wat (f : Nat → Int32) (bb i : Nat) : Int32 := f (20 + 10 * i + 5) + hk_lkS f (fun p => hk_thk f p 1) (nI i) bb + hk_sea f
def hk_tkn (f : Nat → Int32) (bb i : Nat) (l : Int32) : Int32 := hk_mn2 (hk_mn2 (hk_wat f bb i) (f (20 + 10 * i + 3))) l
def hk_wlf (f : Nat → Int32) (bb : Nat) : Nat → Int32
  | 0 => f 9
  | i + 1 => if f (20 + 10 * i + 6) = 0 then hk_wlf f bb i - hk_tkn f bb i (hk_wlf f bb i) else hk_wlf f bb i
def hk_wnw (f : Nat → Int32) (bb i : Nat) : Int32 := hk_wat f bb i - hk_tkn f bb i (hk_wlf f bb i)
def hk_skc (f : Nat → Int32) (bb : Nat) : Nat → Nat
  | 0 => 0
  | i + 1 => if f (20 + 10 * i + 6) = 0 ∧ f (20 + 10 * i + 1) < hk_lsV f i (hk_wnw f bb i) then hk_skc f bb i + 1 else hk_skc f bb i
/-- whether ship v floats and is one of the first t -/
def hk_flo (f : Nat → Int32) (v : Int32) : Nat → Prop
  | 0 => False
  | t + 1 => hk_flo f v t ∨ (v = nI t ∧ f (20 + 10 * t + 6) = 0)
/-- the row: plates of the first t ships worn, the first i ships done -/
noncomputable def hk_mrw (f : Nat → Int32) (bb t i : Nat) : Nat → Int32 := fun q =>
  @ite _ (20 ≤ q ∧ q < 20 + 10 * i ∧ q % 10 = 5 ∧ f (q + 1) = 0) (Classical.propDecidable _) (hk_wnw f bb ((q - 20) / 10))
  (@ite _ (20 ≤ q ∧ q < 20 + 10 * i ∧ q % 10 = 6 ∧ f q = 0 ∧ f (20 + 10 * ((q - 20) / 10) + 1) < hk_lsV f ((q - 20) / 10) (hk_wnw f bb ((q - 20) / 10))) (Classical.propDecidable _) 1
  (@ite _ (80 ≤ q ∧ q < 80 + 6 * bb ∧ q % 6 = 4 ∧ hk_flo f (f (q - 2)) t) (Classical.propDecidable _) (hk_thk f ((q - 82) / 6) 1) (f q)))
theorem hk_mrw_e {f : Nat → Int32} {bb t i q : Nat} (h1 : ¬ (20 ≤ q ∧ q < 20 + 10 * i ∧ q % 10 = 5 ∧ f (q + 1) = 0)) (h2 : ¬ (20 ≤ q ∧ q < 20 + 10 * i ∧ q % 10 = 6 ∧ f q = 0 ∧ f (20 + 10 * ((q - 20) / 10) + 1) < hk_lsV f ((q - 20) / 10) (hk_wnw f bb ((q - 20) / 10)))) (h3 : ¬ (80 ≤ q ∧ q < 80 + 6 * bb ∧ q % 6 = 4 ∧ hk_flo f (f (q - 2)) t)) : hk_mrw f bb t i q = f q := by
  unfold hk_mrw
  rw [if_neg h1, if_neg h2, if_neg h3]
/-- cells that no month changes -/
theorem hk_mrw_o {f : Nat → Int32} {bb t i q : Nat} (hi : i ≤ 6) (hb : bb ≤ 96) (h : ¬ (20 ≤ q ∧ q < 80 ∧ (q % 10 = 5 ∨ q % 10 = 6)) ∧ ¬ (80 ≤ q ∧ q < 656 ∧ q % 6 = 4)) : hk_mrw f bb t i q = f q :=
  hk_mrw_e (fun e => h.1 ⟨e.1, by omega, Or.inl e.2.2.1⟩) (fun e => h.1 ⟨e.1, by omega, Or.inr e.2.2.1⟩) (fun e => h.2 ⟨e.1, by omega, e.2.2.1⟩)
theorem hk_mrw_s {f : Nat → Int32} {bb t i w c : Nat} (hw : w < 6) (hc : c < 9) (h : i ≤ w) : hk_mrw f bb t i (20 + 10 * w + c) = f (20 + 10 * w + c) :=
  hk_mrw_e (fun e => by have := e.2.1; omega) (fun e => by have := e.2.1; omega) (fun e => by have := e.1; omega)
theorem hk_mrw_t {f : Nat → Int32} {bb t i p : Nat} (hi : i ≤ 6) (hp : p < bb) (h : hk_flo f (f (80 + 6 * p)) t) : hk_mrw f bb t i (80 + 6 * p + 2) = hk_thk f p 1 := by
  unfold hk_mrw
  rw [if_neg (fun e => by have := e.2.1; omega), if_neg (fun e => by have := e.2.1; omega), if_pos ⟨by omega, by omega, by omega, by rw [show 80 + 6 * p + 2 - 2 = 80 + 6 * p by omega]; exact h⟩, show (80 + 6 * p + 2 - 82) / 6 = p by omega]
theorem hk_mrw_t0 {f : Nat → Int32} {bb t i p : Nat} (hi : i ≤ 6) (h : ¬ hk_flo f (f (80 + 6 * p)) t) : hk_mrw f bb t i (80 + 6 * p + 2) = f (80 + 6 * p + 2) :=
  hk_mrw_e (fun e => by have := e.2.1; omega) (fun e => by have := e.2.1; omega) (fun e => h (by have := e.2.2.2; rw [show 80 + 6 * p + 2 - 2 = 80 + 6 * p by omega] at this; exact this))
theorem hk_mrw_0 {f : Nat → Int32} {bb : Nat} : hk_mrw f bb 0 0 = f := by
  funext q
  exact hk_mrw_e (fun e => by have := e.2.1; omega) (fun e => by have := e.2.1; omega) (fun e => e.2.2.2)
theorem hk_flo_lt {f : Nat → Int32} {w : Nat} (hw : w < 2 ^ 31) : ∀ t, t < 2 ^ 31 → (hk_flo f (nI w) t ↔ w < t ∧ f (20 + 10 * w + 6) = 0)
  | 0, _ => ⟨fun e => e.elim, fun e => by omega⟩
  | t + 1, ht => by
    rw [hk_flo, hk_flo_lt hw t (by omega), nI_eq hw (by omega)]
    constructor
    · rintro (⟨a, c⟩ | ⟨a, c⟩)
      · exact ⟨by omega, c⟩
      · exact ⟨by omega, by rw [a]; exact c⟩
    · rintro ⟨a, c⟩
      by_cases e : w = t
      · exact Or.inr ⟨e, by rw [← e]; exact c⟩
      · exact Or.inl ⟨by omega, c⟩
/-- ship i doesn't float -/
theorem hk_mrw_A1 {f : Nat → Int32} {bb t i : Nat} (h : ¬ f (20 + 10 * i + 6) = 0) : hk_mrw f bb t (i + 1) = hk_mrw f bb t i := by
  funext q
  unfold hk_mrw
  by_cases c : 20 + 10 * i ≤ q ∧ q < 20 + 10 * i + 10
  · rw [if_neg (fun e => h (by have := e.2.2.2; rw [show q + 1 = 20 + 10 * i + 6 by omega] at this; exact this)), if_neg (fun e => h (by have := e.2.2.2.1; rw [show q = 20 + 10 * i + 6 by omega] at this; exact this))]
    rw [if_neg (show ¬ (20 ≤ q ∧ q < 20 + 10 * i ∧ q % 10 = 5 ∧ f (q + 1) = 0) from fun e => by omega), if_neg (show ¬ (20 ≤ q ∧ q < 20 + 10 * i ∧ q % 10 = 6 ∧ f q = 0 ∧ f (20 + 10 * ((q - 20) / 10) + 1) < hk_lsV f ((q - 20) / 10) (hk_wnw f bb ((q - 20) / 10))) from fun e => by have := e.2.1; omega)]
  · rw [show (20 ≤ q ∧ q < 20 + 10 * (i + 1) ∧ q % 10 = 5 ∧ f (q + 1) = 0) = (20 ≤ q ∧ q < 20 + 10 * i ∧ q % 10 = 5 ∧ f (q + 1) = 0) from propext ⟨fun e => ⟨e.1, by have := e.2.1; omega, e.2.2⟩, fun e => ⟨e.1, by have := e.2.1; omega, e.2.2⟩⟩, show (20 ≤ q ∧ q < 20 + 10 * (i + 1) ∧ q % 10 = 6 ∧ f q = 0 ∧ f (20 + 10 * ((q - 20) / 10) + 1) < hk_lsV f ((q - 20) / 10) (hk_wnw f bb ((q - 20) / 10))) = (20 ≤ q ∧ q < 20 + 10 * i ∧ q % 10 = 6 ∧ f q = 0 ∧ f (20 + 10 * ((q - 20) / 10) + 1) < hk_lsV f ((q - 20) / 10) (hk_wnw f bb ((q - 20) / 10))) from propext ⟨fun e => ⟨e.1, by have := e.2.1; omega, e.2.2⟩, fun e => ⟨e.1, by have := e.2.1; omega, e.2.2⟩⟩]
theorem hk_mrw_A2 {f : Nat → Int32} {bb t i : Nat} (h : f (20 + 10 * i + 6) = 0) (hs : ¬ f (20 + 10 * i + 1) < hk_lsV f i (hk_wnw f bb i)) : hk_mrw f bb t (i + 1) = hk_ud (hk_mrw f bb t i) (20 + 10 * i + 5) (hk_wnw f bb i) := by
  funext q
  by_cases c5 : q = 20 + 10 * i + 5
  · subst c5
    rw [hk_ud_s]
    unfold hk_mrw
    rw [if_pos ⟨by omega, by omega, by omega, h⟩, show (20 + 10 * i + 5 - 20) / 10 = i by omega]
  rw [hk_ud_o c5]
  unfold hk_mrw
  by_cases c : 20 + 10 * i ≤ q ∧ q < 20 + 10 * i + 10
  · rw [if_neg (fun e => by omega), if_neg (fun e => hs (by have := e.2.2.2.2; rw [show (q - 20) / 10 = i by omega] at this; exact this))]
    rw [if_neg (show ¬ (20 ≤ q ∧ q < 20 + 10 * i ∧ q % 10 = 5 ∧ f (q + 1) = 0) from fun e => by omega), if_neg (show ¬ (20 ≤ q ∧ q < 20 + 10 * i ∧ q % 10 = 6 ∧ f q = 0 ∧ f (20 + 10 * ((q - 20) / 10) + 1) < hk_lsV f ((q - 20) / 10) (hk_wnw f bb ((q - 20) / 10))) from fun e => by have := e.2.1; omega)]
  · rw [show (20 ≤ q ∧ q < 20 + 10 * (i + 1) ∧ q % 10 = 5 ∧ f (q + 1) = 0) = (20 ≤ q ∧ q < 20 + 10 * i ∧ q % 10 = 5 ∧ f (q + 1) = 0) from propext ⟨fun e => ⟨e.1, by have := e.2.1; omega, e.2.2⟩, fun e => ⟨e.1, by have := e.2.1; omega, e.2.2⟩⟩, show (20 ≤ q ∧ q < 20 + 10 * (i + 1) ∧ q % 10 = 6 ∧ f q = 0 ∧ f (20 + 10 * ((q - 20) / 10) + 1) < hk_lsV f ((q - 20) / 10) (hk_wnw f bb ((q - 20) / 10))) = (20 ≤ q ∧ q < 20 + 10 * i ∧ q % 10 = 6 ∧ f q = 0 ∧ f (20 + 10 * ((q - 20) / 10) + 1) < hk_lsV f ((q - 20) / 10) (hk_wnw f bb ((q - 20) / 10))) from propext ⟨fun e => ⟨e.1, by have := e.2.1; omega, e.2.2⟩, fun e => ⟨e.1, by have := e.2.1; omega, e.2.2⟩⟩]
theorem hk_mrw_A3 {f : Nat → Int32} {bb t i : Nat} (h : f (20 + 10 * i + 6) = 0) (hs : f (20 + 10 * i + 1) < hk_lsV f i (hk_wnw f bb i)) : hk_mrw f bb t (i + 1) = hk_ud (hk_ud (hk_mrw f bb t i) (20 + 10 * i + 5) (hk_wnw f bb i)) (20 + 10 * i + 6) 1 := by
  funext q
  by_cases c6 : q = 20 + 10 * i + 6
  · subst c6
    rw [hk_ud_s]
    unfold hk_mrw
    rw [if_neg (fun e => by omega), if_pos ⟨by omega, by omega, by omega, h, by rw [show (20 + 10 * i + 6 - 20) / 10 = i by omega]; exact hs⟩]
  rw [hk_ud_o c6]
  by_cases c5 : q = 20 + 10 * i + 5
  · subst c5
    rw [hk_ud_s]
    unfold hk_mrw
    rw [if_pos ⟨by omega, by omega, by omega, h⟩, show (20 + 10 * i + 5 - 20) / 10 = i by omega]
  rw [hk_ud_o c5]
  unfold hk_mrw
  by_cases c : 20 + 10 * i ≤ q ∧ q < 20 + 10 * i + 10
  · rw [if_neg (fun e => by omega), if_neg (fun e => by have := e.2.2.1; omega)]
    rw [if_neg (show ¬ (20 ≤ q ∧ q < 20 + 10 * i ∧ q % 10 = 5 ∧ f (q + 1) = 0) from fun e => by omega), if_neg (show ¬ (20 ≤ q ∧ q < 20 + 10 * i ∧ q % 10 = 6 ∧ f q = 0 ∧ f (20 + 10 * ((q - 20) / 10) + 1) < hk_lsV f ((q - 20) / 10) (hk_wnw f bb ((q - 20) / 10))) from fun e => by have := e.2.1; omega)]
  · rw [show (20 ≤ q ∧ q < 20 + 10 * (i + 1) ∧ q % 10 = 5 ∧ f (q + 1) = 0) = (20 ≤ q ∧ q < 20 + 10 * i ∧ q % 10 = 5 ∧ f (q + 1) = 0) from propext ⟨fun e => ⟨e.1, by have := e.2.1; omega, e.2.2⟩, fun e => ⟨e.1, by have := e.2.1; omega, e.2.2⟩⟩, show (20 ≤ q ∧ q < 20 + 10 * (i + 1) ∧ q % 10 = 6 ∧ f q = 0 ∧ f (20 + 10 * ((q - 20) / 10) + 1) < hk_lsV f ((q - 20) / 10) (hk_wnw f bb ((q - 20) / 10))) = (20 ≤ q ∧ q < 20 + 10 * i ∧ q % 10 = 6 ∧ f q = 0 ∧ f (20 + 10 * ((q - 20) / 10) + 1) < hk_lsV f ((q - 20) / 10) (hk_wnw f bb ((q - 20) / 10))) from propext ⟨fun e => ⟨e.1, by have := e.2.1; omega, e.2.2⟩, fun e => ⟨e.1, by have := e.2.1; omega, e.2.2⟩⟩]
/-- plates worn that P says -/
noncomputable def hk_wP (g : Nat → Int32) (P : Nat → Prop) (j : Nat) : Nat → Int32 := fun q => @ite _ (80 ≤ q ∧ q < 80 + 6 * j ∧ q % 6 = 4 ∧ P ((q - 82) / 6)) (Classical.propDecidable _) (hk_thk g ((q - 82) / 6) 1) (g q)
theorem hk_wP_0 {g : Nat → Int32} {P : Nat → Prop} : hk_wP g P 0 = g := by
  funext q
  unfold hk_wP
  rw [if_neg (fun e => by have := e.1; have := e.2.1; omega)]
theorem hk_wP_o {g : Nat → Int32} {P : Nat → Prop} {j q : Nat} (h : ¬ (80 ≤ q ∧ q < 80 + 6 * j ∧ q % 6 = 4)) : hk_wP g P j q = g q := if_neg (fun e => h ⟨e.1, e.2.1, e.2.2.1⟩)
theorem hk_wP_i {g : Nat → Int32} {P : Nat → Prop} {j p : Nat} (hp : p < j) (h : P p) : hk_wP g P j (80 + 6 * p + 2) = hk_thk g p 1 := by
  have e : (80 + 6 * p + 2 - 82) / 6 = p := by omega
  unfold hk_wP
  rw [e, if_pos ⟨by omega, by omega, by omega, h⟩]
theorem hk_wP_x {g : Nat → Int32} {P : Nat → Prop} {j p : Nat} (h : ¬ P p) : hk_wP g P j (80 + 6 * p + 2) = g (80 + 6 * p + 2) := by
  have e : (80 + 6 * p + 2 - 82) / 6 = p := by omega
  unfold hk_wP
  rw [e, if_neg (fun q => h q.2.2.2)]
theorem hk_wP_n {g : Nat → Int32} {P : Nat → Prop} {j : Nat} (h : ¬ P j) : hk_wP g P (j + 1) = hk_wP g P j := by
  funext q
  by_cases c : q = 80 + 6 * j + 2
  · rw [c, hk_wP_x h, hk_wP_x h]
  · unfold hk_wP
    rw [show (80 ≤ q ∧ q < 80 + 6 * (j + 1) ∧ q % 6 = 4 ∧ P ((q - 82) / 6)) = (80 ≤ q ∧ q < 80 + 6 * j ∧ q % 6 = 4 ∧ P ((q - 82) / 6)) from propext ⟨fun e => ⟨e.1, by have := e.2.1; have := e.2.2.1; omega, e.2.2⟩, fun e => ⟨e.1, by have := e.2.1; omega, e.2.2⟩⟩]
theorem hk_wP_y {g : Nat → Int32} {P : Nat → Prop} {j : Nat} (h : P j) : hk_wP g P (j + 1) = hk_ud (hk_wP g P j) (80 + 6 * j + 2) (hk_thk g j 1) := by
  funext q
  by_cases c : q = 80 + 6 * j + 2
  · rw [c, hk_wP_i (by omega) h, hk_ud_s]
  · rw [hk_ud_o c]
    unfold hk_wP
    rw [show (80 ≤ q ∧ q < 80 + 6 * (j + 1) ∧ q % 6 = 4 ∧ P ((q - 82) / 6)) = (80 ≤ q ∧ q < 80 + 6 * j ∧ q % 6 = 4 ∧ P ((q - 82) / 6)) from propext ⟨fun e => ⟨e.1, by have := e.2.1; have := e.2.2.1; omega, e.2.2⟩, fun e => ⟨e.1, by have := e.2.1; omega, e.2.2⟩⟩]
noncomputable def hk_wrn (g : Nat → Int32) (v : Int32) (j : Nat) : Nat → Int32 := hk_wP g (fun p => g (80 + 6 * p) = v) j
/-- a ship's cell aside -/
theorem hk_wrn_u {g : Nat → Int32} {v x : Int32} {j c : Nat} (hc : 20 ≤ c ∧ c < 80) (hz : ∀ p, p < j → ∃ z, z < 3 ∧ g (80 + 6 * p + 1) = nI z) : hk_wrn (hk_ud g c x) v j = hk_ud (hk_wrn g v j) c x := by
  funext q
  unfold hk_wrn
  by_cases c8 : 80 ≤ q ∧ q < 80 + 6 * j ∧ q % 6 = 4
  · obtain ⟨p, hp⟩ : ∃ p, q = 80 + 6 * p + 2 := ⟨(q - 82) / 6, by omega⟩
    subst hp
    obtain ⟨z, hz3, ez⟩ := hz p (by omega)
    have e0 : hk_ud g c x (80 + 6 * p) = g (80 + 6 * p) := hk_ud_o (by omega)
    rw [hk_ud_o (by omega)]
    by_cases cp : g (80 + 6 * p) = v
    · rw [hk_wP_i (by omega) (e0.trans cp), hk_wP_i (by omega) cp]
      exact hk_thk_c ez hz3 (hk_ud_o (by omega)) (hk_ud_o (by omega)) (fun z hz => hk_ud_o (by omega))
    · rw [hk_wP_x (fun e => cp (e0.symm.trans e)), hk_wP_x cp, hk_ud_o (by omega)]
  · rw [hk_wP_o c8]
    unfold hk_ud
    rw [hk_wP_o c8]
theorem hk_mrw_B1 {f : Nat → Int32} {bb i j : Nat} (h : ¬ f (20 + 10 * i + 6) = 0) : hk_mrw f bb (i + 1) j = hk_mrw f bb i j := by
  have e : ∀ v, hk_flo f v (i + 1) = hk_flo f v i := fun v => propext ⟨fun q => q.elim id (fun q => absurd q.2 h), Or.inl⟩
  funext q
  unfold hk_mrw
  rw [e]
theorem hk_mrw_z {f : Nat → Int32} {bb t j q : Nat} (h : ¬ (80 ≤ q ∧ q < 80 + 6 * bb ∧ q % 6 = 4)) : hk_mrw f bb t j q = hk_mrw f bb 0 j q := by
  unfold hk_mrw
  rw [if_neg (show ¬ (80 ≤ q ∧ q < 80 + 6 * bb ∧ q % 6 = 4 ∧ hk_flo f (f (q - 2)) t) from fun e => h ⟨e.1, e.2.1, e.2.2.1⟩), if_neg (show ¬ (80 ≤ q ∧ q < 80 + 6 * bb ∧ q % 6 = 4 ∧ hk_flo f (f (q - 2)) 0) from fun e => h ⟨e.1, e.2.1, e.2.2.1⟩)]
theorem hk_mrw_B2 {f : Nat → Int32} {a bb r i j : Nat} (h : hk_RI f a bb r) (hj : j ≤ 6) (hi : i < a) (hf : f (20 + 10 * i + 6) = 0) : hk_mrw f bb (i + 1) j = hk_wrn (hk_mrw f bb i j) (nI i) bb := by
  have hb := h.1.2.1
  have ha := h.1.1
  funext q
  unfold hk_wrn
  by_cases c : 80 ≤ q ∧ q < 80 + 6 * bb ∧ q % 6 = 4
  · obtain ⟨p, hp⟩ : ∃ p, q = 80 + 6 * p + 2 := ⟨(q - 82) / 6, by omega⟩
    subst hp
    obtain ⟨⟨w, hw, ew⟩, z, hz3, ez⟩ := h.2.2.2.2.1 p (by omega)
    have e0 : hk_mrw f bb i j (80 + 6 * p) = f (80 + 6 * p) := hk_mrw_o hj hb (by omega)
    by_cases cw : w = i
    · subst cw
      have n1 : ¬ hk_flo f (f (80 + 6 * p)) w := by
        rw [ew, hk_flo_lt (by omega) w (by omega)]
        omega
      have n2 : hk_flo f (f (80 + 6 * p)) (w + 1) := Or.inr ⟨ew, hf⟩
      rw [hk_mrw_t hj (by omega) n2, hk_wP_i (by omega) (e0.trans ew)]
      exact (hk_thk_c ez hz3 (hk_mrw_o hj hb (by omega)) (hk_mrw_t0 hj n1) (fun z hz => hk_mrw_o hj hb (by omega))).symm
    · rw [hk_wP_x (fun e => cw ((nI_eq (by omega) (by omega)).mp (ew.symm.trans (e0.symm.trans e))))]
      by_cases cf : hk_flo f (f (80 + 6 * p)) i
      · have cf2 : hk_flo f (f (80 + 6 * p)) (i + 1) := Or.inl cf
        rw [hk_mrw_t hj (by omega) cf, hk_mrw_t hj (by omega) cf2]
      · have cf2 : ¬ hk_flo f (f (80 + 6 * p)) (i + 1) := fun e => Or.elim (show hk_flo f (f (80 + 6 * p)) i ∨ (f (80 + 6 * p) = nI i ∧ f (20 + 10 * i + 6) = 0) from e) cf (fun e => cw ((nI_eq (by omega) (by omega)).mp (ew.symm.trans e.1)))
        rw [hk_mrw_t0 hj cf, hk_mrw_t0 hj cf2]
  · rw [hk_wP_o c, hk_mrw_z c, hk_mrw_z (t := i) c]
/-- the reference wears all plates first -/
noncomputable def hk_g1 (f : Nat → Int32) (j : Nat) : Nat → Int32 := hk_wP f (fun p => f (20 + 10 * (f (80 + 6 * p)).toNatClampNeg + 6) = 0) j
theorem hk_g1_e {f : Nat → Int32} {a bb r : Nat} (h : hk_RI f a bb r) : hk_g1 f bb = hk_mrw f bb a 0 := by
  have hb := h.1.2.1
  have ha := h.1.1
  funext q
  unfold hk_g1
  by_cases c : 80 ≤ q ∧ q < 80 + 6 * bb ∧ q % 6 = 4
  · obtain ⟨p, hp⟩ : ∃ p, q = 80 + 6 * p + 2 := ⟨(q - 82) / 6, by omega⟩
    subst hp
    obtain ⟨⟨w, hw, ew⟩, z, hz3, ez⟩ := h.2.2.2.2.1 p (by omega)
    have ec : (f (20 + 10 * (f (80 + 6 * p)).toNatClampNeg + 6) = 0) = hk_flo f (f (80 + 6 * p)) a := propext (by
      rw [ew, hk_flo_lt (by omega) a (by omega), nI_clamp (by omega)]
      exact ⟨fun e => ⟨hw, e⟩, fun e => e.2⟩)
    by_cases cf : hk_flo f (f (80 + 6 * p)) a
    · rw [hk_mrw_t (by omega) (by omega) cf, hk_wP_i (by omega) (by rw [ec]; exact cf)]
    · rw [hk_mrw_t0 (by omega) cf, hk_wP_x (by rw [ec]; exact cf)]
  · rw [hk_wP_o c, hk_mrw_z c, hk_mrw_0]
/-- a month has gone -/
noncomputable def hk_mnx (f : Nat → Int32) (a bb : Nat) : Nat → Int32 := hk_ud (hk_mrw f bb a a) 7 (f 7 + 1)
theorem hk_mrw_cs {f : Nat → Int32} {bb t : Nat} (hb : bb ≤ 96) (w : Nat) (hw : w < 6) : ∀ i, i ≤ 6 → hk_mrw f bb t i (20 + 10 * w + 6) = f (20 + 10 * w + 6) ∨ hk_mrw f bb t i (20 + 10 * w + 6) = 1 := fun i hi => by
  by_cases c : (20 ≤ 20 + 10 * w + 6 ∧ 20 + 10 * w + 6 < 20 + 10 * i ∧ (20 + 10 * w + 6) % 10 = 6 ∧ f (20 + 10 * w + 6) = 0 ∧ f (20 + 10 * ((20 + 10 * w + 6 - 20) / 10) + 1) < hk_lsV f ((20 + 10 * w + 6 - 20) / 10) (hk_wnw f bb ((20 + 10 * w + 6 - 20) / 10)))
  · right
    unfold hk_mrw
    rw [if_neg (fun e => by have := e.2.2.1; omega), if_pos c]
  · left
    exact hk_mrw_e (fun e => by have := e.2.2.1; omega) c (fun e => by have := e.1; omega)
theorem hk_RI_mnx {f : Nat → Int32} {a bb r n : Nat} (h : hk_RI f a bb r) (h7 : f 7 = nI n) (hn : n + 1 < 600) : hk_RI (hk_mnx f a bb) a bb r ∧ hk_mnx f a bb 7 = nI (n + 1) := by
  have hb := h.1.2.1
  have ha := h.1.1
  have e7 : hk_mnx f a bb 7 = nI (n + 1) := by
    unfold hk_mnx
    rw [hk_ud_s, h7, nI_1]
  have o : ∀ q, q ≠ 7 → ¬ (20 ≤ q ∧ q < 80 ∧ (q % 10 = 5 ∨ q % 10 = 6)) ∧ ¬ (80 ≤ q ∧ q < 656 ∧ q % 6 = 4) → hk_mnx f a bb q = f q := fun q h1 h2 => by
    unfold hk_mnx
    rw [hk_ud_o h1, hk_mrw_o ha hb h2]
  refine ⟨hk_RI_x h (fun q h1 h2 h3 h4 => o q h2 (by omega)) ⟨n + 1, hn, e7⟩ ?_, e7⟩
  obtain ⟨p1, p2, p3⟩ := hk_RI_P h
  refine ⟨fun z hz => ?_, fun m hm em j hj => ?_, fun m hm em p hp => ?_⟩
  · rw [o _ (by omega) (by omega)]
    exact p1 z hz
  · rw [o 0 (by omega) (by omega)] at em
    have eq : m = a := (nI_eq (by omega) (by omega)).mp (em.symm.trans h.2.1.1)
    obtain ⟨a1, a2, a3⟩ := p2 m hm em j hj
    refine ⟨?_, ?_, ?_⟩
    · clear a2 a3
      rw [o _ (by omega) (by omega)]
      exact a1
    · clear a1 a3
      unfold hk_mnx
      rw [hk_ud_o (by omega)]
      rcases hk_mrw_cs (f := f) (t := a) hb j (by omega) a ha with q | q
      · rw [q]
        exact a2
      · rw [q]
        exact Or.inr rfl
    · clear a1 a2
      rw [o _ (by omega) (by omega)]
      exact a3
  · rw [o 1 (by omega) (by omega)] at em
    have eq : m = bb := (nI_eq (by omega) (by omega)).mp (em.symm.trans h.2.1.2.1)
    obtain ⟨⟨t, ht, et⟩, a2⟩ := p3 m hm em p hp
    refine ⟨?_, ?_⟩
    · clear a2
      unfold hk_mnx
      rw [hk_ud_o (by omega)]
      by_cases cf : hk_flo f (f (80 + 6 * p)) a
      · obtain ⟨w, hw, ew⟩ := hk_wrP_N h (p := p) (by omega)
        rw [hk_mrw_t ha (by omega) cf]
        refine ⟨t - 1 * w, by omega, hk_thk_N (m := 1) et ht ew hw (by omega)⟩
      · rw [hk_mrw_t0 ha cf]
        exact ⟨t, ht, et⟩
    · rw [o _ (by omega) (by omega)]
      exact a2
noncomputable def hk_mns (f : Nat → Int32) (a bb : Nat) : Nat → Nat → Int32
  | 0 => f
  | i + 1 => hk_mnx (hk_mns f a bb i) a bb
noncomputable def hk_sks (f : Nat → Int32) (a bb : Nat) : Nat → Nat
  | 0 => 0
  | i + 1 => hk_sks f a bb i + hk_skc (hk_mns f a bb i) bb a
theorem hk_RI_mns {f : Nat → Int32} {a bb r n : Nat} (h : hk_RI f a bb r) (h7 : f 7 = nI n) : ∀ i, n + i < 600 → hk_RI (hk_mns f a bb i) a bb r ∧ hk_mns f a bb i 7 = nI (n + i)
  | 0, _ => ⟨h, h7⟩
  | i + 1, hi => by
    obtain ⟨q1, q2⟩ := hk_RI_mns h h7 i (by omega)
    exact hk_RI_mnx q1 q2 (by omega)
