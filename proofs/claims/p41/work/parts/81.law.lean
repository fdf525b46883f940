/-! ===== the law's loop, any number of calls ===== -/
section HKW
variable {xs : Nat → Int32} {L j n : Nat} {h : hk_H}
/-- what the calls behind come to -/
def hk_Ct (L : Nat) (xs : Nat → Int32) (j : Nat) : Prop := ∀ h, hk_Inv h → hk_Rn 1000 (some (L, xs)) hk_cL (hk_sfx 18 hk_cL) [some (.ref 96), some (.ref 0), some (.ref 40), some (.int (nI j + 6))] [] h hk_KL
theorem hk_ldx {d n j m L : Nat} {cd cs : List hk_E} {L2 : hk_L} {st : List Value} {k : Option Value → hk_H → Prop} {h : hk_H} {i : Int32} (e : i = nI j + nI m) (hm : m < 6) (hj : j + 6 ≤ L) (hL : L ≤ 3072) (w : hk_wp d (some (L, xs)) cd k n cs L2 (.int (xs (j + m)) :: st) h) : vp_in i L ∧ hk_wp d (some (L, xs)) cd k n cs L2 (.int (xs i.toNatClampNeg) :: st) h := by
  subst e
  rw [nI_add, nI_clamp (by omega)]
  exact ⟨vp_in_nI (by omega) (by omega), w⟩
theorem hk_jL (hL : L ≤ 3072) (hj : j ≤ 3078) : Int32.ofNat L - 6 < nI j ↔ L < j + 6 := by
  by_cases h6 : 6 ≤ L
  · have e : Int32.ofNat L - 6 = nI (L - 6) := by
      have := nI_add (L - 6) 6
      rw [show L - 6 + 6 = L by omega] at this
      show nI L - nI 6 = _
      rw [← this]
      exact Int32.add_sub_cancel _ _
    rw [e, nI_ltI (by omega) (by omega)]
    omega
  · have e : ∀ L : Nat, L < 6 → Int32.ofNat L - 6 < 0 := by decide
    refine ⟨fun _ => by omega, fun _ => ?_⟩
    exact Int32.lt_of_lt_of_le (e L (by omega)) (Int32.not_lt.mp (nI_pos (by omega)))
set_option maxRecDepth 100000 in
theorem hk_lend (hL : L ≤ 3072) (hj : j ≤ 3078) (hlt : L < j + 6) (hi : hk_Inv h) : hk_Rn 1000 (some (L, xs)) hk_cL (hk_sfx 18 hk_cL) [some (.ref 96), some (.ref 0), some (.ref 40), some (.int (nI j))] [] h hk_KL := by
  refine hk_hd (n := 1000) (t := 18) rfl ?_
  refine And.intro (fun _ => ?_) (fun hc => absurd ((hk_jL hL hj).mpr hlt) hc)
  exact ⟨Or.inr rfl, rfl, (hk_Inv_rm hi).1, (hk_Inv_rm hi).2⟩

set_option maxRecDepth 100000 in
theorem l_ship (hj : j + 6 ≤ L) (hL : L ≤ 3072) (hi : hk_Inv h) (C : hk_Ct L xs j) : hk_wp 1000 (some (L, xs)) hk_cL hk_KL (n + 60) (hk_sfx 216 hk_cL) [some (.ref 96), some (.ref 0), some (.ref 40), some (.int (nI j))] [] h := by
  refine hk_ldx (m := 1) rfl (by decide) hj hL ?_
  refine hk_ldx (m := 2) rfl (by decide) hj hL ?_
  refine hk_ldx (m := 3) rfl (by decide) hj hL ?_
  refine hk_ldx (m := 4) rfl (by decide) hj hL ?_
  refine hk_Cl_mono ?_ (q_ship h hi)
  rintro r h1 ⟨x, rfl, c⟩
  refine hk_ldx (m := 1) rfl (by decide) hj hL ?_
  refine hk_ldx (m := 2) rfl (by decide) hj hL ?_
  refine hk_ldx (m := 3) rfl (by decide) hj hL ?_
  refine hk_ldx (m := 4) rfl (by decide) hj hL ?_
  refine hk_Cl_mono ?_ c
  rintro r2 h2 ⟨y, rfl, e, i2⟩
  exact C h2 i2
set_option maxRecDepth 100000 in
theorem l_plate (hj : j + 6 ≤ L) (hL : L ≤ 3072) (hi : hk_Inv h) (C : hk_Ct L xs j) : hk_wp 1000 (some (L, xs)) hk_cL hk_KL (n + 60) (hk_sfx 269 hk_cL) [some (.ref 96), some (.ref 0), some (.ref 40), some (.int (nI j))] [] h := by
  refine hk_ldx (m := 1) rfl (by decide) hj hL ?_
  refine hk_ldx (m := 2) rfl (by decide) hj hL ?_
  refine hk_ldx (m := 3) rfl (by decide) hj hL ?_
  refine hk_ldx (m := 4) rfl (by decide) hj hL ?_
  refine hk_ldx (m := 5) rfl (by decide) hj hL ?_
  refine hk_Cl_mono ?_ (q_plate h hi)
  rintro r h1 ⟨x, rfl, c⟩
  refine hk_ldx (m := 1) rfl (by decide) hj hL ?_
  refine hk_ldx (m := 2) rfl (by decide) hj hL ?_
  refine hk_ldx (m := 3) rfl (by decide) hj hL ?_
  refine hk_ldx (m := 4) rfl (by decide) hj hL ?_
  refine hk_ldx (m := 5) rfl (by decide) hj hL ?_
  refine hk_Cl_mono ?_ c
  rintro r2 h2 ⟨y, rfl, e, i2⟩
  exact C h2 i2
set_option maxRecDepth 100000 in
theorem l_lay (hj : j + 6 ≤ L) (hL : L ≤ 3072) (hi : hk_Inv h) (C : hk_Ct L xs j) : hk_wp 1000 (some (L, xs)) hk_cL hk_KL (n + 60) (hk_sfx 332 hk_cL) [some (.ref 96), some (.ref 0), some (.ref 40), some (.int (nI j))] [] h := by
  refine hk_ldx (m := 1) rfl (by decide) hj hL ?_
  refine hk_Cl_mono ?_ (q_layE h hi)
  rintro r h1 ⟨x, rfl, c⟩
  refine hk_ldx (m := 1) rfl (by decide) hj hL ?_
  refine hk_Cl_mono ?_ c
  rintro r2 h2 ⟨y, rfl, e, i2⟩
  exact C h2 i2
set_option maxRecDepth 100000 in
theorem l_wear (hj : j + 6 ≤ L) (hL : L ≤ 3072) (hi : hk_Inv h) (C : hk_Ct L xs j) : hk_wp 1000 (some (L, xs)) hk_cL hk_KL (n + 60) (hk_sfx 355 hk_cL) [some (.ref 96), some (.ref 0), some (.ref 40), some (.int (nI j))] [] h := by
  refine hk_ldx (m := 1) rfl (by decide) hj hL ?_
  refine hk_ldx (m := 2) rfl (by decide) hj hL ?_
  refine hk_Cl_mono ?_ (q_wear h hi)
  rintro r h1 ⟨x, rfl, c⟩
  refine hk_ldx (m := 1) rfl (by decide) hj hL ?_
  refine hk_ldx (m := 2) rfl (by decide) hj hL ?_
  refine hk_Cl_mono ?_ c
  rintro r2 h2 ⟨y, rfl, e, i2⟩
  exact C h2 i2
set_option maxRecDepth 100000 in
theorem l_bound (hj : j + 6 ≤ L) (hL : L ≤ 3072) (hi : hk_Inv h) (C : hk_Ct L xs j) : hk_wp 1000 (some (L, xs)) hk_cL hk_KL (n + 60) (hk_sfx 388 hk_cL) [some (.ref 96), some (.ref 0), some (.ref 40), some (.int (nI j))] [] h := by
  refine hk_ldx (m := 1) rfl (by decide) hj hL ?_
  refine hk_Cl_mono ?_ (q_bound h hi)
  rintro r h1 ⟨x, rfl, c⟩
  refine hk_ldx (m := 1) rfl (by decide) hj hL ?_
  refine hk_Cl_mono ?_ c
  rintro r2 h2 ⟨y, rfl, e, i2⟩
  exact C h2 i2
set_option maxRecDepth 100000 in
theorem l_wire (hj : j + 6 ≤ L) (hL : L ≤ 3072) (hi : hk_Inv h) (C : hk_Ct L xs j) : hk_wp 1000 (some (L, xs)) hk_cL hk_KL (n + 60) (hk_sfx 411 hk_cL) [some (.ref 96), some (.ref 0), some (.ref 40), some (.int (nI j))] [] h := by
  refine hk_ldx (m := 1) rfl (by decide) hj hL ?_
  refine hk_Cl_mono ?_ (q_wire h hi)
  rintro r h1 ⟨x, rfl, c⟩
  refine hk_ldx (m := 1) rfl (by decide) hj hL ?_
  refine hk_Cl_mono ?_ c
  rintro r2 h2 ⟨y, rfl, e, i2⟩
  exact C h2 i2
set_option maxRecDepth 100000 in
theorem l_crowd (hj : j + 6 ≤ L) (hL : L ≤ 3072) (hi : hk_Inv h) (C : hk_Ct L xs j) : hk_wp 1000 (some (L, xs)) hk_cL hk_KL (n + 60) (hk_sfx 434 hk_cL) [some (.ref 96), some (.ref 0), some (.ref 40), some (.int (nI j))] [] h := by
  refine hk_ldx (m := 1) rfl (by decide) hj hL ?_
  refine hk_ldx (m := 2) rfl (by decide) hj hL ?_
  refine hk_Cl_mono ?_ (q_crowd h hi)
  rintro r h1 ⟨x, rfl, c⟩
  refine hk_ldx (m := 1) rfl (by decide) hj hL ?_
  refine hk_ldx (m := 2) rfl (by decide) hj hL ?_
  refine hk_Cl_mono ?_ c
  rintro r2 h2 ⟨y, rfl, e, i2⟩
  exact C h2 i2
set_option maxRecDepth 100000 in
theorem l_storm (hj : j + 6 ≤ L) (hL : L ≤ 3072) (hi : hk_Inv h) (C : hk_Ct L xs j) : hk_wp 1000 (some (L, xs)) hk_cL hk_KL (n + 60) (hk_sfx 467 hk_cL) [some (.ref 96), some (.ref 0), some (.ref 40), some (.int (nI j))] [] h := by
  refine hk_ldx (m := 1) rfl (by decide) hj hL ?_
  refine hk_ldx (m := 2) rfl (by decide) hj hL ?_
  refine hk_Cl_mono ?_ (q_storm h hi)
  rintro r h1 ⟨x, rfl, c⟩
  refine hk_ldx (m := 1) rfl (by decide) hj hL ?_
  refine hk_ldx (m := 2) rfl (by decide) hj hL ?_
  refine hk_Cl_mono ?_ c
  rintro r2 h2 ⟨y, rfl, e, i2⟩
  exact C h2 i2
set_option maxRecDepth 100000 in
theorem l_months (hj : j + 6 ≤ L) (hL : L ≤ 3072) (hi : hk_Inv h) (C : hk_Ct L xs j) : hk_wp 1000 (some (L, xs)) hk_cL hk_KL (n + 60) (hk_sfx 500 hk_cL) [some (.ref 96), some (.ref 0), some (.ref 40), some (.int (nI j))] [] h := by
  refine hk_ldx (m := 1) rfl (by decide) hj hL ?_
  refine hk_Cl_mono ?_ (q_monthsE h hi)
  rintro r h1 ⟨x, rfl, c⟩
  refine hk_ldx (m := 1) rfl (by decide) hj hL ?_
  refine hk_Cl_mono ?_ c
  rintro r2 h2 ⟨y, rfl, e, i2⟩
  exact C h2 i2
set_option maxRecDepth 100000 in
theorem l_about (hj : j + 6 ≤ L) (hL : L ≤ 3072) (hi : hk_Inv h) (C : hk_Ct L xs j) : hk_wp 1000 (some (L, xs)) hk_cL hk_KL (n + 60) (hk_sfx 523 hk_cL) [some (.ref 96), some (.ref 0), some (.ref 40), some (.int (nI j))] [] h := by
  refine hk_ldx (m := 1) rfl (by decide) hj hL ?_
  refine hk_ldx (m := 2) rfl (by decide) hj hL ?_
  refine hk_Cl_mono ?_ (q_aboutE h hi)
  rintro r h1 ⟨x, rfl, c⟩
  refine hk_ldx (m := 1) rfl (by decide) hj hL ?_
  refine hk_ldx (m := 2) rfl (by decide) hj hL ?_
  refine hk_Cl_mono ?_ c
  rintro r2 h2 ⟨y, rfl, e, i2⟩
  exact C h2 i2
set_option maxRecDepth 100000 in
theorem l_plateAt (hj : j + 6 ≤ L) (hL : L ≤ 3072) (hi : hk_Inv h) (C : hk_Ct L xs j) : hk_wp 1000 (some (L, xs)) hk_cL hk_KL (n + 60) (hk_sfx 556 hk_cL) [some (.ref 96), some (.ref 0), some (.ref 40), some (.int (nI j))] [] h := by
  refine hk_ldx (m := 1) rfl (by decide) hj hL ?_
  refine hk_ldx (m := 2) rfl (by decide) hj hL ?_
  refine hk_Cl_mono ?_ (q_plateAtE h hi)
  rintro r h1 ⟨x, rfl, c⟩
  refine hk_ldx (m := 1) rfl (by decide) hj hL ?_
  refine hk_ldx (m := 2) rfl (by decide) hj hL ?_
  refine hk_Cl_mono ?_ c
  rintro r2 h2 ⟨y, rfl, e, i2⟩
  exact C h2 i2
set_option maxRecDepth 100000 in
theorem l_replace (hj : j + 6 ≤ L) (hL : L ≤ 3072) (hi : hk_Inv h) (C : hk_Ct L xs j) : hk_wp 1000 (some (L, xs)) hk_cL hk_KL (n + 60) (hk_sfx 589 hk_cL) [some (.ref 96), some (.ref 0), some (.ref 40), some (.int (nI j))] [] h := by
  refine hk_ldx (m := 1) rfl (by decide) hj hL ?_
  refine hk_ldx (m := 2) rfl (by decide) hj hL ?_
  refine hk_Cl_mono ?_ (q_replaceE h hi)
  rintro r h1 ⟨x, rfl, c⟩
  refine hk_ldx (m := 1) rfl (by decide) hj hL ?_
  refine hk_ldx (m := 2) rfl (by decide) hj hL ?_
  refine hk_Cl_mono ?_ c
  rintro r2 h2 ⟨y, rfl, e, i2⟩
  exact C h2 i2
set_option maxRecDepth 100000 in
theorem l_move (hj : j + 6 ≤ L) (hL : L ≤ 3072) (hi : hk_Inv h) (C : hk_Ct L xs j) : hk_wp 1000 (some (L, xs)) hk_cL hk_KL (n + 60) (hk_sfx 622 hk_cL) [some (.ref 96), some (.ref 0), some (.ref 40), some (.int (nI j))] [] h := by
  refine hk_ldx (m := 1) rfl (by decide) hj hL ?_
  refine hk_ldx (m := 2) rfl (by decide) hj hL ?_
  refine hk_Cl_mono ?_ (q_moveE h hi)
  rintro r h1 ⟨x, rfl, c⟩
  refine hk_ldx (m := 1) rfl (by decide) hj hL ?_
  refine hk_ldx (m := 2) rfl (by decide) hj hL ?_
  refine hk_Cl_mono ?_ c
  rintro r2 h2 ⟨y, rfl, e, i2⟩
  exact C h2 i2
set_option maxRecDepth 100000 in
theorem l_reading (hj : j + 6 ≤ L) (hL : L ≤ 3072) (hi : hk_Inv h) (C : hk_Ct L xs j) : hk_wp 1000 (some (L, xs)) hk_cL hk_KL (n + 60) (hk_sfx 655 hk_cL) [some (.ref 96), some (.ref 0), some (.ref 40), some (.int (nI j))] [] h := by
  refine hk_ldx (m := 1) rfl (by decide) hj hL ?_
  refine hk_ldx (m := 2) rfl (by decide) hj hL ?_
  refine hk_ldx (m := 3) rfl (by decide) hj hL ?_
  refine hk_ldx (m := 4) rfl (by decide) hj hL ?_
  refine hk_ldx (m := 5) rfl (by decide) hj hL ?_
  refine hk_Cl_mono ?_ (q_reading h hi)
  rintro r h1 ⟨x, rfl, c⟩
  refine hk_ldx (m := 1) rfl (by decide) hj hL ?_
  refine hk_ldx (m := 2) rfl (by decide) hj hL ?_
  refine hk_ldx (m := 3) rfl (by decide) hj hL ?_
  refine hk_ldx (m := 4) rfl (by decide) hj hL ?_
  refine hk_ldx (m := 5) rfl (by decide) hj hL ?_
  refine hk_Cl_mono ?_ c
  rintro r2 h2 ⟨y, rfl, e, i2⟩
  exact C h2 i2
set_option maxRecDepth 100000 in
theorem l_bias (hj : j + 6 ≤ L) (hL : L ≤ 3072) (hi : hk_Inv h) (C : hk_Ct L xs j) : hk_wp 1000 (some (L, xs)) hk_cL hk_KL (n + 60) (hk_sfx 718 hk_cL) [some (.ref 96), some (.ref 0), some (.ref 40), some (.int (nI j))] [] h := by
  refine hk_ldx (m := 1) rfl (by decide) hj hL ?_
  refine hk_ldx (m := 2) rfl (by decide) hj hL ?_
  refine hk_Cl_mono ?_ (q_bias h hi)
  rintro r h1 ⟨x, rfl, c⟩
  refine hk_ldx (m := 1) rfl (by decide) hj hL ?_
  refine hk_ldx (m := 2) rfl (by decide) hj hL ?_
  refine hk_Cl_mono ?_ c
  rintro r2 h2 ⟨y, rfl, e, i2⟩
  exact C h2 i2
set_option maxRecDepth 100000 in
theorem l_right (hj : j + 6 ≤ L) (hL : L ≤ 3072) (hi : hk_Inv h) (C : hk_Ct L xs j) : hk_wp 1000 (some (L, xs)) hk_cL hk_KL (n + 60) (hk_sfx 751 hk_cL) [some (.ref 96), some (.ref 0), some (.ref 40), some (.int (nI j))] [] h := by
  refine hk_ldx (m := 1) rfl (by decide) hj hL ?_
  refine hk_ldx (m := 2) rfl (by decide) hj hL ?_
  refine hk_ldx (m := 3) rfl (by decide) hj hL ?_
  refine hk_Cl_mono ?_ (q_right h hi)
  rintro r h1 ⟨x, rfl, c⟩
  refine hk_ldx (m := 1) rfl (by decide) hj hL ?_
  refine hk_ldx (m := 2) rfl (by decide) hj hL ?_
  refine hk_ldx (m := 3) rfl (by decide) hj hL ?_
  refine hk_Cl_mono ?_ c
  rintro r2 h2 ⟨y, rfl, e, i2⟩
  exact C h2 i2
set_option maxRecDepth 100000 in
theorem l_guess (hj : j + 6 ≤ L) (hL : L ≤ 3072) (hi : hk_Inv h) (C : hk_Ct L xs j) : hk_wp 1000 (some (L, xs)) hk_cL hk_KL (n + 60) (hk_sfx 794 hk_cL) [some (.ref 96), some (.ref 0), some (.ref 40), some (.int (nI j))] [] h := by
  refine hk_ldx (m := 1) rfl (by decide) hj hL ?_
  refine hk_ldx (m := 2) rfl (by decide) hj hL ?_
  refine hk_ldx (m := 3) rfl (by decide) hj hL ?_
  refine hk_Cl_mono ?_ (q_guess h hi)
  rintro r h1 ⟨x, rfl, c⟩
  refine hk_ldx (m := 1) rfl (by decide) hj hL ?_
  refine hk_ldx (m := 2) rfl (by decide) hj hL ?_
  refine hk_ldx (m := 3) rfl (by decide) hj hL ?_
  refine hk_Cl_mono ?_ c
  rintro r2 h2 ⟨y, rfl, e, i2⟩
  exact C h2 i2
set_option maxRecDepth 100000 in
theorem l_due (hj : j + 6 ≤ L) (hL : L ≤ 3072) (hi : hk_Inv h) (C : hk_Ct L xs j) : hk_wp 1000 (some (L, xs)) hk_cL hk_KL (n + 60) (hk_sfx 837 hk_cL) [some (.ref 96), some (.ref 0), some (.ref 40), some (.int (nI j))] [] h := by
  refine hk_ldx (m := 1) rfl (by decide) hj hL ?_
  refine hk_ldx (m := 2) rfl (by decide) hj hL ?_
  refine hk_Cl_mono ?_ (q_due h hi)
  rintro r h1 ⟨x, rfl, c⟩
  refine hk_ldx (m := 1) rfl (by decide) hj hL ?_
  refine hk_ldx (m := 2) rfl (by decide) hj hL ?_
  refine hk_Cl_mono ?_ c
  rintro r2 h2 ⟨y, rfl, e, i2⟩
  exact C h2 i2
set_option maxRecDepth 100000 in
theorem l_first (hj : j + 6 ≤ L) (hL : L ≤ 3072) (hi : hk_Inv h) (C : hk_Ct L xs j) : hk_wp 1000 (some (L, xs)) hk_cL hk_KL (n + 60) (hk_sfx 870 hk_cL) [some (.ref 96), some (.ref 0), some (.ref 40), some (.int (nI j))] [] h := by
  refine hk_ldx (m := 1) rfl (by decide) hj hL ?_
  refine hk_ldx (m := 2) rfl (by decide) hj hL ?_
  refine hk_Cl_mono ?_ (q_first h hi)
  rintro r h1 ⟨x, rfl, c⟩
  refine hk_ldx (m := 1) rfl (by decide) hj hL ?_
  refine hk_ldx (m := 2) rfl (by decide) hj hL ?_
  refine hk_Cl_mono ?_ c
  rintro r2 h2 ⟨y, rfl, e, i2⟩
  exact C h2 i2
set_option maxRecDepth 100000 in
theorem l_write (hj : j + 6 ≤ L) (hL : L ≤ 3072) (hi : hk_Inv h) (C : hk_Ct L xs j) : hk_wp 1000 (some (L, xs)) hk_cL hk_KL (n + 60) (hk_sfx 903 hk_cL) [some (.ref 96), some (.ref 0), some (.ref 40), some (.int (nI j))] [] h := by
  refine hk_ldx (m := 1) rfl (by decide) hj hL ?_
  refine hk_ldx (m := 2) rfl (by decide) hj hL ?_
  refine hk_Cl_mono ?_ (q_write h hi)
  rintro r h1 ⟨x, rfl, c⟩
  refine hk_ldx (m := 1) rfl (by decide) hj hL ?_
  refine hk_ldx (m := 2) rfl (by decide) hj hL ?_
  refine hk_Cl_mono ?_ c
  rintro r2 h2 ⟨y, rfl, e, i2⟩
  exact C h2 i2
set_option maxRecDepth 100000 in
theorem l_erase (hj : j + 6 ≤ L) (hL : L ≤ 3072) (hi : hk_Inv h) (C : hk_Ct L xs j) : hk_wp 1000 (some (L, xs)) hk_cL hk_KL (n + 60) (hk_sfx 936 hk_cL) [some (.ref 96), some (.ref 0), some (.ref 40), some (.int (nI j))] [] h := by
  refine hk_ldx (m := 1) rfl (by decide) hj hL ?_
  refine hk_Cl_mono ?_ (q_erase h hi)
  rintro r h1 ⟨x, rfl, c⟩
  refine hk_ldx (m := 1) rfl (by decide) hj hL ?_
  refine hk_Cl_mono ?_ c
  rintro r2 h2 ⟨y, rfl, e, i2⟩
  exact C h2 i2
set_option maxRecDepth 100000 in
theorem l_fault (hj : j + 6 ≤ L) (hL : L ≤ 3072) (hi : hk_Inv h) (C : hk_Ct L xs j) : hk_wp 1000 (some (L, xs)) hk_cL hk_KL (n + 60) (hk_sfx 959 hk_cL) [some (.ref 96), some (.ref 0), some (.ref 40), some (.int (nI j))] [] h := by
  refine hk_ldx (m := 1) rfl (by decide) hj hL ?_
  refine hk_Cl_mono ?_ (q_faultE h hi)
  rintro r h1 ⟨x, rfl, c⟩
  refine hk_ldx (m := 1) rfl (by decide) hj hL ?_
  refine hk_Cl_mono ?_ c
  rintro r2 h2 ⟨y, rfl, e, i2⟩
  exact C h2 i2
set_option maxRecDepth 100000 in
theorem l_tells (hj : j + 6 ≤ L) (hL : L ≤ 3072) (hi : hk_Inv h) (C : hk_Ct L xs j) : hk_wp 1000 (some (L, xs)) hk_cL hk_KL (n + 60) (hk_sfx 982 hk_cL) [some (.ref 96), some (.ref 0), some (.ref 40), some (.int (nI j))] [] h := by
  refine hk_ldx (m := 1) rfl (by decide) hj hL ?_
  refine hk_ldx (m := 2) rfl (by decide) hj hL ?_
  refine hk_Cl_mono ?_ (q_tellsE h hi)
  rintro r h1 ⟨x, rfl, c⟩
  refine hk_ldx (m := 1) rfl (by decide) hj hL ?_
  refine hk_ldx (m := 2) rfl (by decide) hj hL ?_
  refine hk_Cl_mono ?_ c
  rintro r2 h2 ⟨y, rfl, e, i2⟩
  exact C h2 i2
set_option maxRecDepth 100000 in
theorem l_charter (hj : j + 6 ≤ L) (hL : L ≤ 3072) (hi : hk_Inv h) (C : hk_Ct L xs j) : hk_wp 1000 (some (L, xs)) hk_cL hk_KL (n + 60) (hk_sfx 1015 hk_cL) [some (.ref 96), some (.ref 0), some (.ref 40), some (.int (nI j))] [] h := by
  refine hk_ldx (m := 1) rfl (by decide) hj hL ?_
  refine hk_ldx (m := 2) rfl (by decide) hj hL ?_
  refine hk_Cl_mono ?_ (q_charter h hi)
  rintro r h1 ⟨x, rfl, c⟩
  refine hk_ldx (m := 1) rfl (by decide) hj hL ?_
  refine hk_ldx (m := 2) rfl (by decide) hj hL ?_
  refine hk_Cl_mono ?_ c
  rintro r2 h2 ⟨y, rfl, e, i2⟩
  exact C h2 i2
set_option maxRecDepth 100000 in
theorem l_unlike (hj : j + 6 ≤ L) (hL : L ≤ 3072) (hi : hk_Inv h) (C : hk_Ct L xs j) : hk_wp 1000 (some (L, xs)) hk_cL hk_KL (n + 60) (hk_sfx 1048 hk_cL) [some (.ref 96), some (.ref 0), some (.ref 40), some (.int (nI j))] [] h := by
  refine hk_ldx (m := 1) rfl (by decide) hj hL ?_
  refine hk_ldx (m := 2) rfl (by decide) hj hL ?_
  refine hk_ldx (m := 3) rfl (by decide) hj hL ?_
  refine hk_ldx (m := 4) rfl (by decide) hj hL ?_
  refine hk_Cl_mono ?_ (q_unlikeE h hi)
  rintro r h1 ⟨x, rfl, c⟩
  refine hk_ldx (m := 1) rfl (by decide) hj hL ?_
  refine hk_ldx (m := 2) rfl (by decide) hj hL ?_
  refine hk_ldx (m := 3) rfl (by decide) hj hL ?_
  refine hk_ldx (m := 4) rfl (by decide) hj hL ?_
  refine hk_Cl_mono ?_ c
  rintro r2 h2 ⟨y, rfl, e, i2⟩
  exact C h2 i2
set_option maxRecDepth 100000 in
theorem l_hull (hj : j + 6 ≤ L) (hL : L ≤ 3072) (hi : hk_Inv h) (C : hk_Ct L xs j) : hk_wp 1000 (some (L, xs)) hk_cL hk_KL (n + 60) (hk_sfx 1101 hk_cL) [some (.ref 96), some (.ref 0), some (.ref 40), some (.int (nI j))] [] h := by
  refine hk_ldx (m := 1) rfl (by decide) hj hL ?_
  refine hk_ldx (m := 2) rfl (by decide) hj hL ?_
  refine hk_ldx (m := 3) rfl (by decide) hj hL ?_
  refine hk_Cl_mono ?_ (q_hull h hi)
  rintro r h1 ⟨x, rfl, c⟩
  refine hk_ldx (m := 1) rfl (by decide) hj hL ?_
  refine hk_ldx (m := 2) rfl (by decide) hj hL ?_
  refine hk_ldx (m := 3) rfl (by decide) hj hL ?_
  refine hk_Cl_mono ?_ c
  rintro r2 h2 ⟨y, rfl, e, i2⟩
  exact C h2 i2
set_option maxRecDepth 100000 in
theorem l_docks (hj : j + 6 ≤ L) (hL : L ≤ 3072) (hi : hk_Inv h) (C : hk_Ct L xs j) : hk_wp 1000 (some (L, xs)) hk_cL hk_KL (n + 60) (hk_sfx 1144 hk_cL) [some (.ref 96), some (.ref 0), some (.ref 40), some (.int (nI j))] [] h := by
  refine hk_ldx (m := 1) rfl (by decide) hj hL ?_
  refine hk_ldx (m := 2) rfl (by decide) hj hL ?_
  refine hk_Cl_mono ?_ (q_docks h hi)
  rintro r h1 ⟨x, rfl, c⟩
  refine hk_ldx (m := 1) rfl (by decide) hj hL ?_
  refine hk_ldx (m := 2) rfl (by decide) hj hL ?_
  refine hk_Cl_mono ?_ c
  rintro r2 h2 ⟨y, rfl, e, i2⟩
  exact C h2 i2
set_option maxRecDepth 100000 in
theorem l_plan (hj : j + 6 ≤ L) (hL : L ≤ 3072) (hi : hk_Inv h) (C : hk_Ct L xs j) : hk_wp 1000 (some (L, xs)) hk_cL hk_KL (n + 60) (hk_sfx 1177 hk_cL) [some (.ref 96), some (.ref 0), some (.ref 40), some (.int (nI j))] [] h := by
  refine hk_ldx (m := 1) rfl (by decide) hj hL ?_
  refine hk_Cl_mono ?_ (q_plan h hi)
  rintro r h1 ⟨x, rfl, c⟩
  refine hk_ldx (m := 1) rfl (by decide) hj hL ?_
  refine hk_Cl_mono ?_ c
  rintro r2 h2 ⟨y, rfl, e, i2⟩
  exact C h2 i2
set_option maxRecDepth 100000 in
theorem l_clear (hj : j + 6 ≤ L) (hL : L ≤ 3072) (hi : hk_Inv h) (C : hk_Ct L xs j) : hk_wp 1000 (some (L, xs)) hk_cL hk_KL (n + 60) (hk_sfx 1200 hk_cL) [some (.ref 96), some (.ref 0), some (.ref 40), some (.int (nI j))] [] h := by
  refine hk_Cl_mono ?_ (q_clear h hi)
  rintro r h1 ⟨x, rfl, c⟩
  refine hk_Cl_mono ?_ c
  rintro r2 h2 ⟨y, rfl, e, i2⟩
  exact C h2 i2
set_option maxRecDepth 100000 in
theorem l_test (hj : j + 6 ≤ L) (hL : L ≤ 3072) (hi : hk_Inv h) (C : hk_Ct L xs j) : hk_wp 1000 (some (L, xs)) hk_cL hk_KL (n + 60) (hk_sfx 1213 hk_cL) [some (.ref 96), some (.ref 0), some (.ref 40), some (.int (nI j))] [] h := by
  refine hk_ldx (m := 1) rfl (by decide) hj hL ?_
  refine hk_ldx (m := 2) rfl (by decide) hj hL ?_
  refine And.intro (fun hz => ?_) (fun hz => ?_)
  · refine hk_Cl_mono ?_ (q_test (Or.inl rfl) h hi)
    rintro r h1 ⟨x, rfl, c⟩
    refine hk_ldx (m := 1) rfl (by decide) hj hL ?_
    refine hk_ldx (m := 2) rfl (by decide) hj hL ?_
    refine And.intro (fun _ => ?_) (fun hc => absurd hz hc)
    refine hk_Cl_mono ?_ c
    rintro r2 h2 ⟨y, rfl, e, i2⟩
    exact C h2 i2
  · refine hk_Cl_mono ?_ (q_test (Or.inr rfl) h hi)
    rintro r h1 ⟨x, rfl, c⟩
    refine hk_ldx (m := 1) rfl (by decide) hj hL ?_
    refine hk_ldx (m := 2) rfl (by decide) hj hL ?_
    refine And.intro (fun hc => absurd hc hz) (fun _ => ?_)
    refine hk_Cl_mono ?_ c
    rintro r2 h2 ⟨y, rfl, e, i2⟩
    exact C h2 i2
set_option maxRecDepth 100000 in
theorem l_drain (hj : j + 6 ≤ L) (hL : L ≤ 3072) (hi : hk_Inv h) (C : hk_Ct L xs j) : hk_wp 1000 (some (L, xs)) hk_cL hk_KL (n + 60) (hk_sfx 1262 hk_cL) [some (.ref 96), some (.ref 0), some (.ref 40), some (.int (nI j))] [] h := by
  refine hk_Cl_mono ?_ (q_drain h hi)
  rintro r h1 ⟨x, rfl, c⟩
  refine hk_Cl_mono ?_ c
  rintro r2 h2 ⟨y, rfl, e, i2⟩
  exact C h2 i2
set_option maxRecDepth 100000 in
theorem l_leaks (hj : j + 6 ≤ L) (hL : L ≤ 3072) (hi : hk_Inv h) (C : hk_Ct L xs j) : hk_wp 1000 (some (L, xs)) hk_cL hk_KL (n + 60) (hk_sfx 1275 hk_cL) [some (.ref 96), some (.ref 0), some (.ref 40), some (.int (nI j))] [] h := by
  refine hk_ldx (m := 1) rfl (by decide) hj hL ?_
  refine hk_Cl_mono ?_ (q_leaksE h hi)
  rintro r h1 ⟨x, rfl, c⟩
  refine hk_ldx (m := 1) rfl (by decide) hj hL ?_
  refine hk_Cl_mono ?_ c
  rintro r2 h2 ⟨y, rfl, e, i2⟩
  exact C h2 i2
set_option maxRecDepth 100000 in
theorem l_wave (hj : j + 6 ≤ L) (hL : L ≤ 3072) (hi : hk_Inv h) (C : hk_Ct L xs j) : hk_wp 1000 (some (L, xs)) hk_cL hk_KL (n + 60) (hk_sfx 1298 hk_cL) [some (.ref 96), some (.ref 0), some (.ref 40), some (.int (nI j))] [] h := by
  refine hk_ldx (m := 1) rfl (by decide) hj hL ?_
  refine hk_ldx (m := 2) rfl (by decide) hj hL ?_
  refine hk_Cl_mono ?_ (q_wave h hi)
  rintro r h1 ⟨x, rfl, c⟩
  refine hk_ldx (m := 1) rfl (by decide) hj hL ?_
  refine hk_ldx (m := 2) rfl (by decide) hj hL ?_
  refine hk_Cl_mono ?_ c
  rintro r2 h2 ⟨y, rfl, e, i2⟩
  exact C h2 i2
set_option maxRecDepth 100000 in
theorem l_tow (hj : j + 6 ≤ L) (hL : L ≤ 3072) (hi : hk_Inv h) (C : hk_Ct L xs j) : hk_wp 1000 (some (L, xs)) hk_cL hk_KL (n + 60) (hk_sfx 1331 hk_cL) [some (.ref 96), some (.ref 0), some (.ref 40), some (.int (nI j))] [] h := by
  refine hk_ldx (m := 1) rfl (by decide) hj hL ?_
  refine hk_ldx (m := 2) rfl (by decide) hj hL ?_
  refine hk_ldx (m := 3) rfl (by decide) hj hL ?_
  refine hk_Cl_mono ?_ (q_tow h hi)
  rintro r h1 ⟨x, rfl, c⟩
  refine hk_ldx (m := 1) rfl (by decide) hj hL ?_
  refine hk_ldx (m := 2) rfl (by decide) hj hL ?_
  refine hk_ldx (m := 3) rfl (by decide) hj hL ?_
  refine hk_Cl_mono ?_ c
  rintro r2 h2 ⟨y, rfl, e, i2⟩
  exact C h2 i2
set_option maxRecDepth 100000 in
theorem l_hand (hj : j + 6 ≤ L) (hL : L ≤ 3072) (hi : hk_Inv h) (C : hk_Ct L xs j) : hk_wp 1000 (some (L, xs)) hk_cL hk_KL (n + 60) (hk_sfx 1374 hk_cL) [some (.ref 96), some (.ref 0), some (.ref 40), some (.int (nI j))] [] h := by
  refine hk_ldx (m := 1) rfl (by decide) hj hL ?_
  refine hk_ldx (m := 2) rfl (by decide) hj hL ?_
  refine hk_Cl_mono ?_ (q_hand h hi)
  rintro r h1 ⟨x, rfl, c⟩
  refine hk_ldx (m := 1) rfl (by decide) hj hL ?_
  refine hk_ldx (m := 2) rfl (by decide) hj hL ?_
  refine hk_Cl_mono ?_ c
  rintro r2 h2 ⟨y, rfl, e, i2⟩
  exact C h2 i2
set_option maxRecDepth 100000 in
theorem l_work (hj : j + 6 ≤ L) (hL : L ≤ 3072) (hi : hk_Inv h) (C : hk_Ct L xs j) : hk_wp 1000 (some (L, xs)) hk_cL hk_KL (n + 60) (hk_sfx 1407 hk_cL) [some (.ref 96), some (.ref 0), some (.ref 40), some (.int (nI j))] [] h := by
  refine hk_ldx (m := 1) rfl (by decide) hj hL ?_
  refine hk_ldx (m := 2) rfl (by decide) hj hL ?_
  refine hk_ldx (m := 3) rfl (by decide) hj hL ?_
  refine hk_Cl_mono ?_ (q_work h hi)
  rintro r h1 ⟨x, rfl, c⟩
  refine hk_ldx (m := 1) rfl (by decide) hj hL ?_
  refine hk_ldx (m := 2) rfl (by decide) hj hL ?_
  refine hk_ldx (m := 3) rfl (by decide) hj hL ?_
  refine hk_Cl_mono ?_ c
  rintro r2 h2 ⟨y, rfl, e, i2⟩
  exact C h2 i2
set_option maxRecDepth 100000 in
theorem l_done (hj : j + 6 ≤ L) (hL : L ≤ 3072) (hi : hk_Inv h) (C : hk_Ct L xs j) : hk_wp 1000 (some (L, xs)) hk_cL hk_KL (n + 60) (hk_sfx 1450 hk_cL) [some (.ref 96), some (.ref 0), some (.ref 40), some (.int (nI j))] [] h := by
  refine hk_ldx (m := 1) rfl (by decide) hj hL ?_
  refine hk_Cl_mono ?_ (q_doneE h hi)
  rintro r h1 ⟨x, rfl, c⟩
  refine hk_ldx (m := 1) rfl (by decide) hj hL ?_
  refine hk_Cl_mono ?_ c
  rintro r2 h2 ⟨y, rfl, e, i2⟩
  exact C h2 i2
set_option maxRecDepth 100000 in
theorem l_worst (hj : j + 6 ≤ L) (hL : L ≤ 3072) (hi : hk_Inv h) (C : hk_Ct L xs j) : hk_wp 1000 (some (L, xs)) hk_cL hk_KL (n + 60) (hk_sfx 1473 hk_cL) [some (.ref 96), some (.ref 0), some (.ref 40), some (.int (nI j))] [] h := by
  refine hk_ldx (m := 1) rfl (by decide) hj hL ?_
  refine hk_ldx (m := 2) rfl (by decide) hj hL ?_
  refine hk_ldx (m := 3) rfl (by decide) hj hL ?_
  refine hk_Cl_mono ?_ (q_worstE h hi)
  rintro r h1 ⟨x, rfl, c⟩
  refine hk_ldx (m := 1) rfl (by decide) hj hL ?_
  refine hk_ldx (m := 2) rfl (by decide) hj hL ?_
  refine hk_ldx (m := 3) rfl (by decide) hj hL ?_
  refine hk_Cl_mono ?_ c
  rintro r2 h2 ⟨y, rfl, e, i2⟩
  exact C h2 i2
set_option maxRecDepth 100000 in
theorem l_image (hj : j + 6 ≤ L) (hL : L ≤ 3072) (hi : hk_Inv h) (C : hk_Ct L xs j) : hk_wp 1000 (some (L, xs)) hk_cL hk_KL (n + 60) (hk_sfx 1516 hk_cL) [some (.ref 96), some (.ref 0), some (.ref 40), some (.int (nI j))] [] h := by
  refine hk_ldx (m := 1) rfl (by decide) hj hL ?_
  refine hk_Cl_mono ?_ (q_image h hi)
  rintro r h1 ⟨x, rfl, c⟩
  refine hk_ldx (m := 1) rfl (by decide) hj hL ?_
  refine hk_Cl_mono ?_ c
  rintro r2 h2 ⟨y, rfl, e, i2⟩
  exact C h2 i2
set_option maxRecDepth 100000 in
theorem l_from (hj : j + 6 ≤ L) (hL : L ≤ 3072) (hi : hk_Inv h) (C : hk_Ct L xs j) : hk_wp 1000 (some (L, xs)) hk_cL hk_KL (n + 60) (hk_sfx 1539 hk_cL) [some (.ref 96), some (.ref 0), some (.ref 40), some (.int (nI j))] [] h := by
  refine hk_ldx (m := 1) rfl (by decide) hj hL ?_
  refine hk_Cl_mono ?_ (q_from h hi)
  rintro r h1 ⟨x, rfl, c⟩
  refine hk_ldx (m := 1) rfl (by decide) hj hL ?_
  refine hk_Cl_mono ?_ c
  rintro r2 h2 ⟨y, rfl, e, i2⟩
  have e := e trivial
  subst e
  refine And.intro (fun _ => ?_) (fun hc => absurd rfl hc)
  exact C h2 i2
set_option maxRecDepth 100000 in
theorem l_count (hj : j + 6 ≤ L) (hL : L ≤ 3072) (hi : hk_Inv h) (C : hk_Ct L xs j) : hk_wp 1000 (some (L, xs)) hk_cL hk_KL (n + 60) (hk_sfx 1562 hk_cL) [some (.ref 96), some (.ref 0), some (.ref 40), some (.int (nI j))] [] h := by
  refine hk_ldx (m := 1) rfl (by decide) hj hL ?_
  refine hk_Cl_mono ?_ (q_count h hi)
  rintro r h1 ⟨x, rfl, c⟩
  refine hk_ldx (m := 1) rfl (by decide) hj hL ?_
  refine hk_Cl_mono ?_ c
  rintro r2 h2 ⟨y, rfl, e, i2⟩
  exact C h2 i2
set_option maxRecDepth 100000 in
theorem l_digest (hj : j + 6 ≤ L) (hL : L ≤ 3072) (hi : hk_Inv h) (C : hk_Ct L xs j) : hk_wp 1000 (some (L, xs)) hk_cL hk_KL (n + 60) (hk_sfx 1585 hk_cL) [some (.ref 96), some (.ref 0), some (.ref 40), some (.int (nI j))] [] h := by
  refine hk_Cl_mono ?_ (q_digest h hi)
  rintro r h1 ⟨x, rfl, c⟩
  refine hk_Cl_mono ?_ c
  rintro r2 h2 ⟨y, rfl, e, i2⟩
  exact C h2 i2
set_option maxRecDepth 100000 in
theorem hk_lstep (hj : j + 6 ≤ L) (hL : L ≤ 3072) (hi : hk_Inv h) (C : hk_Ct L xs j) : hk_Rn 1000 (some (L, xs)) hk_cL (hk_sfx 18 hk_cL) [some (.ref 96), some (.ref 0), some (.ref 40), some (.int (nI j))] [] h hk_KL := by
  refine hk_hd (n := 1000) (t := 18) rfl ?_
  refine And.intro (fun hc => absurd hc (fun q => absurd ((hk_jL hL (by omega)).mp q) (by omega))) (fun _ => ?_)
  refine And.intro (vp_in_nI (by omega) (by omega)) ?_
  refine And.intro (fun _ => l_ship hj hL hi C) (fun _ => ?_)
  refine And.intro (fun _ => l_plate hj hL hi C) (fun _ => ?_)
  refine And.intro (fun _ => l_lay hj hL hi C) (fun _ => ?_)
  refine And.intro (fun _ => l_wear hj hL hi C) (fun _ => ?_)
  refine And.intro (fun _ => l_bound hj hL hi C) (fun _ => ?_)
  refine And.intro (fun _ => l_wire hj hL hi C) (fun _ => ?_)
  refine And.intro (fun _ => l_crowd hj hL hi C) (fun _ => ?_)
  refine And.intro (fun _ => l_storm hj hL hi C) (fun _ => ?_)
  refine And.intro (fun _ => l_months hj hL hi C) (fun _ => ?_)
  refine And.intro (fun _ => l_about hj hL hi C) (fun _ => ?_)
  refine And.intro (fun _ => l_plateAt hj hL hi C) (fun _ => ?_)
  refine And.intro (fun _ => l_replace hj hL hi C) (fun _ => ?_)
  refine And.intro (fun _ => l_move hj hL hi C) (fun _ => ?_)
  refine And.intro (fun _ => l_reading hj hL hi C) (fun _ => ?_)
  refine And.intro (fun _ => l_bias hj hL hi C) (fun _ => ?_)
  refine And.intro (fun _ => l_right hj hL hi C) (fun _ => ?_)
  refine And.intro (fun _ => l_guess hj hL hi C) (fun _ => ?_)
  refine And.intro (fun _ => l_due hj hL hi C) (fun _ => ?_)
  refine And.intro (fun _ => l_first hj hL hi C) (fun _ => ?_)
  refine And.intro (fun _ => l_write hj hL hi C) (fun _ => ?_)
  refine And.intro (fun _ => l_erase hj hL hi C) (fun _ => ?_)
  refine And.intro (fun _ => l_fault hj hL hi C) (fun _ => ?_)
  refine And.intro (fun _ => l_tells hj hL hi C) (fun _ => ?_)
  refine And.intro (fun _ => l_charter hj hL hi C) (fun _ => ?_)
  refine And.intro (fun _ => l_unlike hj hL hi C) (fun _ => ?_)
  refine And.intro (fun _ => l_hull hj hL hi C) (fun _ => ?_)
  refine And.intro (fun _ => l_docks hj hL hi C) (fun _ => ?_)
  refine And.intro (fun _ => l_plan hj hL hi C) (fun _ => ?_)
  refine And.intro (fun _ => l_clear hj hL hi C) (fun _ => ?_)
  refine And.intro (fun _ => l_test hj hL hi C) (fun _ => ?_)
  refine And.intro (fun _ => l_drain hj hL hi C) (fun _ => ?_)
  refine And.intro (fun _ => l_leaks hj hL hi C) (fun _ => ?_)
  refine And.intro (fun _ => l_wave hj hL hi C) (fun _ => ?_)
  refine And.intro (fun _ => l_tow hj hL hi C) (fun _ => ?_)
  refine And.intro (fun _ => l_hand hj hL hi C) (fun _ => ?_)
  refine And.intro (fun _ => l_work hj hL hi C) (fun _ => ?_)
  refine And.intro (fun _ => l_done hj hL hi C) (fun _ => ?_)
  refine And.intro (fun _ => l_worst hj hL hi C) (fun _ => ?_)
  refine And.intro (fun _ => l_image hj hL hi C) (fun _ => ?_)
  refine And.intro (fun _ => l_from hj hL hi C) (fun _ => ?_)
  refine And.intro (fun _ => l_count hj hL hi C) (fun _ => ?_)
  refine And.intro (fun _ => l_digest hj hL hi C) (fun _ => ?_)
  exact C h hi
theorem hk_loop (hL : L ≤ 3072) : ∀ (n j : Nat) (h : hk_H), L < j + 6 * n + 6 → j ≤ 3078 → hk_Inv h → hk_Rn 1000 (some (L, xs)) hk_cL (hk_sfx 18 hk_cL) [some (.ref 96), some (.ref 0), some (.ref 40), some (.int (nI j))] [] h hk_KL
  | 0, j, h, hn, hj, hi => hk_lend hL hj (by omega) hi
  | n + 1, j, h, hn, hj, hi => by
    by_cases hlt : L < j + 6
    · exact hk_lend hL hj hlt hi
    · refine hk_lstep (by omega) hL hi (fun h2 i2 => ?_)
      have := hk_loop hL n (j + 6) h2 (by omega) (by omega) i2
      rw [show nI j + 6 = nI (j + 6) from nI_add j 6]
      exact this
theorem hk_pN {L : Nat} (hL : L ≤ 3072) : hk_Law L xs := hk_begin (hk_loop hL 512 0 _ (by omega) (by omega) hk_Inv0)
end HKW
