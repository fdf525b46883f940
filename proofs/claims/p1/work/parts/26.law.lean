/-! ===== the law's loop: one call ===== -/
section HKW
variable {xs : Nat → Int32}
theorem hk_ldx {d n j : Nat} {cd cs : List hk_E} {L2 : hk_L} {st : List Value} {k : Option Value → hk_H → Prop} {h : hk_H} {i : Int32} (e : i = nI j) (hj : j < 6) (w : hk_wp d (some (6, xs)) cd k n cs L2 (.int (xs j) :: st) h) : vp_in i 6 ∧ hk_wp d (some (6, xs)) cd k n cs L2 (.int (xs i.toNatClampNeg) :: st) h := by
  subst e
  rw [nI_clamp (by omega)]
  exact ⟨vp_in_nI hj (by omega), w⟩
set_option maxRecDepth 100000 in
theorem hk_end {h : hk_H} (hr : hk_rmo h.2.2.2) : hk_Rn 1000 (some (6, xs)) hk_cL (hk_sfx 18 hk_cL) [some (.ref 96), some (.ref 0), some (.ref 40), some (.int 6)] [] h hk_KL := by
  refine hk_hd (n := 1000) (t := 18) rfl ?_
  refine And.intro (fun _ => ?_) (fun hc => absurd (show Int32.ofNat 6 - 6 < 6 by decide) hc)
  exact ⟨Or.inr rfl, rfl, hr.1, hr.2⟩

theorem hk_lcmp (x : Int64) : lg_cmp x x = 0 := by
  unfold lg_cmp
  rw [if_neg Int64.lt_irrefl, if_pos rfl]

set_option maxRecDepth 100000 in
theorem l_ship {n : Nat} : hk_wp 1000 (some (6, xs)) hk_cL hk_KL (n + 60) (hk_sfx 216 hk_cL) [some (.ref 96), some (.ref 0), some (.ref 40), some (.int 0)] [] hk_FH := by
  refine hk_ldx (j := 1) rfl (by decide) ?_
  refine hk_ldx (j := 2) rfl (by decide) ?_
  refine hk_ldx (j := 3) rfl (by decide) ?_
  refine hk_ldx (j := 4) rfl (by decide) ?_
  refine hk_Cl_mono ?_ p_ship
  rintro r h ⟨x, rfl, c⟩
  refine hk_ldx (j := 1) rfl (by decide) ?_
  refine hk_ldx (j := 2) rfl (by decide) ?_
  refine hk_ldx (j := 3) rfl (by decide) ?_
  refine hk_ldx (j := 4) rfl (by decide) ?_
  refine hk_Cl_mono ?_ c
  rintro r2 h2 ⟨rfl, rm⟩
  refine And.intro (fun _ => ?_) (fun hc => absurd rfl hc)
  exact hk_end rm
set_option maxRecDepth 100000 in
theorem l_plate {n : Nat} : hk_wp 1000 (some (6, xs)) hk_cL hk_KL (n + 60) (hk_sfx 269 hk_cL) [some (.ref 96), some (.ref 0), some (.ref 40), some (.int 0)] [] hk_FH := by
  refine hk_ldx (j := 1) rfl (by decide) ?_
  refine hk_ldx (j := 2) rfl (by decide) ?_
  refine hk_ldx (j := 3) rfl (by decide) ?_
  refine hk_ldx (j := 4) rfl (by decide) ?_
  refine hk_ldx (j := 5) rfl (by decide) ?_
  refine hk_Cl_mono ?_ p_plate
  rintro r h ⟨x, rfl, c⟩
  refine hk_ldx (j := 1) rfl (by decide) ?_
  refine hk_ldx (j := 2) rfl (by decide) ?_
  refine hk_ldx (j := 3) rfl (by decide) ?_
  refine hk_ldx (j := 4) rfl (by decide) ?_
  refine hk_ldx (j := 5) rfl (by decide) ?_
  refine hk_Cl_mono ?_ c
  rintro r2 h2 ⟨rfl, rm⟩
  refine And.intro (fun _ => ?_) (fun hc => absurd rfl hc)
  exact hk_end rm
set_option maxRecDepth 100000 in
theorem l_lay {n : Nat} : hk_wp 1000 (some (6, xs)) hk_cL hk_KL (n + 60) (hk_sfx 332 hk_cL) [some (.ref 96), some (.ref 0), some (.ref 40), some (.int 0)] [] hk_FH := by
  refine hk_ldx (j := 1) rfl (by decide) ?_
  refine hk_Cl_mono ?_ p_lay
  rintro r h ⟨x, rfl, c⟩
  refine hk_ldx (j := 1) rfl (by decide) ?_
  refine hk_Cl_mono ?_ c
  rintro r2 h2 ⟨rfl, rm⟩
  refine And.intro (fun _ => ?_) (fun hc => absurd rfl hc)
  exact hk_end rm
set_option maxRecDepth 100000 in
theorem l_wear {n : Nat} : hk_wp 1000 (some (6, xs)) hk_cL hk_KL (n + 60) (hk_sfx 355 hk_cL) [some (.ref 96), some (.ref 0), some (.ref 40), some (.int 0)] [] hk_FH := by
  refine hk_ldx (j := 1) rfl (by decide) ?_
  refine hk_ldx (j := 2) rfl (by decide) ?_
  refine hk_Cl_mono ?_ p_wear
  rintro r h ⟨x, rfl, c⟩
  refine hk_ldx (j := 1) rfl (by decide) ?_
  refine hk_ldx (j := 2) rfl (by decide) ?_
  refine hk_Cl_mono ?_ c
  rintro r2 h2 ⟨rfl, rm⟩
  refine And.intro (fun _ => ?_) (fun hc => absurd rfl hc)
  exact hk_end rm
set_option maxRecDepth 100000 in
theorem l_bound {n : Nat} : hk_wp 1000 (some (6, xs)) hk_cL hk_KL (n + 60) (hk_sfx 388 hk_cL) [some (.ref 96), some (.ref 0), some (.ref 40), some (.int 0)] [] hk_FH := by
  refine hk_ldx (j := 1) rfl (by decide) ?_
  refine hk_Cl_mono ?_ p_bound
  rintro r h ⟨x, rfl, c⟩
  refine hk_ldx (j := 1) rfl (by decide) ?_
  refine hk_Cl_mono ?_ c
  rintro r2 h2 ⟨rfl, rm⟩
  refine And.intro (fun _ => ?_) (fun hc => absurd rfl hc)
  exact hk_end rm
set_option maxRecDepth 100000 in
theorem l_wire {n : Nat} : hk_wp 1000 (some (6, xs)) hk_cL hk_KL (n + 60) (hk_sfx 411 hk_cL) [some (.ref 96), some (.ref 0), some (.ref 40), some (.int 0)] [] hk_FH := by
  refine hk_ldx (j := 1) rfl (by decide) ?_
  refine hk_Cl_mono ?_ p_wire
  rintro r h ⟨x, rfl, c⟩
  refine hk_ldx (j := 1) rfl (by decide) ?_
  refine hk_Cl_mono ?_ c
  rintro r2 h2 ⟨rfl, rm⟩
  refine And.intro (fun _ => ?_) (fun hc => absurd rfl hc)
  exact hk_end rm
set_option maxRecDepth 100000 in
theorem l_crowd {n : Nat} : hk_wp 1000 (some (6, xs)) hk_cL hk_KL (n + 60) (hk_sfx 434 hk_cL) [some (.ref 96), some (.ref 0), some (.ref 40), some (.int 0)] [] hk_FH := by
  refine hk_ldx (j := 1) rfl (by decide) ?_
  refine hk_ldx (j := 2) rfl (by decide) ?_
  refine hk_Cl_mono ?_ p_crowd
  rintro r h ⟨x, rfl, c⟩
  refine hk_ldx (j := 1) rfl (by decide) ?_
  refine hk_ldx (j := 2) rfl (by decide) ?_
  refine hk_Cl_mono ?_ c
  rintro r2 h2 ⟨rfl, rm⟩
  refine And.intro (fun _ => ?_) (fun hc => absurd rfl hc)
  exact hk_end rm
set_option maxRecDepth 100000 in
theorem l_storm {n : Nat} : hk_wp 1000 (some (6, xs)) hk_cL hk_KL (n + 60) (hk_sfx 467 hk_cL) [some (.ref 96), some (.ref 0), some (.ref 40), some (.int 0)] [] hk_FH := by
  refine hk_ldx (j := 1) rfl (by decide) ?_
  refine hk_ldx (j := 2) rfl (by decide) ?_
  refine hk_Cl_mono ?_ p_storm
  rintro r h ⟨x, rfl, c⟩
  refine hk_ldx (j := 1) rfl (by decide) ?_
  refine hk_ldx (j := 2) rfl (by decide) ?_
  refine hk_Cl_mono ?_ c
  rintro r2 h2 ⟨rfl, rm⟩
  refine And.intro (fun _ => ?_) (fun hc => absurd rfl hc)
  exact hk_end rm
set_option maxRecDepth 100000 in
theorem l_months {n : Nat} : hk_wp 1000 (some (6, xs)) hk_cL hk_KL (n + 60) (hk_sfx 500 hk_cL) [some (.ref 96), some (.ref 0), some (.ref 40), some (.int 0)] [] hk_FH := by
  refine hk_ldx (j := 1) rfl (by decide) ?_
  refine hk_Cl_mono ?_ p_months
  rintro r h ⟨x, rfl, c⟩
  refine hk_ldx (j := 1) rfl (by decide) ?_
  refine hk_Cl_mono ?_ c
  rintro r2 h2 ⟨rfl, rm⟩
  refine And.intro (fun _ => ?_) (fun hc => absurd rfl hc)
  exact hk_end rm
set_option maxRecDepth 100000 in
theorem l_about {n : Nat} : hk_wp 1000 (some (6, xs)) hk_cL hk_KL (n + 60) (hk_sfx 523 hk_cL) [some (.ref 96), some (.ref 0), some (.ref 40), some (.int 0)] [] hk_FH := by
  refine hk_ldx (j := 1) rfl (by decide) ?_
  refine hk_ldx (j := 2) rfl (by decide) ?_
  refine hk_Cl_mono ?_ p_about
  rintro r h ⟨x, rfl, c⟩
  refine hk_ldx (j := 1) rfl (by decide) ?_
  refine hk_ldx (j := 2) rfl (by decide) ?_
  refine hk_Cl_mono ?_ c
  rintro r2 h2 ⟨rfl, rm⟩
  refine And.intro (fun _ => ?_) (fun hc => absurd rfl hc)
  exact hk_end rm
set_option maxRecDepth 100000 in
theorem l_plateAt {n : Nat} : hk_wp 1000 (some (6, xs)) hk_cL hk_KL (n + 60) (hk_sfx 556 hk_cL) [some (.ref 96), some (.ref 0), some (.ref 40), some (.int 0)] [] hk_FH := by
  refine hk_ldx (j := 1) rfl (by decide) ?_
  refine hk_ldx (j := 2) rfl (by decide) ?_
  refine hk_Cl_mono ?_ p_plateAt
  rintro r h ⟨x, rfl, c⟩
  refine hk_ldx (j := 1) rfl (by decide) ?_
  refine hk_ldx (j := 2) rfl (by decide) ?_
  refine hk_Cl_mono ?_ c
  rintro r2 h2 ⟨rfl, rm⟩
  refine And.intro (fun _ => ?_) (fun hc => absurd rfl hc)
  exact hk_end rm
set_option maxRecDepth 100000 in
theorem l_replace {n : Nat} : hk_wp 1000 (some (6, xs)) hk_cL hk_KL (n + 60) (hk_sfx 589 hk_cL) [some (.ref 96), some (.ref 0), some (.ref 40), some (.int 0)] [] hk_FH := by
  refine hk_ldx (j := 1) rfl (by decide) ?_
  refine hk_ldx (j := 2) rfl (by decide) ?_
  refine hk_Cl_mono ?_ p_replace
  rintro r h ⟨x, rfl, c⟩
  refine hk_ldx (j := 1) rfl (by decide) ?_
  refine hk_ldx (j := 2) rfl (by decide) ?_
  refine hk_Cl_mono ?_ c
  rintro r2 h2 ⟨rfl, rm⟩
  refine And.intro (fun _ => ?_) (fun hc => absurd rfl hc)
  exact hk_end rm
set_option maxRecDepth 100000 in
theorem l_move {n : Nat} : hk_wp 1000 (some (6, xs)) hk_cL hk_KL (n + 60) (hk_sfx 622 hk_cL) [some (.ref 96), some (.ref 0), some (.ref 40), some (.int 0)] [] hk_FH := by
  refine hk_ldx (j := 1) rfl (by decide) ?_
  refine hk_ldx (j := 2) rfl (by decide) ?_
  refine hk_Cl_mono ?_ p_move
  rintro r h ⟨x, rfl, c⟩
  refine hk_ldx (j := 1) rfl (by decide) ?_
  refine hk_ldx (j := 2) rfl (by decide) ?_
  refine hk_Cl_mono ?_ c
  rintro r2 h2 ⟨rfl, rm⟩
  refine And.intro (fun _ => ?_) (fun hc => absurd rfl hc)
  exact hk_end rm
set_option maxRecDepth 100000 in
theorem l_reading {n : Nat} : hk_wp 1000 (some (6, xs)) hk_cL hk_KL (n + 60) (hk_sfx 655 hk_cL) [some (.ref 96), some (.ref 0), some (.ref 40), some (.int 0)] [] hk_FH := by
  refine hk_ldx (j := 1) rfl (by decide) ?_
  refine hk_ldx (j := 2) rfl (by decide) ?_
  refine hk_ldx (j := 3) rfl (by decide) ?_
  refine hk_ldx (j := 4) rfl (by decide) ?_
  refine hk_ldx (j := 5) rfl (by decide) ?_
  refine hk_Cl_mono ?_ p_reading
  rintro r h ⟨x, rfl, c⟩
  refine hk_ldx (j := 1) rfl (by decide) ?_
  refine hk_ldx (j := 2) rfl (by decide) ?_
  refine hk_ldx (j := 3) rfl (by decide) ?_
  refine hk_ldx (j := 4) rfl (by decide) ?_
  refine hk_ldx (j := 5) rfl (by decide) ?_
  refine hk_Cl_mono ?_ c
  rintro r2 h2 ⟨rfl, rm⟩
  refine And.intro (fun _ => ?_) (fun hc => absurd rfl hc)
  exact hk_end rm
set_option maxRecDepth 100000 in
theorem l_bias {n : Nat} : hk_wp 1000 (some (6, xs)) hk_cL hk_KL (n + 60) (hk_sfx 718 hk_cL) [some (.ref 96), some (.ref 0), some (.ref 40), some (.int 0)] [] hk_FH := by
  refine hk_ldx (j := 1) rfl (by decide) ?_
  refine hk_ldx (j := 2) rfl (by decide) ?_
  refine hk_Cl_mono ?_ p_bias
  rintro r h ⟨x, rfl, c⟩
  refine hk_ldx (j := 1) rfl (by decide) ?_
  refine hk_ldx (j := 2) rfl (by decide) ?_
  refine hk_Cl_mono ?_ c
  rintro r2 h2 ⟨rfl, rm⟩
  refine And.intro (fun _ => ?_) (fun hc => absurd rfl hc)
  exact hk_end rm
set_option maxRecDepth 100000 in
theorem l_right {n : Nat} : hk_wp 1000 (some (6, xs)) hk_cL hk_KL (n + 60) (hk_sfx 751 hk_cL) [some (.ref 96), some (.ref 0), some (.ref 40), some (.int 0)] [] hk_FH := by
  refine hk_ldx (j := 1) rfl (by decide) ?_
  refine hk_ldx (j := 2) rfl (by decide) ?_
  refine hk_ldx (j := 3) rfl (by decide) ?_
  refine hk_Cl_mono ?_ p_right
  rintro r h ⟨x, rfl, c⟩
  refine hk_ldx (j := 1) rfl (by decide) ?_
  refine hk_ldx (j := 2) rfl (by decide) ?_
  refine hk_ldx (j := 3) rfl (by decide) ?_
  refine hk_Cl_mono ?_ c
  rintro r2 h2 ⟨rfl, rm⟩
  refine And.intro (fun _ => ?_) (fun hc => absurd rfl hc)
  exact hk_end rm
set_option maxRecDepth 100000 in
theorem l_guess {n : Nat} : hk_wp 1000 (some (6, xs)) hk_cL hk_KL (n + 60) (hk_sfx 794 hk_cL) [some (.ref 96), some (.ref 0), some (.ref 40), some (.int 0)] [] hk_FH := by
  refine hk_ldx (j := 1) rfl (by decide) ?_
  refine hk_ldx (j := 2) rfl (by decide) ?_
  refine hk_ldx (j := 3) rfl (by decide) ?_
  refine hk_Cl_mono ?_ p_guess
  rintro r h ⟨x, rfl, c⟩
  refine hk_ldx (j := 1) rfl (by decide) ?_
  refine hk_ldx (j := 2) rfl (by decide) ?_
  refine hk_ldx (j := 3) rfl (by decide) ?_
  refine hk_Cl_mono ?_ c
  rintro r2 h2 ⟨rfl, rm⟩
  refine And.intro (fun _ => ?_) (fun hc => absurd rfl hc)
  exact hk_end rm
set_option maxRecDepth 100000 in
theorem l_due {n : Nat} : hk_wp 1000 (some (6, xs)) hk_cL hk_KL (n + 60) (hk_sfx 837 hk_cL) [some (.ref 96), some (.ref 0), some (.ref 40), some (.int 0)] [] hk_FH := by
  refine hk_ldx (j := 1) rfl (by decide) ?_
  refine hk_ldx (j := 2) rfl (by decide) ?_
  refine hk_Cl_mono ?_ p_due
  rintro r h ⟨x, rfl, c⟩
  refine hk_ldx (j := 1) rfl (by decide) ?_
  refine hk_ldx (j := 2) rfl (by decide) ?_
  refine hk_Cl_mono ?_ c
  rintro r2 h2 ⟨rfl, rm⟩
  refine And.intro (fun _ => ?_) (fun hc => absurd rfl hc)
  exact hk_end rm
set_option maxRecDepth 100000 in
theorem l_first {n : Nat} : hk_wp 1000 (some (6, xs)) hk_cL hk_KL (n + 60) (hk_sfx 870 hk_cL) [some (.ref 96), some (.ref 0), some (.ref 40), some (.int 0)] [] hk_FH := by
  refine hk_ldx (j := 1) rfl (by decide) ?_
  refine hk_ldx (j := 2) rfl (by decide) ?_
  refine hk_Cl_mono ?_ p_first
  rintro r h ⟨x, rfl, c⟩
  refine hk_ldx (j := 1) rfl (by decide) ?_
  refine hk_ldx (j := 2) rfl (by decide) ?_
  refine hk_Cl_mono ?_ c
  rintro r2 h2 ⟨rfl, rm⟩
  refine And.intro (fun _ => ?_) (fun hc => absurd rfl hc)
  exact hk_end rm
set_option maxRecDepth 100000 in
theorem l_write {n : Nat} : hk_wp 1000 (some (6, xs)) hk_cL hk_KL (n + 60) (hk_sfx 903 hk_cL) [some (.ref 96), some (.ref 0), some (.ref 40), some (.int 0)] [] hk_FH := by
  refine hk_ldx (j := 1) rfl (by decide) ?_
  refine hk_ldx (j := 2) rfl (by decide) ?_
  refine hk_Cl_mono ?_ p_write
  rintro r h ⟨x, rfl, c⟩
  refine hk_ldx (j := 1) rfl (by decide) ?_
  refine hk_ldx (j := 2) rfl (by decide) ?_
  refine hk_Cl_mono ?_ c
  rintro r2 h2 ⟨rfl, rm⟩
  refine And.intro (fun _ => ?_) (fun hc => absurd rfl hc)
  exact hk_end rm
set_option maxRecDepth 100000 in
theorem l_erase {n : Nat} : hk_wp 1000 (some (6, xs)) hk_cL hk_KL (n + 60) (hk_sfx 936 hk_cL) [some (.ref 96), some (.ref 0), some (.ref 40), some (.int 0)] [] hk_FH := by
  refine hk_ldx (j := 1) rfl (by decide) ?_
  refine hk_Cl_mono ?_ p_erase
  rintro r h ⟨x, rfl, c⟩
  refine hk_ldx (j := 1) rfl (by decide) ?_
  refine hk_Cl_mono ?_ c
  rintro r2 h2 ⟨rfl, rm⟩
  refine And.intro (fun _ => ?_) (fun hc => absurd rfl hc)
  exact hk_end rm
set_option maxRecDepth 100000 in
theorem l_fault {n : Nat} : hk_wp 1000 (some (6, xs)) hk_cL hk_KL (n + 60) (hk_sfx 959 hk_cL) [some (.ref 96), some (.ref 0), some (.ref 40), some (.int 0)] [] hk_FH := by
  refine hk_ldx (j := 1) rfl (by decide) ?_
  refine hk_Cl_mono ?_ p_fault
  rintro r h ⟨x, rfl, c⟩
  refine hk_ldx (j := 1) rfl (by decide) ?_
  refine hk_Cl_mono ?_ c
  rintro r2 h2 ⟨rfl, rm⟩
  refine And.intro (fun _ => ?_) (fun hc => absurd rfl hc)
  exact hk_end rm
set_option maxRecDepth 100000 in
theorem l_tells {n : Nat} : hk_wp 1000 (some (6, xs)) hk_cL hk_KL (n + 60) (hk_sfx 982 hk_cL) [some (.ref 96), some (.ref 0), some (.ref 40), some (.int 0)] [] hk_FH := by
  refine hk_ldx (j := 1) rfl (by decide) ?_
  refine hk_ldx (j := 2) rfl (by decide) ?_
  refine hk_Cl_mono ?_ p_tells
  rintro r h ⟨x, rfl, c⟩
  refine hk_ldx (j := 1) rfl (by decide) ?_
  refine hk_ldx (j := 2) rfl (by decide) ?_
  refine hk_Cl_mono ?_ c
  rintro r2 h2 ⟨rfl, rm⟩
  refine And.intro (fun _ => ?_) (fun hc => absurd (hk_lcmp x) hc)
  exact hk_end rm
set_option maxRecDepth 100000 in
theorem l_charter {n : Nat} : hk_wp 1000 (some (6, xs)) hk_cL hk_KL (n + 60) (hk_sfx 1016 hk_cL) [some (.ref 96), some (.ref 0), some (.ref 40), some (.int 0)] [] hk_FH := by
  refine hk_ldx (j := 1) rfl (by decide) ?_
  refine hk_ldx (j := 2) rfl (by decide) ?_
  refine hk_Cl_mono ?_ p_charter
  rintro r h ⟨x, rfl, c⟩
  refine hk_ldx (j := 1) rfl (by decide) ?_
  refine hk_ldx (j := 2) rfl (by decide) ?_
  refine hk_Cl_mono ?_ c
  rintro r2 h2 ⟨rfl, rm⟩
  refine And.intro (fun _ => ?_) (fun hc => absurd rfl hc)
  exact hk_end rm
set_option maxRecDepth 100000 in
theorem l_unlike {n : Nat} : hk_wp 1000 (some (6, xs)) hk_cL hk_KL (n + 60) (hk_sfx 1049 hk_cL) [some (.ref 96), some (.ref 0), some (.ref 40), some (.int 0)] [] hk_FH := by
  refine hk_ldx (j := 1) rfl (by decide) ?_
  refine hk_ldx (j := 2) rfl (by decide) ?_
  refine hk_ldx (j := 3) rfl (by decide) ?_
  refine hk_ldx (j := 4) rfl (by decide) ?_
  refine hk_Cl_mono ?_ p_unlike
  rintro r h ⟨x, rfl, c⟩
  refine hk_ldx (j := 1) rfl (by decide) ?_
  refine hk_ldx (j := 2) rfl (by decide) ?_
  refine hk_ldx (j := 3) rfl (by decide) ?_
  refine hk_ldx (j := 4) rfl (by decide) ?_
  refine hk_Cl_mono ?_ c
  rintro r2 h2 ⟨rfl, rm⟩
  refine And.intro (fun _ => ?_) (fun hc => absurd rfl hc)
  exact hk_end rm
set_option maxRecDepth 100000 in
theorem l_hull {n : Nat} : hk_wp 1000 (some (6, xs)) hk_cL hk_KL (n + 60) (hk_sfx 1102 hk_cL) [some (.ref 96), some (.ref 0), some (.ref 40), some (.int 0)] [] hk_FH := by
  refine hk_ldx (j := 1) rfl (by decide) ?_
  refine hk_ldx (j := 2) rfl (by decide) ?_
  refine hk_ldx (j := 3) rfl (by decide) ?_
  refine hk_Cl_mono ?_ p_hull
  rintro r h ⟨x, rfl, c⟩
  refine hk_ldx (j := 1) rfl (by decide) ?_
  refine hk_ldx (j := 2) rfl (by decide) ?_
  refine hk_ldx (j := 3) rfl (by decide) ?_
  refine hk_Cl_mono ?_ c
  rintro r2 h2 ⟨rfl, rm⟩
  refine And.intro (fun _ => ?_) (fun hc => absurd rfl hc)
  exact hk_end rm
set_option maxRecDepth 100000 in
theorem l_docks {n : Nat} : hk_wp 1000 (some (6, xs)) hk_cL hk_KL (n + 60) (hk_sfx 1145 hk_cL) [some (.ref 96), some (.ref 0), some (.ref 40), some (.int 0)] [] hk_FH := by
  refine hk_ldx (j := 1) rfl (by decide) ?_
  refine hk_ldx (j := 2) rfl (by decide) ?_
  refine hk_Cl_mono ?_ p_docks
  rintro r h ⟨x, rfl, c⟩
  refine hk_ldx (j := 1) rfl (by decide) ?_
  refine hk_ldx (j := 2) rfl (by decide) ?_
  refine hk_Cl_mono ?_ c
  rintro r2 h2 ⟨rfl, rm⟩
  refine And.intro (fun _ => ?_) (fun hc => absurd rfl hc)
  exact hk_end rm
set_option maxRecDepth 100000 in
theorem l_plan {n : Nat} : hk_wp 1000 (some (6, xs)) hk_cL hk_KL (n + 60) (hk_sfx 1178 hk_cL) [some (.ref 96), some (.ref 0), some (.ref 40), some (.int 0)] [] hk_FH := by
  refine hk_ldx (j := 1) rfl (by decide) ?_
  refine hk_Cl_mono ?_ p_plan
  rintro r h ⟨x, rfl, c⟩
  refine hk_ldx (j := 1) rfl (by decide) ?_
  refine hk_Cl_mono ?_ c
  rintro r2 h2 ⟨rfl, rm⟩
  refine And.intro (fun _ => ?_) (fun hc => absurd rfl hc)
  exact hk_end rm
set_option maxRecDepth 100000 in
theorem l_clear {n : Nat} : hk_wp 1000 (some (6, xs)) hk_cL hk_KL (n + 60) (hk_sfx 1201 hk_cL) [some (.ref 96), some (.ref 0), some (.ref 40), some (.int 0)] [] hk_FH := by
  refine hk_Cl_mono ?_ p_clear
  rintro r h ⟨x, rfl, c⟩
  refine hk_Cl_mono ?_ c
  rintro r2 h2 ⟨rfl, rm⟩
  refine And.intro (fun _ => ?_) (fun hc => absurd rfl hc)
  exact hk_end rm
set_option maxRecDepth 100000 in
theorem l_test {n : Nat} : hk_wp 1000 (some (6, xs)) hk_cL hk_KL (n + 60) (hk_sfx 1214 hk_cL) [some (.ref 96), some (.ref 0), some (.ref 40), some (.int 0)] [] hk_FH := by
  refine hk_ldx (j := 1) rfl (by decide) ?_
  refine hk_ldx (j := 2) rfl (by decide) ?_
  refine And.intro (fun hz => ?_) (fun hz => ?_)
  · refine hk_Cl_mono ?_ (p_test (Or.inl rfl))
    rintro r h ⟨x, rfl, c⟩
    refine hk_ldx (j := 1) rfl (by decide) ?_
    refine hk_ldx (j := 2) rfl (by decide) ?_
    refine And.intro (fun _ => ?_) (fun hc => absurd hz hc)
    refine hk_Cl_mono ?_ c
    rintro r2 h2 ⟨rfl, rm⟩
    refine And.intro (fun _ => ?_) (fun hc => absurd rfl hc)
    exact hk_end rm
  · refine hk_Cl_mono ?_ (p_test (Or.inr rfl))
    rintro r h ⟨x, rfl, c⟩
    refine hk_ldx (j := 1) rfl (by decide) ?_
    refine hk_ldx (j := 2) rfl (by decide) ?_
    refine And.intro (fun hc => absurd hc hz) (fun _ => ?_)
    refine hk_Cl_mono ?_ c
    rintro r2 h2 ⟨rfl, rm⟩
    refine And.intro (fun _ => ?_) (fun hc => absurd rfl hc)
    exact hk_end rm
set_option maxRecDepth 100000 in
theorem l_drain {n : Nat} : hk_wp 1000 (some (6, xs)) hk_cL hk_KL (n + 60) (hk_sfx 1263 hk_cL) [some (.ref 96), some (.ref 0), some (.ref 40), some (.int 0)] [] hk_FH := by
  refine hk_Cl_mono ?_ p_drain
  rintro r h ⟨x, rfl, c⟩
  refine hk_Cl_mono ?_ c
  rintro r2 h2 ⟨rfl, rm⟩
  refine And.intro (fun _ => ?_) (fun hc => absurd rfl hc)
  exact hk_end rm
set_option maxRecDepth 100000 in
theorem l_leaks {n : Nat} : hk_wp 1000 (some (6, xs)) hk_cL hk_KL (n + 60) (hk_sfx 1276 hk_cL) [some (.ref 96), some (.ref 0), some (.ref 40), some (.int 0)] [] hk_FH := by
  refine hk_ldx (j := 1) rfl (by decide) ?_
  refine hk_Cl_mono ?_ p_leaks
  rintro r h ⟨x, rfl, c⟩
  refine hk_ldx (j := 1) rfl (by decide) ?_
  refine hk_Cl_mono ?_ c
  rintro r2 h2 ⟨rfl, rm⟩
  refine And.intro (fun _ => ?_) (fun hc => absurd rfl hc)
  exact hk_end rm
set_option maxRecDepth 100000 in
theorem l_wave {n : Nat} : hk_wp 1000 (some (6, xs)) hk_cL hk_KL (n + 60) (hk_sfx 1299 hk_cL) [some (.ref 96), some (.ref 0), some (.ref 40), some (.int 0)] [] hk_FH := by
  refine hk_ldx (j := 1) rfl (by decide) ?_
  refine hk_ldx (j := 2) rfl (by decide) ?_
  refine hk_Cl_mono ?_ p_wave
  rintro r h ⟨x, rfl, c⟩
  refine hk_ldx (j := 1) rfl (by decide) ?_
  refine hk_ldx (j := 2) rfl (by decide) ?_
  refine hk_Cl_mono ?_ c
  rintro r2 h2 ⟨rfl, rm⟩
  refine And.intro (fun _ => ?_) (fun hc => absurd rfl hc)
  exact hk_end rm
set_option maxRecDepth 100000 in
theorem l_tow {n : Nat} : hk_wp 1000 (some (6, xs)) hk_cL hk_KL (n + 60) (hk_sfx 1332 hk_cL) [some (.ref 96), some (.ref 0), some (.ref 40), some (.int 0)] [] hk_FH := by
  refine hk_ldx (j := 1) rfl (by decide) ?_
  refine hk_ldx (j := 2) rfl (by decide) ?_
  refine hk_ldx (j := 3) rfl (by decide) ?_
  refine hk_Cl_mono ?_ p_tow
  rintro r h ⟨x, rfl, c⟩
  refine hk_ldx (j := 1) rfl (by decide) ?_
  refine hk_ldx (j := 2) rfl (by decide) ?_
  refine hk_ldx (j := 3) rfl (by decide) ?_
  refine hk_Cl_mono ?_ c
  rintro r2 h2 ⟨rfl, rm⟩
  refine And.intro (fun _ => ?_) (fun hc => absurd rfl hc)
  exact hk_end rm
set_option maxRecDepth 100000 in
theorem l_hand {n : Nat} : hk_wp 1000 (some (6, xs)) hk_cL hk_KL (n + 60) (hk_sfx 1375 hk_cL) [some (.ref 96), some (.ref 0), some (.ref 40), some (.int 0)] [] hk_FH := by
  refine hk_ldx (j := 1) rfl (by decide) ?_
  refine hk_ldx (j := 2) rfl (by decide) ?_
  refine hk_Cl_mono ?_ p_hand
  rintro r h ⟨x, rfl, c⟩
  refine hk_ldx (j := 1) rfl (by decide) ?_
  refine hk_ldx (j := 2) rfl (by decide) ?_
  refine hk_Cl_mono ?_ c
  rintro r2 h2 ⟨rfl, rm⟩
  refine And.intro (fun _ => ?_) (fun hc => absurd rfl hc)
  exact hk_end rm
set_option maxRecDepth 100000 in
theorem l_work {n : Nat} : hk_wp 1000 (some (6, xs)) hk_cL hk_KL (n + 60) (hk_sfx 1408 hk_cL) [some (.ref 96), some (.ref 0), some (.ref 40), some (.int 0)] [] hk_FH := by
  refine hk_ldx (j := 1) rfl (by decide) ?_
  refine hk_ldx (j := 2) rfl (by decide) ?_
  refine hk_ldx (j := 3) rfl (by decide) ?_
  refine hk_Cl_mono ?_ p_work
  rintro r h ⟨x, rfl, c⟩
  refine hk_ldx (j := 1) rfl (by decide) ?_
  refine hk_ldx (j := 2) rfl (by decide) ?_
  refine hk_ldx (j := 3) rfl (by decide) ?_
  refine hk_Cl_mono ?_ c
  rintro r2 h2 ⟨rfl, rm⟩
  refine And.intro (fun _ => ?_) (fun hc => absurd rfl hc)
  exact hk_end rm
set_option maxRecDepth 100000 in
theorem l_done {n : Nat} : hk_wp 1000 (some (6, xs)) hk_cL hk_KL (n + 60) (hk_sfx 1451 hk_cL) [some (.ref 96), some (.ref 0), some (.ref 40), some (.int 0)] [] hk_FH := by
  refine hk_ldx (j := 1) rfl (by decide) ?_
  refine hk_Cl_mono ?_ p_done
  rintro r h ⟨x, rfl, c⟩
  refine hk_ldx (j := 1) rfl (by decide) ?_
  refine hk_Cl_mono ?_ c
  rintro r2 h2 ⟨rfl, rm⟩
  refine And.intro (fun _ => ?_) (fun hc => absurd rfl hc)
  exact hk_end rm
set_option maxRecDepth 100000 in
theorem l_worst {n : Nat} : hk_wp 1000 (some (6, xs)) hk_cL hk_KL (n + 60) (hk_sfx 1474 hk_cL) [some (.ref 96), some (.ref 0), some (.ref 40), some (.int 0)] [] hk_FH := by
  refine hk_ldx (j := 1) rfl (by decide) ?_
  refine hk_ldx (j := 2) rfl (by decide) ?_
  refine hk_ldx (j := 3) rfl (by decide) ?_
  refine hk_Cl_mono ?_ p_worst
  rintro r h ⟨x, rfl, c⟩
  refine hk_ldx (j := 1) rfl (by decide) ?_
  refine hk_ldx (j := 2) rfl (by decide) ?_
  refine hk_ldx (j := 3) rfl (by decide) ?_
  refine hk_Cl_mono ?_ c
  rintro r2 h2 ⟨rfl, rm⟩
  refine And.intro (fun _ => ?_) (fun hc => absurd rfl hc)
  exact hk_end rm
set_option maxRecDepth 100000 in
theorem l_image {n : Nat} : hk_wp 1000 (some (6, xs)) hk_cL hk_KL (n + 60) (hk_sfx 1517 hk_cL) [some (.ref 96), some (.ref 0), some (.ref 40), some (.int 0)] [] hk_FH := by
  refine hk_ldx (j := 1) rfl (by decide) ?_
  refine hk_Cl_mono ?_ p_image
  rintro r h ⟨x, rfl, c⟩
  refine hk_ldx (j := 1) rfl (by decide) ?_
  refine hk_Cl_mono ?_ c
  rintro r2 h2 ⟨rfl, rm⟩
  refine And.intro (fun _ => ?_) (fun hc => absurd rfl hc)
  exact hk_end rm
set_option maxRecDepth 100000 in
theorem l_from {n : Nat} : hk_wp 1000 (some (6, xs)) hk_cL hk_KL (n + 60) (hk_sfx 1540 hk_cL) [some (.ref 96), some (.ref 0), some (.ref 40), some (.int 0)] [] hk_FH := by
  refine hk_ldx (j := 1) rfl (by decide) ?_
  refine hk_Cl_mono ?_ p_from
  rintro r h ⟨x, rfl, c⟩
  refine hk_ldx (j := 1) rfl (by decide) ?_
  refine hk_Cl_mono ?_ c
  rintro r2 h2 ⟨rfl, rm⟩
  refine And.intro (fun _ => ?_) (fun hc => absurd rfl hc)
  exact hk_end rm
set_option maxRecDepth 100000 in
theorem l_count {n : Nat} : hk_wp 1000 (some (6, xs)) hk_cL hk_KL (n + 60) (hk_sfx 1563 hk_cL) [some (.ref 96), some (.ref 0), some (.ref 40), some (.int 0)] [] hk_FH := by
  refine hk_ldx (j := 1) rfl (by decide) ?_
  refine hk_Cl_mono ?_ p_count
  rintro r h ⟨x, rfl, c⟩
  refine hk_ldx (j := 1) rfl (by decide) ?_
  refine hk_Cl_mono ?_ c
  rintro r2 h2 ⟨rfl, rm⟩
  refine And.intro (fun _ => ?_) (fun hc => absurd rfl hc)
  exact hk_end rm
set_option maxRecDepth 100000 in
theorem l_digest {n : Nat} : hk_wp 1000 (some (6, xs)) hk_cL hk_KL (n + 60) (hk_sfx 1586 hk_cL) [some (.ref 96), some (.ref 0), some (.ref 40), some (.int 0)] [] hk_FH := by
  refine hk_Cl_mono ?_ p_digest
  rintro r h ⟨x, rfl, c⟩
  refine hk_Cl_mono ?_ c
  rintro r2 h2 ⟨rfl, rm⟩
  refine And.intro (fun _ => ?_) (fun hc => absurd (hk_lcmp x) hc)
  exact hk_end rm
set_option maxRecDepth 100000 in
theorem hk_six : hk_Rn 1000 (some (6, xs)) hk_cL (hk_sfx 18 hk_cL) [some (.ref 96), some (.ref 0), some (.ref 40), some (.int 0)] [] hk_FH hk_KL := by
  refine hk_hd (n := 1000) (t := 18) rfl ?_
  refine And.intro (fun hc => absurd hc (show ¬ Int32.ofNat 6 - 6 < 0 by decide)) (fun _ => ?_)
  refine hk_ldx (j := 0) rfl (by decide) ?_
  refine And.intro (fun _ => l_ship) (fun _ => ?_)
  refine And.intro (fun _ => l_plate) (fun _ => ?_)
  refine And.intro (fun _ => l_lay) (fun _ => ?_)
  refine And.intro (fun _ => l_wear) (fun _ => ?_)
  refine And.intro (fun _ => l_bound) (fun _ => ?_)
  refine And.intro (fun _ => l_wire) (fun _ => ?_)
  refine And.intro (fun _ => l_crowd) (fun _ => ?_)
  refine And.intro (fun _ => l_storm) (fun _ => ?_)
  refine And.intro (fun _ => l_months) (fun _ => ?_)
  refine And.intro (fun _ => l_about) (fun _ => ?_)
  refine And.intro (fun _ => l_plateAt) (fun _ => ?_)
  refine And.intro (fun _ => l_replace) (fun _ => ?_)
  refine And.intro (fun _ => l_move) (fun _ => ?_)
  refine And.intro (fun _ => l_reading) (fun _ => ?_)
  refine And.intro (fun _ => l_bias) (fun _ => ?_)
  refine And.intro (fun _ => l_right) (fun _ => ?_)
  refine And.intro (fun _ => l_guess) (fun _ => ?_)
  refine And.intro (fun _ => l_due) (fun _ => ?_)
  refine And.intro (fun _ => l_first) (fun _ => ?_)
  refine And.intro (fun _ => l_write) (fun _ => ?_)
  refine And.intro (fun _ => l_erase) (fun _ => ?_)
  refine And.intro (fun _ => l_fault) (fun _ => ?_)
  refine And.intro (fun _ => l_tells) (fun _ => ?_)
  refine And.intro (fun _ => l_charter) (fun _ => ?_)
  refine And.intro (fun _ => l_unlike) (fun _ => ?_)
  refine And.intro (fun _ => l_hull) (fun _ => ?_)
  refine And.intro (fun _ => l_docks) (fun _ => ?_)
  refine And.intro (fun _ => l_plan) (fun _ => ?_)
  refine And.intro (fun _ => l_clear) (fun _ => ?_)
  refine And.intro (fun _ => l_test) (fun _ => ?_)
  refine And.intro (fun _ => l_drain) (fun _ => ?_)
  refine And.intro (fun _ => l_leaks) (fun _ => ?_)
  refine And.intro (fun _ => l_wave) (fun _ => ?_)
  refine And.intro (fun _ => l_tow) (fun _ => ?_)
  refine And.intro (fun _ => l_hand) (fun _ => ?_)
  refine And.intro (fun _ => l_work) (fun _ => ?_)
  refine And.intro (fun _ => l_done) (fun _ => ?_)
  refine And.intro (fun _ => l_worst) (fun _ => ?_)
  refine And.intro (fun _ => l_image) (fun _ => ?_)
  refine And.intro (fun _ => l_from) (fun _ => ?_)
  refine And.intro (fun _ => l_count) (fun _ => ?_)
  refine And.intro (fun _ => l_digest) (fun _ => ?_)
  exact hk_end hk_rmo0
set_option maxRecDepth 100000 in
theorem hk_p1 {L : Nat} (hL : L ≤ 6) : hk_Law L xs := by
  refine hk_begin ?_
  by_cases h : L = 6
  · subst h
    exact hk_six
  · refine hk_hd (n := 1000) (t := 18) rfl ?_
    refine And.intro (fun _ => ?_) (fun hc => absurd ((by decide : ∀ L : Nat, L < 6 → Int32.ofNat L - 6 < 0) L (by omega)) hc)
    exact ⟨Or.inr rfl, rfl, hk_rmo0.1, hk_rmo0.2⟩
end HKW
