/-! ===== the start of the law ===== -/
def hk_F0s : Nat → Nat → Int32 := hk_st0 (hk_ov 0 40 11 [] (hk_ov 0 0 40 hk_ci (fun _ _ => 0)))
def hk_F0l : Nat → Nat → Int64 := hk_ov 0 40 11 [] (hk_ov 0 0 40 [[]] (fun _ _ => 0))
def hk_FH : hk_H := (hk_F0s, hk_F0l, hk_RH 0 0 35, List.range 51)
/-- what the law's end asks -/
def hk_KL (r : Option Value) (h : hk_H) : Prop := r = some (.int 1) ∧ h.2.2.2.length ≤ 600000 ∧ hk_sl hk_SH hk_cls h.2.2.2 ≤ 7302250
theorem hk_Law_of {L : Nat} {xs : Nat → Int32} (r : hk_Rn 1000 (some (L, xs)) hk_cL hk_cL (hk_loc 4 [.ref 96]) [] hk_h0 hk_KL) : hk_Law L xs := by
  obtain ⟨F, n, r, h', e, rfl, q1, q2⟩ := r
  exact ⟨1000, F, n, h', Nat.le_refl _, e, q1, q2⟩
/-- the law, from its loop on -/
theorem hk_begin {L : Nat} {xs : Nat → Int32} (r : hk_Rn 1000 (some (L, xs)) hk_cL (hk_sfx 18 hk_cL) [some (.ref 96), some (.ref 0), some (.ref 40), some (.int 0)] [] hk_FH hk_KL) : hk_Law L xs := by
  refine hk_Law_of (hk_w1_run (n := 1000) _ _ _ _ ?_)
  have u0 : hk_up [] 0 := ⟨by decide, fun q hq => absurd hq List.not_mem_nil, by decide⟩
  generalize he : ([] : List Nat) = al0 at u0
  unfold hk_h0
  rw [he]
  refine hk_mkI u0 rfl rfl ?_
  have u1 := hk_up_nx u0 (q := 1) rfl (by decide)
  refine n_hk (d := 996) u1 ?_
  have u40 : hk_up ((al0 ++ [0]) ++ List.range' 1 39) 40 := by
    subst he
    exact ⟨by decide, by decide, by decide⟩
  refine hk_mkI u40 rfl rfl ?_
  have u41 := hk_up_nx u40 (q := 41) rfl (by decide)
  refine n_mo (d := 999) u41 ?_
  subst he
  have r2 := r
  unfold hk_FH at r2
  rw [← hk_r0] at r2
  exact r2
