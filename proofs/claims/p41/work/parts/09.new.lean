/-! ===== new cells, calls, ends ===== -/
section HKJ4
variable {SH : Nat → hk_Sh} {pb big ch : Nat} {cls : List vw_C} {kd : Nat → Nat → Nat} {wl : List Jvm.Cond} {mt : Nat → Option hk_Q} {hn : String} {sc : Nat}
variable {p : Program} {l : Launch} {e : Env} {R : Room} {s : State} {m : MethodId} {args : Array Value} {below : List Frame} {meth : Method} {c : Code} {Q : State → Prop}
variable {D : va_G} {cI cZ cR cJ : ClassId} {A : Nat → Prop} {H0 : Heap} {b0 mx n0 s0 dd : Nat} {ad0 : Nat → Nat} {al0 : List Nat} {own : String} {cc : ByteArray} {scr : Option (Nat × (Nat → Int32))} {cl : Nat → List Value → hk_H → hk_O}
/-- behind the making: the frame's goal out of what goes on -/
theorem hk_mkW {ad : Nat → Nat} {h : hk_H} {H H1 : Heap} {locs : List Loc} {ls : Array Slot} {L : hk_L} {st r0 : List Value} {q a pc N : Nat} {E : va_E} (r : hk_R SH cls kd sc D cI cZ cR cJ A H0 b0 ad0 al0 mx n0 s0 ad h H locs ls L st) (hq : q ∉ h.2.2.2) (hsc : q ≠ sc) (hE : hk_ce SH cls kd cI cZ cR cJ (fun z => if z = q then a else ad z) (hk_nw h q) q = E) (hN : hk_sl SH cls (hk_nw h q).2.2.2 = hk_sl SH cls h.2.2.2 + N)
    (hP : va_P D cls (hk_ws SH cls kd cI cZ cR cJ ad h ++ [(a, E)]) H1) (hD : va_D A (hk_ws SH cls kd cI cZ cR cJ ad h ++ [(a, E)])) (hS : va_S A H0 H1 locs) (hs : ∀ v ∈ r0, hk_vo sc h.2.2.2 v) (kk : hk_K SH cls kd sc D cI cZ cR cJ A H0 b0 ad0 al0 mx n0 s0 p l e R s m args below meth c Q pc L (.ref q :: r0) (hk_nw h q)) :
    W p l e R s m args below meth c H1 locs (h.2.2.2.length - n0 + 1) (hk_sl SH cls h.2.2.2 - s0 + N) Q (F0 m pc ls (.ref a :: r0.map (hk_tv ad))) := by
  obtain ⟨r2, hag⟩ := r.mk hq hsc hE hP hD hS hs
  have g := kk _ _ _ _ r2
  unfold hk_G at g
  have e1 : ((.ref q :: r0 : List Value).map (hk_tv (fun z => if z = q then a else ad z))) = .ref a :: r0.map (hk_tv ad) := by
    rw [List.map_cons, hk_map_congr hag hs]
    congr 1
    show Value.ref (if q = q then a else ad q) = _
    rw [if_pos rfl]
  rw [e1, hN] at g
  obtain ⟨-, -, -, -, -, -, -, -, -, g1, g2⟩ := r
  have e2 : (hk_nw h q).2.2.2.length = h.2.2.2.length + 1 := by simp [hk_nw]
  rw [e2] at g
  exact W.cs (by omega) (by omega) g
theorem hk_mk_eq {nxr : hk_L → List Value → hk_H → hk_O} {L : hk_L} {r : List Value} {h : hk_H} {k n : Nat} {qf : Option Value × hk_H} (he : hk_mk SH pb big none nxr L r h k n = some qf) : ∃ q, SH q = (k, n) ∧ q ∉ h.2.2.2 ∧ nxr L (.ref q :: r) (hk_nw h q) = some qf := by
  unfold hk_mk at he
  split at he
  · next hc =>
    rw [Bool.and_eq_true] at hc
    refine ⟨_, hk_is_eq hc.1, fun hm => ?_, he⟩
    have h2 := hc.2
    rw [List.contains_iff_mem.mpr hm] at h2
    cases h2
  · cases he
theorem hk_shne2 (hS : ∃ n, SH sc = (6, n)) {q k n : Nat} (hq : SH q = (k, n)) (hk : k ≠ 6) : q ≠ sc := hk_shne hS hq hk

set_option maxHeartbeats 1000000 in
theorem hk_z_new {ini : Bool} {rk : Nat} (FX : hk_Fx SH ch cls kd wl mt hn sc p l R s m args meth c D cI cZ cR cJ A H0 b0 mx dd own cc scr cl ini) {pc len a b c1 d : Nat} {v : Int32} {w : Int64} {sw : List (Int32 × Nat)} {i : Nat} (hdg : decode cc pc = .ok (.new i, len)) (hck : hk_iok cls kd mt hn own ini rk mx pc (.new i) len a b c1 d v w sw = true) {nxr : hk_L → List Value → hk_H → hk_O} {jmr : Nat → hk_L → List Value → hk_H → hk_O} {qf : Option Value × hk_H} (hnx : ∀ L st h, nxr L st h = some qf → hk_K SH cls kd sc D cI cZ cR cJ A H0 b0 ad0 al0 mx n0 s0 p l e R s m args below meth c Q (pc + len) L st h) (hjm : ∀ t L st h, jmr t L st h = some qf → hk_K SH cls kd sc D cI cZ cR cJ A H0 b0 ad0 al0 mx n0 s0 p l e R s m args below meth c Q t L st h) (hgr : ∀ L st h, nxr L st h = some qf → hk_ge h qf.2) (hR3 : qf.2.2.2.2.length - n0 ≤ R.cells ∧ hk_sl SH cls qf.2.2.2.2 - s0 ≤ R.slots) {L : hk_L} {st : List Value} {h : hk_H} (hrun : hk_stp SH pb big none nxr jmr (fun P d k => @ite _ P d k none) (fun P d k0 k1 => @ite _ P d k0 k1) (fun y a h k => (cl y a h).bind (fun q => k q.1 q.2)) (fun r h => some (r, h)) scr ch (.new i) a c1 d v w sw L st h = some qf) : hk_K SH cls kd sc D cI cZ cR cJ A H0 b0 ad0 al0 mx n0 s0 p l e R s m args below meth c Q pc L st h := by
  obtain ⟨TB, hx, hb, hml, hown, hts, hK, hA, hin, hX, hcl, hge, hR1, hR2, hAO⟩ := id FX
  intro ad H locs ls r
  obtain ⟨hP, hD, hS, hwf, hlv, hlen, hsv, hLv, hadb, hn0, hs0⟩ := id r
  unfold hk_G
  have go : ∀ {st' : List Value}, nxr L st' h = some qf → (∀ v ∈ st', hk_vo sc h.2.2.2 v) → hk_G SH cls p l e R s m args below meth c Q n0 s0 ad h H locs (pc + len) ls st' := fun h1 h2 => hnx _ _ _ h1 _ _ _ _ (r.stk h2)
  have gj : ∀ {t : Nat} {st' : List Value}, jmr t L st' h = some qf → (∀ v ∈ st', hk_vo sc h.2.2.2 v) → hk_G SH cls p l e R s m args below meth c Q n0 s0 ad h H locs t ls st' := fun h1 h2 => hjm _ _ _ _ h1 _ _ _ _ (r.stk h2)
  unfold hk_G at go gj
  simp only [hk_iok] at hck
  simp only [hk_stp] at hrun
  unfold hk_new at hrun
  obtain ⟨q0, hsh, hq0, hr⟩ := hk_mk_eq hrun
  obtain ⟨q, hq⟩ := TB.2.1 _ _ hsh
  rw [hq] at hck
  simp only [Bool.and_eq_true, decide_eq_true_eq] at hck
  obtain ⟨⟨⟨rfl, h1⟩, h2⟩, h3⟩ := hck
  obtain ⟨C, T, N⟩ := q
  obtain ⟨hu, ⟨ty, hty, hkk⟩, hnm⟩ := TB.1 a _ hq
  have hg := hgr _ _ _ hr
  have hN : hk_sl SH cls (hk_nw h q0).2.2.2 = hk_sl SH cls h.2.2.2 + N := by
    rw [hk_sl_nw, hsh]
    show _ + hk_nf cls a = _
    rw [hk_nf_eq hq]
  have hg1 := hk_ge_len hg
  have hg2 := hk_ge_sl (SH := SH) (cls := cls) hg
  rw [hN] at hg2
  have e2 : (hk_nw h q0).2.2.2.length = h.2.2.2.length + 1 := by simp [hk_nw]
  rw [e2] at hg1
  refine va_new (ci := a) (fs := (List.range N).map (fun k => match kd a k with | 1 => Value.null | _ => Value.int 0)) (C := C) (T := T) (N := N) hx hb hts hu ty hty hown (hts _ (TB.2.2.2.2.2.2.1.2.2.2 _ _ h1)) (hts _ (TB.2.2.2.2.2.2.1.2.2.2 _ _ h2)) (hts _ (TB.2.2.2.2.2.2.1.2.2.2 _ _ h3)) hK hP hD hS hA hq (fun j hj => ?_) (by omega) (by omega) hdg (fun q5 H1 hP1 hD1 hS1 => hk_mkW r hq0 (hk_shne TB.2.2.2.1 hsh (by decide)) ?_ hN hP1 hD1 hS1 hsv (hnx _ _ _ hr))
  · unfold vp_V
    rw [List.getD_eq_getElem?_getD, List.getElem?_map, List.getElem?_range hj]
    obtain ⟨k0, k1, k2, k3⟩ := hkk j hj
    have h012 : kd a j = 0 ∨ kd a j = 1 ∨ kd a j = 2 := by omega
    rcases h012 with h5 | h5 | h5
    · rw [k0 h5]; simp [h5, defaultValue]
    · rcases k1 h5 with ⟨o, e⟩ | ⟨o, e⟩ <;> rw [e] <;> simp [h5, defaultValue]
    · rw [k2 h5]; simp [h5, defaultValue]
  · rw [hk_ce1 hsh, hk_nf_eq hq]
    congr 2
    apply List.map_congr_left
    intro j _
    unfold hk_fv
    split
    · next e5 => simp [hk_nw, hk_z, hk_rf, va_rf, e5]
    · simp [hk_nw, hk_z]

set_option maxHeartbeats 1000000 in
theorem hk_z_newarray {ini : Bool} {rk : Nat} (FX : hk_Fx SH ch cls kd wl mt hn sc p l R s m args meth c D cI cZ cR cJ A H0 b0 mx dd own cc scr cl ini) {pc len a b c1 d : Nat} {v : Int32} {w : Int64} {sw : List (Int32 × Nat)} {t : ArrayType} (hdg : decode cc pc = .ok (.newarray t, len)) (hck : hk_iok cls kd mt hn own ini rk mx pc (.newarray t) len a b c1 d v w sw = true) {nxr : hk_L → List Value → hk_H → hk_O} {jmr : Nat → hk_L → List Value → hk_H → hk_O} {qf : Option Value × hk_H} (hnx : ∀ L st h, nxr L st h = some qf → hk_K SH cls kd sc D cI cZ cR cJ A H0 b0 ad0 al0 mx n0 s0 p l e R s m args below meth c Q (pc + len) L st h) (hjm : ∀ t L st h, jmr t L st h = some qf → hk_K SH cls kd sc D cI cZ cR cJ A H0 b0 ad0 al0 mx n0 s0 p l e R s m args below meth c Q t L st h) (hgr : ∀ L st h, nxr L st h = some qf → hk_ge h qf.2) (hR3 : qf.2.2.2.2.length - n0 ≤ R.cells ∧ hk_sl SH cls qf.2.2.2.2 - s0 ≤ R.slots) {L : hk_L} {st : List Value} {h : hk_H} (hrun : hk_stp SH pb big none nxr jmr (fun P d k => @ite _ P d k none) (fun P d k0 k1 => @ite _ P d k0 k1) (fun y a h k => (cl y a h).bind (fun q => k q.1 q.2)) (fun r h => some (r, h)) scr ch (.newarray t) a c1 d v w sw L st h = some qf) : hk_K SH cls kd sc D cI cZ cR cJ A H0 b0 ad0 al0 mx n0 s0 p l e R s m args below meth c Q pc L st h := by
  obtain ⟨TB, hx, hb, hml, hown, hts, hK, hA, hin, hX, hcl, hge, hR1, hR2, hAO⟩ := id FX
  intro ad H locs ls r
  obtain ⟨hP, hD, hS, hwf, hlv, hlen, hsv, hLv, hadb, hn0, hs0⟩ := id r
  unfold hk_G
  have go : ∀ {st' : List Value}, nxr L st' h = some qf → (∀ v ∈ st', hk_vo sc h.2.2.2 v) → hk_G SH cls p l e R s m args below meth c Q n0 s0 ad h H locs (pc + len) ls st' := fun h1 h2 => hnx _ _ _ h1 _ _ _ _ (r.stk h2)
  have gj : ∀ {t : Nat} {st' : List Value}, jmr t L st' h = some qf → (∀ v ∈ st', hk_vo sc h.2.2.2 v) → hk_G SH cls p l e R s m args below meth c Q n0 s0 ad h H locs t ls st' := fun h1 h2 => hjm _ _ _ _ h1 _ _ _ _ (r.stk h2)
  unfold hk_G at go gj
  simp only [hk_iok, Bool.and_eq_true, decide_eq_true_eq] at hck
  simp only [hk_stp] at hrun
  obtain rfl := hck
  unfold hk_newa at hrun
  split at hrun
  · next i r0 =>
    dsimp only at hrun
    split at hrun
    case isFalse => cases hrun
    rename_i hlt
    split at hrun
    · obtain ⟨q0, hsh, hq0, hr⟩ := hk_mk_eq hrun
      have hg := hgr _ _ _ hr
      have hN : hk_sl SH cls (hk_nw h q0).2.2.2 = hk_sl SH cls h.2.2.2 + i.toNatClampNeg := by
        rw [hk_sl_nw, hsh]
        rfl
      have hg1 := hk_ge_len hg
      have hg2 := hk_ge_sl (SH := SH) (cls := cls) hg
      rw [hN] at hg2
      have e2 : (hk_nw h q0).2.2.2.length = h.2.2.2.length + 1 := by simp [hk_nw]
      rw [e2] at hg1
      refine va_newa (D := D) (tys := hk_tys cI cZ cR cJ hn) (atype := .int) (ty := .int) (a0 := (i.toNatClampNeg, .inl (fun _ => 0))) hx hb (hts _ TB.2.2.2.2.2.2.1.1) rfl hK hP hD hS hA (fun cA => by rw [vp_cell_i] <;> rfl) hlt.1 rfl (by have h9 : componentBytes (.int) ≤ 8 := (by decide); have h8 := Nat.mul_le_mul hlt.2 h9; omega) (by omega) (by omega) hdg (fun q5 cA H1 hK1 hP1 hD1 hS1 => ?_)
      have hcA : cA = cI := by
        have g1 := (hK1.2 4 (cA, .int) rfl).2
        have g2 := (hK.2 0 (cI, .int) rfl).2
        exact Option.some.inj ((show s.vm.findClass _ = some cA from g1).symm.trans g2)
      subst hcA
      refine hk_mkW r hq0 (hk_shne TB.2.2.2.1 hsh (by decide)) ?_ hN hP1 hD1 hS1 (hk_vot hsv).2 (hnx _ _ _ hr)
      have e9 : (hk_nw h q0).1 q0 = fun _ => 0 := by
        funext z
        simp [hk_nw, hk_z]
      rw [hk_ce2 hsh, e9]
    · obtain ⟨q0, hsh, hq0, hr⟩ := hk_mk_eq hrun
      have hg := hgr _ _ _ hr
      have hN : hk_sl SH cls (hk_nw h q0).2.2.2 = hk_sl SH cls h.2.2.2 + i.toNatClampNeg := by
        rw [hk_sl_nw, hsh]
        rfl
      have hg1 := hk_ge_len hg
      have hg2 := hk_ge_sl (SH := SH) (cls := cls) hg
      rw [hN] at hg2
      have e2 : (hk_nw h q0).2.2.2.length = h.2.2.2.length + 1 := by simp [hk_nw]
      rw [e2] at hg1
      refine va_newa (D := D) (tys := hk_tys cI cZ cR cJ hn) (atype := .boolean) (ty := .boolean) (a0 := (i.toNatClampNeg, .inl (fun _ => 0))) hx hb (hts _ TB.2.2.2.2.2.2.1.2.1) rfl hK hP hD hS hA (fun cA => by rw [vp_cell_i] <;> rfl) hlt.1 rfl (by have h9 : componentBytes (.boolean) ≤ 8 := (by decide); have h8 := Nat.mul_le_mul hlt.2 h9; omega) (by omega) (by omega) hdg (fun q5 cA H1 hK1 hP1 hD1 hS1 => ?_)
      have hcA : cA = cZ := by
        have g1 := (hK1.2 4 (cA, .boolean) rfl).2
        have g2 := (hK.2 1 (cZ, .boolean) rfl).2
        exact Option.some.inj ((show s.vm.findClass _ = some cA from g1).symm.trans g2)
      subst hcA
      refine hk_mkW r hq0 (hk_shne TB.2.2.2.1 hsh (by decide)) ?_ hN hP1 hD1 hS1 (hk_vot hsv).2 (hnx _ _ _ hr)
      have e9 : (hk_nw h q0).1 q0 = fun _ => 0 := by
        funext z
        simp [hk_nw, hk_z]
      rw [hk_ce3 hsh, e9]
    · obtain ⟨q0, hsh, hq0, hr⟩ := hk_mk_eq hrun
      have hg := hgr _ _ _ hr
      have hN : hk_sl SH cls (hk_nw h q0).2.2.2 = hk_sl SH cls h.2.2.2 + i.toNatClampNeg := by
        rw [hk_sl_nw, hsh]
        rfl
      have hg1 := hk_ge_len hg
      have hg2 := hk_ge_sl (SH := SH) (cls := cls) hg
      rw [hN] at hg2
      have e2 : (hk_nw h q0).2.2.2.length = h.2.2.2.length + 1 := by simp [hk_nw]
      rw [e2] at hg1
      refine va_newa (D := D) (tys := hk_tys cI cZ cR cJ hn) (atype := .long) (ty := .long) (a0 := (i.toNatClampNeg, .inr (.inl (fun _ => 0)))) hx hb (hts _ TB.2.2.2.2.2.2.1.2.2.1) rfl hK hP hD hS hA (fun cA => by rw [vp_cell_l] <;> rfl) hlt.1 rfl (by have h9 : componentBytes (.long) ≤ 8 := (by decide); have h8 := Nat.mul_le_mul hlt.2 h9; omega) (by omega) (by omega) hdg (fun q5 cA H1 hK1 hP1 hD1 hS1 => ?_)
      have hcA : cA = cJ := by
        have g1 := (hK1.2 4 (cA, .long) rfl).2
        have g2 := (hK.2 3 (cJ, .long) rfl).2
        exact Option.some.inj ((show s.vm.findClass _ = some cA from g1).symm.trans g2)
      subst hcA
      refine hk_mkW r hq0 (hk_shne TB.2.2.2.1 hsh (by decide)) ?_ hN hP1 hD1 hS1 (hk_vot hsv).2 (hnx _ _ _ hr)
      have e9 : (hk_nw h q0).2.1 q0 = fun _ => 0 := by
        funext z
        simp [hk_nw, hk_z]
      rw [hk_ce5 hsh, e9]
    · cases hrun
  · cases hrun

set_option maxHeartbeats 1000000 in
theorem hk_z_anewarray {ini : Bool} {rk : Nat} (FX : hk_Fx SH ch cls kd wl mt hn sc p l R s m args meth c D cI cZ cR cJ A H0 b0 mx dd own cc scr cl ini) {pc len a b c1 d : Nat} {v : Int32} {w : Int64} {sw : List (Int32 × Nat)} {i0 : Nat} (hdg : decode cc pc = .ok (.anewarray i0, len)) (hck : hk_iok cls kd mt hn own ini rk mx pc (.anewarray i0) len a b c1 d v w sw = true) {nxr : hk_L → List Value → hk_H → hk_O} {jmr : Nat → hk_L → List Value → hk_H → hk_O} {qf : Option Value × hk_H} (hnx : ∀ L st h, nxr L st h = some qf → hk_K SH cls kd sc D cI cZ cR cJ A H0 b0 ad0 al0 mx n0 s0 p l e R s m args below meth c Q (pc + len) L st h) (hjm : ∀ t L st h, jmr t L st h = some qf → hk_K SH cls kd sc D cI cZ cR cJ A H0 b0 ad0 al0 mx n0 s0 p l e R s m args below meth c Q t L st h) (hgr : ∀ L st h, nxr L st h = some qf → hk_ge h qf.2) (hR3 : qf.2.2.2.2.length - n0 ≤ R.cells ∧ hk_sl SH cls qf.2.2.2.2 - s0 ≤ R.slots) {L : hk_L} {st : List Value} {h : hk_H} (hrun : hk_stp SH pb big none nxr jmr (fun P d k => @ite _ P d k none) (fun P d k0 k1 => @ite _ P d k0 k1) (fun y a h k => (cl y a h).bind (fun q => k q.1 q.2)) (fun r h => some (r, h)) scr ch (.anewarray i0) a c1 d v w sw L st h = some qf) : hk_K SH cls kd sc D cI cZ cR cJ A H0 b0 ad0 al0 mx n0 s0 p l e R s m args below meth c Q pc L st h := by
  obtain ⟨TB, hx, hb, hml, hown, hts, hK, hA, hin, hX, hcl, hge, hR1, hR2, hAO⟩ := id FX
  intro ad H locs ls r
  obtain ⟨hP, hD, hS, hwf, hlv, hlen, hsv, hLv, hadb, hn0, hs0⟩ := id r
  unfold hk_G
  have go : ∀ {st' : List Value}, nxr L st' h = some qf → (∀ v ∈ st', hk_vo sc h.2.2.2 v) → hk_G SH cls p l e R s m args below meth c Q n0 s0 ad h H locs (pc + len) ls st' := fun h1 h2 => hnx _ _ _ h1 _ _ _ _ (r.stk h2)
  have gj : ∀ {t : Nat} {st' : List Value}, jmr t L st' h = some qf → (∀ v ∈ st', hk_vo sc h.2.2.2 v) → hk_G SH cls p l e R s m args below meth c Q n0 s0 ad h H locs t ls st' := fun h1 h2 => hjm _ _ _ _ h1 _ _ _ _ (r.stk h2)
  unfold hk_G at go gj
  simp only [hk_iok, Bool.and_eq_true, decide_eq_true_eq] at hck
  simp only [hk_stp] at hrun
  obtain ⟨rfl, hw⟩ := hck
  unfold hk_newq at hrun
  split at hrun
  · next i r0 =>
    dsimp only at hrun
    split at hrun
    case isFalse => cases hrun
    rename_i hlt
    obtain ⟨q0, hsh, hq0, hr⟩ := hk_mk_eq hrun
    have hg := hgr _ _ _ hr
    have hN : hk_sl SH cls (hk_nw h q0).2.2.2 = hk_sl SH cls h.2.2.2 + i.toNatClampNeg := by
      rw [hk_sl_nw, hsh]
      rfl
    have hg1 := hk_ge_len hg
    have hg2 := hk_ge_sl (SH := SH) (cls := cls) hg
    rw [hN] at hg2
    have e2 : (hk_nw h q0).2.2.2.length = h.2.2.2.length + 1 := by simp [hk_nw]
    rw [e2] at hg1
    refine va_newq (D := D) (tys := hk_tys cI cZ cR cJ hn) hx hb hown (hts _ (TB.2.2.2.2.2.2.1.2.2.2 _ _ hw)) hAO.1 hK hP hD hS hA hlt.1 rfl (by omega) (by omega) (by omega) hdg (fun q5 cA H1 hK1 hP1 hD1 hS1 => ?_)
    have hcA : cA = cR := by
      obtain ⟨_, _, _, _, _, g1⟩ := (hK1.2 4 (cA, .object hn) rfl).2
      obtain ⟨_, _, _, _, _, g2⟩ := (hK.2 2 (cR, .object hn) rfl).2
      exact Option.some.inj (g1.symm.trans g2)
    subst hcA
    refine hk_mkW r hq0 (hk_shne TB.2.2.2.1 hsh (by decide)) ?_ hN hP1 hD1 hS1 (hk_vot hsv).2 (hnx _ _ _ hr)
    rw [hk_ce4 hsh]
    congr 7
    funext z
    simp [hk_nw, hk_z, hk_rf]
  · cases hrun

end HKJ4
