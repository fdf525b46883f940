/-! ===== calls and ends ===== -/
section HKJ5
variable {SH : Nat → hk_Sh} {pb big ch : Nat} {cls : List vw_C} {kd : Nat → Nat → Nat} {wl : List Jvm.Cond} {mt : Nat → Option hk_Q} {hn : String} {sc : Nat}
variable {p : Program} {l : Launch} {e : Env} {R : Room} {s : State} {m : MethodId} {args : Array Value} {below : List Frame} {meth : Method} {c : Code} {Q : State → Prop}
variable {D : va_G} {cI cZ cR cJ : ClassId} {A : Nat → Prop} {H0 : Heap} {b0 mx n0 s0 dd : Nat} {ad0 : Nat → Nat} {al0 : List Nat} {own : String} {cc : ByteArray} {scr : Option (Nat × (Nat → Int32))} {cl : Nat → List Value → hk_H → hk_O}
def hk_push (rr : Option Value) (r0 : List Value) : List Value := match rr with
  | none => r0
  | some v => v :: r0
/-- behind a call -/
theorem hk_backW {ini : Bool} (FX : hk_Fx SH ch cls kd wl mt hn sc p l R s m args meth c D cI cZ cR cJ A H0 b0 mx dd own cc scr cl ini) {ad : Nat → Nat} {h h2 : hk_H} {H : Heap} {locs : List Loc} {ls : Array Slot} {L : hk_L} {st r0 stv : List Value} {pc y : Nat} {a : List Value} {rr : Option Value} {q : hk_Q} {av : Array Value} (r : hk_R SH cls kd sc D cI cZ cR cJ A H0 b0 ad0 al0 mx n0 s0 ad h H locs ls L st) (hq : cl y a h = some (rr, h2)) (hmt : mt y = some q) (hva : ∀ v ∈ a, hk_vo sc h.2.2.2 v) (hr0 : ∀ v ∈ r0, hk_vo sc h.2.2.2 v)
    (hrn : va_Run p l e R s m args below meth c H locs (h.2.2.2.length - n0) (hk_sl SH cls h.2.2.2 - s0) (h2.2.2.2.length - h.2.2.2.length) (hk_sl SH cls h2.2.2.2 - hk_sl SH cls h.2.2.2) (F0 m pc ls stv) (r0.map (hk_tv ad)) (hk_Qc SH cls kd hn sc D cI cZ cR cJ ad H.size h h2 rr av) (va_A (hk_ws SH cls kd cI cZ cR cJ ad h) H.size))
    (kk : hk_K SH cls kd sc D cI cZ cR cJ A H0 b0 ad0 al0 mx n0 s0 p l e R s m args below meth c Q (pc + 3) L (hk_push rr r0) h2) :
    W p l e R s m args below meth c H locs (h.2.2.2.length - n0) (hk_sl SH cls h.2.2.2 - s0) Q (F0 m pc ls stv) := by
  obtain ⟨TB, hx, hb, hml, hown, hts, hK, hA, hin, hX, hcl, hge, hR1, hR2, hAO⟩ := id FX
  obtain ⟨hP, hD, hS, hwf, hlv, hlen, hsv, hLv, hadb, hn0, hs0⟩ := id r
  have hg : hk_ge h h2 := hge _ _ _ _ hq
  have hg1 := hk_ge_len hg
  have hg2 := hk_ge_sl (SH := SH) (cls := cls) hg
  have hA1 : ∀ z, va_A (hk_ws SH cls kd cI cZ cR cJ ad h) H.size z → A z := by
    rintro z (⟨k, e, he⟩ | hz)
    · exact hD.2 _ _ he
    · exact hA z (Nat.le_trans hS.1 hz)
  have go : ∀ (u : Nat → Nat) (t : State) (H1 : Heap) (locs1 : List Loc), t.heap = H1 → hk_ag sc ad u h.2.2.2 → hk_wf h2 → hk_B SH cls kd hn D cI cZ cR cJ h2 (va_A (hk_ws SH cls kd cI cZ cR cJ ad h) H.size) u t → va_S A H0 H1 locs1 → (∀ v ∈ (hk_push rr r0), hk_vo sc h2.2.2.2 v) → W p l e R s m args below meth c H1 locs1 (h.2.2.2.length - n0 + (h2.2.2.2.length - h.2.2.2.length)) (hk_sl SH cls h.2.2.2 - s0 + (hk_sl SH cls h2.2.2.2 - hk_sl SH cls h.2.2.2)) Q (F0 m (pc + 3) ls ((hk_push rr r0).map (hk_tv u))) := by
    intro u t H1 locs1 ht hu hwf2 hB hS1 hv
    obtain ⟨b1, b2, b3⟩ := hB
    rw [ht] at b1
    have g := kk u H1 locs1 ls ⟨b1, b3.weaken (fun _ z _ hz => hA1 _ hz), hS1, hwf2, by rw [hk_pl_congr hu hLv]; exact hlv, hlen, hv, fun v h1 => hk_vo_ge hg (hLv v h1), ⟨(hu sc (Or.inr rfl)).trans hadb.1, fun z hz => (hu z (hz.elim (fun h1 => Or.inl (hadb.2.2 z h1)) Or.inr)).trans (hadb.2.1 z hz), fun z hz => hk_mem_ge hg (hadb.2.2 z hz)⟩, Nat.le_trans hn0 hg1, Nat.le_trans hs0 hg2⟩
    unfold hk_G at g
    exact W.cs (by omega) (by omega) g
  have hno : (∀ x y z w, ¬ hk_Qc SH cls kd hn sc D cI cZ cR cJ ad H.size h h2 rr x y z w) → W p l e R s m args below meth c H locs (h.2.2.2.length - n0) (hk_sl SH cls h.2.2.2 - s0) Q (F0 m pc ls stv) := fun hf => by
    intro T hT X
    obtain ⟨v, st0, t, T', L', -, -, -, -, -, hqa, -⟩ := hrn T hT X
    exact absurd hqa (hf _ _ _ _)
  rcases rr with _ | v
  rotate_left
  cases v
  case float => exact hno fun _ _ _ _ h => h
  case double => exact hno fun _ _ _ _ h => h
  case null => exact hno fun _ _ _ _ h => h
  case ref => exact hno fun _ _ _ _ h => h
  case retAddr => exact hno fun _ _ _ _ h => h
  rotate_left
  rotate_left
  · refine va_callv (a := av) hrn hS (fun z _ h1 => hA1 z h1) hA1 (fun u t H1 locs1 ht hvm hw hB hz1 hk1 hS1 => ?_)
    have g := go u t H1 locs1 ht hw.1 hw.2 hB hS1 (fun v h1 => hk_vo_ge hg (hr0 v h1))
    unfold hk_push at g
    dsimp only at g
    rw [hk_map_congr hw.1 hr0] at g
    exact g
  · rename_i x
    refine va_calli (a := av) hrn hS (fun z _ h1 => hA1 z h1) hA1 (fun y u t H1 locs1 ht hvm hw hB hz1 hk1 hS1 => ?_)
    obtain ⟨rfl, hw⟩ := hw
    have g := go u t H1 locs1 ht hw.1 hw.2 hB hS1 (hk_voc trivial (fun v h1 => hk_vo_ge hg (hr0 v h1)))
    unfold hk_push at g
    dsimp only at g
    rw [List.map_cons, hk_map_congr hw.1 hr0] at g
    exact g
  · rename_i x
    refine va_calll (a := av) hrn hS (fun z _ h1 => hA1 z h1) hA1 (fun y u t H1 locs1 ht hvm hw hB hz1 hk1 hS1 => ?_)
    obtain ⟨rfl, hw⟩ := hw
    have g := go u t H1 locs1 ht hw.1 hw.2 hB hS1 (hk_voc trivial (fun v h1 => hk_vo_ge hg (hr0 v h1)))
    unfold hk_push at g
    dsimp only at g
    rw [List.map_cons, hk_map_congr hw.1 hr0] at g
    exact g
set_option maxRecDepth 100000 in
theorem hk_roomL {m d r : Nat} (h : m ≤ 40) (h2 : 64 * d + 1064 ≤ r) : 8 + (m + 11) + (64 * d + 1000) ≤ r := by omega
theorem hk_good {wl : List Jvm.Cond} (h : ∀ w ∈ wl, goodWord w = true) {ws : List Jvm.Cond} (hs : ∀ w ∈ ws, w ∈ wl) : GoodIn wl ws := fun w hw => ⟨hs w hw, good_of_word (h w (hs w hw))⟩
theorem hk_mw_in {q : hk_Q} (h : Jvm.Cond.code q.1 q.2.1 q.2.2.1 q.2.2.2.1 ∈ wl) : ∀ w ∈ hk_mw wl q, w ∈ wl := fun w hw => by
  rcases List.mem_cons.mp hw with rfl | h1
  · exact h
  · exact h1
theorem hk_inv_eq {nxr : hk_L → List Value → hk_H → hk_O} {a c d : Nat} {L : hk_L} {st : List Value} {h : hk_H} {qf : Option Value × hk_H} (he : hk_inv SH none nxr (fun y a h k => (cl y a h).bind (fun q => k q.1 q.2)) a c d L st h = some qf) : ∃ (av r0 : List Value) (rr : Option Value) (h2 : hk_H), st = av.reverse ++ r0 ∧ av.length = c ∧ hk_cat r0 ≤ 8 ∧ (∀ ci, d = ci + 1 → ∃ p0 As, av = .ref p0 :: As ∧ SH p0 = (1, ci)) ∧ cl a av h = some (rr, h2) ∧ nxr L (hk_push rr r0) h2 = some qf := by
  unfold hk_inv at he
  split at he
  · next hc =>
    simp only [Bool.and_eq_true] at hc
    obtain ⟨⟨h1, h2⟩, h3⟩ := hc
    have h1 := Nat.le_of_ble_eq_true h1
    have h2 := Nat.le_of_ble_eq_true h2
    cases hq : cl a (st.take c).reverse h with
    | none => dsimp only at he; rw [hq] at he; cases he
    | some x =>
      obtain ⟨rr, h2'⟩ := x
      dsimp only at he
      rw [hq] at he
      refine ⟨(st.take c).reverse, st.drop c, rr, h2', by rw [List.reverse_reverse, List.take_append_drop], by rw [List.length_reverse, List.length_take]; omega, h2, fun ci hd => ?_, hq, ?_⟩
      · subst hd
        simp only at h3
        split at h3
        · next p0 As hA => exact ⟨p0, As, hA, hk_is_eq h3⟩
        · cases h3
      · cases rr <;> exact he
  · cases he

set_option maxHeartbeats 1000000 in
theorem hk_z_invokevirtual {ini : Bool} {rk : Nat} (FX : hk_Fx SH ch cls kd wl mt hn sc p l R s m args meth c D cI cZ cR cJ A H0 b0 mx dd own cc scr cl ini) {pc len a b c1 d : Nat} {v : Int32} {w : Int64} {sw : List (Int32 × Nat)} {i : Nat} (hdg : decode cc pc = .ok (.invokevirtual i, len)) (hck : hk_iok cls kd mt hn own ini rk mx pc (.invokevirtual i) len a b c1 d v w sw = true) {nxr : hk_L → List Value → hk_H → hk_O} {jmr : Nat → hk_L → List Value → hk_H → hk_O} {qf : Option Value × hk_H} (hnx : ∀ L st h, nxr L st h = some qf → hk_K SH cls kd sc D cI cZ cR cJ A H0 b0 ad0 al0 mx n0 s0 p l e R s m args below meth c Q (pc + len) L st h) (hjm : ∀ t L st h, jmr t L st h = some qf → hk_K SH cls kd sc D cI cZ cR cJ A H0 b0 ad0 al0 mx n0 s0 p l e R s m args below meth c Q t L st h) (hgr : ∀ L st h, nxr L st h = some qf → hk_ge h qf.2) (hR3 : qf.2.2.2.2.length - n0 ≤ R.cells ∧ hk_sl SH cls qf.2.2.2.2 - s0 ≤ R.slots) {L : hk_L} {st : List Value} {h : hk_H} (hrun : hk_stp SH pb big none nxr jmr (fun P d k => @ite _ P d k none) (fun P d k0 k1 => @ite _ P d k0 k1) (fun y a h k => (cl y a h).bind (fun q => k q.1 q.2)) (fun r h => some (r, h)) scr ch (.invokevirtual i) a c1 d v w sw L st h = some qf) : hk_K SH cls kd sc D cI cZ cR cJ A H0 b0 ad0 al0 mx n0 s0 p l e R s m args below meth c Q pc L st h := by
  obtain ⟨TB, hx, hb, hml, hown, hts, hK, hA, hin, hX, hcl, hge, hR1, hR2, hAO⟩ := id FX
  intro ad H locs ls r
  obtain ⟨hP, hD, hS, hwf, hlv, hlen, hsv, hLv, hadb, hn0, hs0⟩ := id r
  unfold hk_G
  have go : ∀ {st' : List Value}, nxr L st' h = some qf → (∀ v ∈ st', hk_vo sc h.2.2.2 v) → hk_G SH cls p l e R s m args below meth c Q n0 s0 ad h H locs (pc + len) ls st' := fun h1 h2 => hnx _ _ _ h1 _ _ _ _ (r.stk h2)
  have gj : ∀ {t : Nat} {st' : List Value}, jmr t L st' h = some qf → (∀ v ∈ st', hk_vo sc h.2.2.2 v) → hk_G SH cls p l e R s m args below meth c Q n0 s0 ad h H locs t ls st' := fun h1 h2 => hjm _ _ _ _ h1 _ _ _ _ (r.stk h2)
  unfold hk_G at go gj
  simp only [hk_iok, Bool.and_eq_true, decide_eq_true_eq] at hck
  simp only [hk_stp] at hrun
  obtain ⟨hck, rfl⟩ := hck
  unfold hk_call1 at hrun
  split at hrun
  · cases hrun
  · simp only [hk_cok, Bool.and_eq_true, decide_eq_true_eq] at hck
    exact absurd hck.1 (by decide)
  · simp only [hk_cok, Bool.and_eq_true, decide_eq_true_eq] at hck
    exact absurd hck.1 (by decide)
  · simp only [hk_cok, Bool.and_eq_true, decide_eq_true_eq] at hck
    exact absurd hck.1 (by decide)
  · simp only [hk_cok, Bool.and_eq_true, decide_eq_true_eq] at hck
    exact absurd hck.1 (by decide)
  · simp only [hk_cok, Bool.and_eq_true, decide_eq_true_eq] at hck
    exact absurd hck.1 (by decide)
  · simp only [hk_cok, Bool.and_eq_true, decide_eq_true_eq] at hck
    exact absurd hck.1 (by decide)
  · next y =>
    obtain ⟨av, r0, rr, h2, hst, havl, hcat, hrecv, hq, hr⟩ := hk_inv_eq hrun
    simp only [hk_cok] at hck
    split at hck
    · cases hck
    next q hmt =>
    simp only [Bool.and_eq_true, Bool.or_eq_true, decide_eq_true_eq] at hck
    have hMo := TB.2.2.2.2.2.2.2.2.2 _ _ hmt
    obtain ⟨m1, m2, m3, m4, m5, m6, m7, m8, m9, m10, -, -, -⟩ := hMo
    have hva : ∀ v ∈ av, hk_vo sc h.2.2.2 v := fun v hv => hsv v (by rw [hst]; exact List.mem_append_left _ (List.mem_reverse.mpr hv))
    have hr0 : ∀ v ∈ r0, hk_vo sc h.2.2.2 v := fun v hv => hsv v (by rw [hst]; exact List.mem_append_right _ hv)
    obtain ⟨hal, hMet⟩ := hcl _ _ _ _ _ hq q hmt hwf hva
    have hM := hMet D cI cZ cR cJ ad H.size
    have hg : hk_ge h h2 := hge _ _ _ _ hq
    have hg1 := hk_ge_len hg
    have hg2 := hk_ge_sl (SH := SH) (cls := cls) hg
    have hgg := hgr _ _ _ hr
    have hg3 := hk_ge_len hgg
    have hg4 := hk_ge_sl (SH := SH) (cls := cls) hgg
    have hgw := TB.2.2.2.2.2.1
    have hroom : (hk_rm SH cls dd h h2).frames + 1 ≤ R.frames ∧ 8 + (q.2.2.1 + 11) + (hk_rm SH cls dd h h2).locals ≤ R.locals := ⟨hR1, hk_roomL m8 hR2⟩
    have hf : h.2.2.2.length - n0 + (h2.2.2.2.length - h.2.2.2.length) ≤ R.cells ∧ hk_sl SH cls h.2.2.2 - s0 + (hk_sl SH cls h2.2.2.2 - hk_sl SH cls h.2.2.2) ≤ R.slots := ⟨by omega, by omega⟩
    have hcat2 : ((r0.map (hk_tv ad)).map fun v => v.category).sum ≤ 8 := by rw [hk_cat_map]; exact hcat
    have hpre : ∀ U : State, U.heap = H → s.WarmedH U.vm → hk_Pc SH cls kd hn D cI cZ cR cJ ad H.size av h (av.map (hk_tv ad)).toArray U := fun U hU hW => ⟨rfl, by rw [hU], by rw [hU]; exact hP, va_K.moved hW.alike hK, hD.weaken (fun _ _ _ _ => trivial), hAO.warm hW⟩
    obtain ⟨hc1, ⟨hw, hk0⟩, hd⟩ := hck
    split at hd
    · cases hd
    next ci =>
    split at hd
    · cases hd
    next rc hrc =>
    have hd := of_decide_eq_true hd
    obtain ⟨p0, As, rfl, hsh⟩ := hrecv ci rfl
    have hal2 := hk_aliv TB.2.2.2.1 (hva _ List.mem_cons_self) hsh (by decide)
    obtain ⟨k, hk1, hk2⟩ := hk_ws_at (SH := SH) (cls := cls) (kd := kd) (cI := cI) (cZ := cZ) (cR := cR) (cJ := cJ) (ad := ad) hal2
    rw [hk_ce1 hsh] at hk2
    obtain ⟨i1, i2, i3⟩ := m5 hk0
    have hstk : st.map (hk_tv ad) = (As.map (hk_tv ad)).reverse ++ .ref (ad p0) :: r0.map (hk_tv ad) := by
      rw [hst]
      simp [hk_tv]
    rw [hstk]
    have hG : GoodIn wl (wsV own i rc.1 q.1 (hk_mw wl q)) := hk_good hgw fun w hw1 => by
      unfold wsV at hw1
      rcases List.mem_append.mp hw1 with h1 | h1
      · simp only [List.mem_cons, List.not_mem_nil, or_false] at h1
        rcases h1 with rfl | rfl | rfl | rfl
        · exact TB.2.2.2.2.2.2.1.2.2.2 _ _ hw
        · exact i1
        · rw [hd]; exact i2
        · rw [hd]; exact m4
      · exact hk_mw_in m3 w h1
    have hlenA : As.length = q.2.2.2.2.1.1 - 1 := by
      have := havl
      simp at this
      omega
    have hm9 : (parseMethodDescriptor q.1.desc).map (fun d => d.parameters.length) = some (q.2.2.2.2.1.1 - 1) := by
      rw [m9, hk0]
      rfl
    exact hk_backW FX r hq hmt hva hr0 (va_runV (As := As.map (hk_tv ad)) (rest := r0.map (hk_tv ad)) ⟨hx, hb, hml, hown, hts⟩ hM (cwV (q.2.2.2.2.1.1 - 1) hts hG rfl rfl rfl ⟨hd.symm, m2.1, m2.2, hm9⟩ hroom) ⟨hk_Pc_blind, va_recv hK hP hrc hk2, hpre⟩ rfl (by rw [List.length_map]; exact hlenA) hlv.1 rfl (lv_room hcat2) hdg hf) (hnx _ _ _ hr)

set_option maxHeartbeats 1000000 in
theorem hk_z_invokespecial {ini : Bool} {rk : Nat} (FX : hk_Fx SH ch cls kd wl mt hn sc p l R s m args meth c D cI cZ cR cJ A H0 b0 mx dd own cc scr cl ini) {pc len a b c1 d : Nat} {v : Int32} {w : Int64} {sw : List (Int32 × Nat)} {i : Nat} (hdg : decode cc pc = .ok (.invokespecial i, len)) (hck : hk_iok cls kd mt hn own ini rk mx pc (.invokespecial i) len a b c1 d v w sw = true) {nxr : hk_L → List Value → hk_H → hk_O} {jmr : Nat → hk_L → List Value → hk_H → hk_O} {qf : Option Value × hk_H} (hnx : ∀ L st h, nxr L st h = some qf → hk_K SH cls kd sc D cI cZ cR cJ A H0 b0 ad0 al0 mx n0 s0 p l e R s m args below meth c Q (pc + len) L st h) (hjm : ∀ t L st h, jmr t L st h = some qf → hk_K SH cls kd sc D cI cZ cR cJ A H0 b0 ad0 al0 mx n0 s0 p l e R s m args below meth c Q t L st h) (hgr : ∀ L st h, nxr L st h = some qf → hk_ge h qf.2) (hR3 : qf.2.2.2.2.length - n0 ≤ R.cells ∧ hk_sl SH cls qf.2.2.2.2 - s0 ≤ R.slots) {L : hk_L} {st : List Value} {h : hk_H} (hrun : hk_stp SH pb big none nxr jmr (fun P d k => @ite _ P d k none) (fun P d k0 k1 => @ite _ P d k0 k1) (fun y a h k => (cl y a h).bind (fun q => k q.1 q.2)) (fun r h => some (r, h)) scr ch (.invokespecial i) a c1 d v w sw L st h = some qf) : hk_K SH cls kd sc D cI cZ cR cJ A H0 b0 ad0 al0 mx n0 s0 p l e R s m args below meth c Q pc L st h := by
  obtain ⟨TB, hx, hb, hml, hown, hts, hK, hA, hin, hX, hcl, hge, hR1, hR2, hAO⟩ := id FX
  intro ad H locs ls r
  obtain ⟨hP, hD, hS, hwf, hlv, hlen, hsv, hLv, hadb, hn0, hs0⟩ := id r
  unfold hk_G
  have go : ∀ {st' : List Value}, nxr L st' h = some qf → (∀ v ∈ st', hk_vo sc h.2.2.2 v) → hk_G SH cls p l e R s m args below meth c Q n0 s0 ad h H locs (pc + len) ls st' := fun h1 h2 => hnx _ _ _ h1 _ _ _ _ (r.stk h2)
  have gj : ∀ {t : Nat} {st' : List Value}, jmr t L st' h = some qf → (∀ v ∈ st', hk_vo sc h.2.2.2 v) → hk_G SH cls p l e R s m args below meth c Q n0 s0 ad h H locs t ls st' := fun h1 h2 => hjm _ _ _ _ h1 _ _ _ _ (r.stk h2)
  unfold hk_G at go gj
  simp only [hk_iok, Bool.and_eq_true, decide_eq_true_eq] at hck
  simp only [hk_stp] at hrun
  obtain ⟨hck, rfl⟩ := hck
  unfold hk_call1 at hrun
  split at hrun
  · cases hrun
  · split at hrun
    · next q0 r0 =>
      split at hrun
      · next hcat =>
        simp only [hk_cok, Bool.and_eq_true, decide_eq_true_eq] at hck
        have hcat := Nat.le_of_ble_eq_true hcat
        have hcat2 : ((r0.map (hk_tv ad)).map fun v => v.category).sum ≤ 8 := by rw [hk_cat_map]; exact hcat
        refine W.objInit hx hb hown (hts _ (TB.2.2.2.2.2.2.1.2.2.2 _ _ hck.2)) (hts _ TB.2.2.2.2.2.2.2.1.1) (hts _ TB.2.2.2.2.2.2.2.1.2.1) (a := ad q0) (rest := r0.map (hk_tv ad)) rfl (by show ls.size = _; rw [hml]; exact hlv.1) rfl hdg (by omega) ?_ (go hrun (hk_vot hsv).2)
        show 2 * 0 + _ + 12 ≤ R.locals
        omega
      · cases hrun
    · cases hrun
  · simp only [hk_cok, Bool.and_eq_true, decide_eq_true_eq] at hck
    exact absurd hck.1 (by decide)
  · simp only [hk_cok, Bool.and_eq_true, decide_eq_true_eq] at hck
    exact absurd hck.1 (by decide)
  · simp only [hk_cok, Bool.and_eq_true, decide_eq_true_eq] at hck
    exact absurd hck.1 (by decide)
  · simp only [hk_cok, Bool.and_eq_true, decide_eq_true_eq] at hck
    exact absurd hck.1 (by decide)
  · simp only [hk_cok, Bool.and_eq_true, decide_eq_true_eq] at hck
    exact absurd hck.1 (by decide)
  · next y =>
    obtain ⟨av, r0, rr, h2, hst, havl, hcat, hrecv, hq, hr⟩ := hk_inv_eq hrun
    simp only [hk_cok] at hck
    split at hck
    · cases hck
    next q hmt =>
    simp only [Bool.and_eq_true, Bool.or_eq_true, decide_eq_true_eq] at hck
    have hMo := TB.2.2.2.2.2.2.2.2.2 _ _ hmt
    obtain ⟨m1, m2, m3, m4, m5, m6, m7, m8, m9, m10, -, -, -⟩ := hMo
    have hva : ∀ v ∈ av, hk_vo sc h.2.2.2 v := fun v hv => hsv v (by rw [hst]; exact List.mem_append_left _ (List.mem_reverse.mpr hv))
    have hr0 : ∀ v ∈ r0, hk_vo sc h.2.2.2 v := fun v hv => hsv v (by rw [hst]; exact List.mem_append_right _ hv)
    obtain ⟨hal, hMet⟩ := hcl _ _ _ _ _ hq q hmt hwf hva
    have hM := hMet D cI cZ cR cJ ad H.size
    have hg : hk_ge h h2 := hge _ _ _ _ hq
    have hg1 := hk_ge_len hg
    have hg2 := hk_ge_sl (SH := SH) (cls := cls) hg
    have hgg := hgr _ _ _ hr
    have hg3 := hk_ge_len hgg
    have hg4 := hk_ge_sl (SH := SH) (cls := cls) hgg
    have hgw := TB.2.2.2.2.2.1
    have hroom : (hk_rm SH cls dd h h2).frames + 1 ≤ R.frames ∧ 8 + (q.2.2.1 + 11) + (hk_rm SH cls dd h h2).locals ≤ R.locals := ⟨hR1, hk_roomL m8 hR2⟩
    have hf : h.2.2.2.length - n0 + (h2.2.2.2.length - h.2.2.2.length) ≤ R.cells ∧ hk_sl SH cls h.2.2.2 - s0 + (hk_sl SH cls h2.2.2.2 - hk_sl SH cls h.2.2.2) ≤ R.slots := ⟨by omega, by omega⟩
    have hcat2 : ((r0.map (hk_tv ad)).map fun v => v.category).sum ≤ 8 := by rw [hk_cat_map]; exact hcat
    have hpre : ∀ U : State, U.heap = H → s.WarmedH U.vm → hk_Pc SH cls kd hn D cI cZ cR cJ ad H.size av h (av.map (hk_tv ad)).toArray U := fun U hU hW => ⟨rfl, by rw [hU], by rw [hU]; exact hP, va_K.moved hW.alike hK, hD.weaken (fun _ _ _ _ => trivial), hAO.warm hW⟩
    obtain ⟨hc1, ⟨⟨hw, hk0⟩, hd1⟩, hd0⟩ := hck
    obtain ⟨ci, rfl⟩ : ∃ ci, d = ci + 1 := ⟨d - 1, by omega⟩
    obtain ⟨p0, As, rfl, hsh⟩ := hrecv ci rfl
    obtain ⟨i1, i2, i3, i4⟩ := m6 hk0
    have hstk : st.map (hk_tv ad) = (As.map (hk_tv ad)).reverse ++ .ref (ad p0) :: r0.map (hk_tv ad) := by
      rw [hst]
      simp [hk_tv]
    rw [hstk]
    have hlenA : As.length = q.2.2.2.2.1.1 - 1 := by
      have := havl
      simp at this
      omega
    have hm9 : (parseMethodDescriptor q.1.desc).map (fun d => d.parameters.length) = some (q.2.2.2.2.1.1 - 1) := by
      rw [m9, hk0]
      rfl
    have hMW : hk_mw wl q = Cond.code q.1 q.2.1 q.2.2.1 none :: wl := by unfold hk_mw; rw [i3]
    exact hk_backW FX r hq hmt hva hr0 (va_runI (As := As.map (hk_tv ad)) (rest := r0.map (hk_tv ad)) ⟨hx, hb, hml, hown, hts⟩ hM (cwI (q.2.2.2.2.1.1 - 1) hts (hk_good hgw (hk_mw_in m3)) hMW rfl rfl (hts _ m4) (hts _ (TB.2.2.2.2.2.2.1.2.2.2 _ _ hw)) (hts _ i2) i1 ⟨m2.1, m2.2, hm9⟩ hroom) ⟨hk_Pc_blind, hpre⟩ rfl (by rw [List.length_map]; exact hlenA) hlv.1 rfl (lv_room hcat2) hdg hf) (hnx _ _ _ hr)

set_option maxHeartbeats 1000000 in
theorem hk_z_invokestatic {ini : Bool} {rk : Nat} (FX : hk_Fx SH ch cls kd wl mt hn sc p l R s m args meth c D cI cZ cR cJ A H0 b0 mx dd own cc scr cl ini) {pc len a b c1 d : Nat} {v : Int32} {w : Int64} {sw : List (Int32 × Nat)} {i : Nat} (hdg : decode cc pc = .ok (.invokestatic i, len)) (hck : hk_iok cls kd mt hn own ini rk mx pc (.invokestatic i) len a b c1 d v w sw = true) {nxr : hk_L → List Value → hk_H → hk_O} {jmr : Nat → hk_L → List Value → hk_H → hk_O} {qf : Option Value × hk_H} (hnx : ∀ L st h, nxr L st h = some qf → hk_K SH cls kd sc D cI cZ cR cJ A H0 b0 ad0 al0 mx n0 s0 p l e R s m args below meth c Q (pc + len) L st h) (hjm : ∀ t L st h, jmr t L st h = some qf → hk_K SH cls kd sc D cI cZ cR cJ A H0 b0 ad0 al0 mx n0 s0 p l e R s m args below meth c Q t L st h) (hgr : ∀ L st h, nxr L st h = some qf → hk_ge h qf.2) (hR3 : qf.2.2.2.2.length - n0 ≤ R.cells ∧ hk_sl SH cls qf.2.2.2.2 - s0 ≤ R.slots) {L : hk_L} {st : List Value} {h : hk_H} (hrun : hk_stp SH pb big none nxr jmr (fun P d k => @ite _ P d k none) (fun P d k0 k1 => @ite _ P d k0 k1) (fun y a h k => (cl y a h).bind (fun q => k q.1 q.2)) (fun r h => some (r, h)) scr ch (.invokestatic i) a c1 d v w sw L st h = some qf) : hk_K SH cls kd sc D cI cZ cR cJ A H0 b0 ad0 al0 mx n0 s0 p l e R s m args below meth c Q pc L st h := by
  obtain ⟨TB, hx, hb, hml, hown, hts, hK, hA, hin, hX, hcl, hge, hR1, hR2, hAO⟩ := id FX
  intro ad H locs ls r
  obtain ⟨hP, hD, hS, hwf, hlv, hlen, hsv, hLv, hadb, hn0, hs0⟩ := id r
  unfold hk_G
  have go : ∀ {st' : List Value}, nxr L st' h = some qf → (∀ v ∈ st', hk_vo sc h.2.2.2 v) → hk_G SH cls p l e R s m args below meth c Q n0 s0 ad h H locs (pc + len) ls st' := fun h1 h2 => hnx _ _ _ h1 _ _ _ _ (r.stk h2)
  have gj : ∀ {t : Nat} {st' : List Value}, jmr t L st' h = some qf → (∀ v ∈ st', hk_vo sc h.2.2.2 v) → hk_G SH cls p l e R s m args below meth c Q n0 s0 ad h H locs t ls st' := fun h1 h2 => hjm _ _ _ _ h1 _ _ _ _ (r.stk h2)
  unfold hk_G at go gj
  simp only [hk_iok, Bool.and_eq_true, decide_eq_true_eq] at hck
  simp only [hk_stp] at hrun
  obtain ⟨hck, rfl⟩ := hck
  unfold hk_call1 at hrun
  split at hrun
  · cases hrun
  · simp only [hk_cok, Bool.and_eq_true, decide_eq_true_eq] at hck
    exact absurd hck.1 (by decide)
  · unfold hk_acp at hrun
    split at hrun
    · next n dp q1 sp q0 r0 =>
      split at hrun
      · next n0' n1' hsh0 hsh1 =>
        split at hrun
        · next hcat =>
          dsimp only at hrun
          split at hrun
          · next hcond =>
            obtain ⟨g1, g2, g3, g4, g5⟩ := hcond
            obtain ⟨w1, w2, v3⟩ := hk_vo2 hsv
            obtain ⟨w4, w5, v6⟩ := hk_vo2 v3
            obtain ⟨w7, w8⟩ := hk_vot v6
            have hal0 := hk_aliv TB.2.2.2.1 w7 hsh0 (by decide)
            have hal1 := hk_aliv TB.2.2.2.1 w4 hsh1 (by decide)
            obtain ⟨k0, ha1, ha2⟩ := hk_ws_at (SH := SH) (cls := cls) (kd := kd) (cI := cI) (cZ := cZ) (cR := cR) (cJ := cJ) (ad := ad) hal0
            obtain ⟨k1, hb1, hb2⟩ := hk_ws_at (SH := SH) (cls := cls) (kd := kd) (cI := cI) (cZ := cZ) (cR := cR) (cJ := cJ) (ad := ad) hal1
            rw [hk_ce2 hsh0] at ha2
            rw [hk_ce2 hsh1] at hb2
            simp only [hk_cok, Bool.and_eq_true, decide_eq_true_eq] at hck
            have hcat := Nat.le_of_ble_eq_true hcat
            have hcat2 : ((r0.map (hk_tv ad)).map fun v => v.category).sum ≤ 8 := by rw [hk_cat_map]; exact hcat
            have hnfw : nativeFrameWords "java/lang/System" "arraycopy" 5 ≤ 900 := by decide +kernel
            exact va_copyi (D := D) (tys := hk_tys cI cZ cR cJ hn) hx hb (by rw [hml]; exact hlv.1.symm) hown (hts _ (TB.2.2.2.2.2.2.1.2.2.2 _ _ hck.2)) (hts _ TB.2.2.2.2.2.2.2.2.1.1) (hts _ TB.2.2.2.2.2.2.2.2.1.2.1) (hts _ TB.2.2.2.2.2.2.2.2.1.2.2) hK hP hD hS k0 k1 0 0 ha2 hb2 rfl rfl rfl g1 g2 g3 g4 g5 (fun _ _ => rfl) (by omega) (by omega) hdg (fun H1 locs1 hP1 hD1 hS1 => hnx _ _ _ hrun _ _ _ _ (r.wr (h' := (hk_cp h.1 q0 q1 sp.toNatClampNeg dp.toNatClampNeg n.toNatClampNeg, h.2)) hb1 (by rw [hk_ce2 hsh1]; simp [hk_cp]) rfl (fun z hz => ⟨by simp [hk_cp, hz], rfl, rfl⟩) hwf hP1 hD1 hS1 w8))
          · cases hrun
        · cases hrun
      · cases hrun
    · cases hrun
  · unfold hk_mi at hrun
    split at hrun
    · next y x r0 =>
      split at hrun
      · next hcat =>
        have hcat := Nat.le_of_ble_eq_true hcat
        have hcat2 : ((r0.map (hk_tv ad)).map fun v => v.category).sum ≤ 8 := by rw [hk_cat_map]; exact hcat
        simp only [hk_cok, Bool.and_eq_true, decide_eq_true_eq] at hck
        have hgg := hgr _ _ _ hrun
        have hg3 := hk_ge_len hgg
        have hg4 := hk_ge_sl (SH := SH) (cls := cls) hgg
        obtain ⟨w0, ws⟩ := TB.2.2.2.2.2.2.2.1.2.2
        exact va_mmax hx hb (by rw [hml]; exact hlv.1.symm) hown (hts _ (TB.2.2.2.2.2.2.1.2.2.2 _ _ hck.2)) (hts _ (TB.2.2.2.2.2.2.2.1.2.2.2.1.1)) (hts _ w0) (hts _ (TB.2.2.2.2.2.2.2.1.2.2.2.1.2)) (by omega) (by omega) (by omega) (by omega) hdg (go hrun (hk_voc trivial (hk_vo2 hsv).2.2))
      · cases hrun
    · cases hrun
  · unfold hk_mi at hrun
    split at hrun
    · next y x r0 =>
      split at hrun
      · next hcat =>
        have hcat := Nat.le_of_ble_eq_true hcat
        have hcat2 : ((r0.map (hk_tv ad)).map fun v => v.category).sum ≤ 8 := by rw [hk_cat_map]; exact hcat
        simp only [hk_cok, Bool.and_eq_true, decide_eq_true_eq] at hck
        have hgg := hgr _ _ _ hrun
        have hg3 := hk_ge_len hgg
        have hg4 := hk_ge_sl (SH := SH) (cls := cls) hgg
        obtain ⟨w0, ws⟩ := TB.2.2.2.2.2.2.2.1.2.2
        exact va_mmin hx hb (by rw [hml]; exact hlv.1.symm) hown (hts _ (TB.2.2.2.2.2.2.1.2.2.2 _ _ hck.2)) (hts _ (TB.2.2.2.2.2.2.2.1.2.2.2.2.1.1)) (hts _ w0) (hts _ (TB.2.2.2.2.2.2.2.1.2.2.2.2.1.2)) (by omega) (by omega) (by omega) (by omega) hdg (go hrun (hk_voc trivial (hk_vo2 hsv).2.2))
      · cases hrun
    · cases hrun
  · unfold hk_mj at hrun
    split at hrun
    · next y x r0 =>
      split at hrun
      · next hcat =>
        have hcat := Nat.le_of_ble_eq_true hcat
        have hcat2 : ((r0.map (hk_tv ad)).map fun v => v.category).sum ≤ 8 := by rw [hk_cat_map]; exact hcat
        simp only [hk_cok, Bool.and_eq_true, decide_eq_true_eq] at hck
        have hgg := hgr _ _ _ hrun
        have hg3 := hk_ge_len hgg
        have hg4 := hk_ge_sl (SH := SH) (cls := cls) hgg
        obtain ⟨w0, ws⟩ := TB.2.2.2.2.2.2.2.1.2.2
        exact va_mmax_long hx hb (by rw [hml]; exact hlv.1.symm) hown (hts _ (TB.2.2.2.2.2.2.1.2.2.2 _ _ hck.2)) (hts _ (TB.2.2.2.2.2.2.2.1.2.2.2.2.2.1.1)) (hts _ w0) (hts _ (TB.2.2.2.2.2.2.2.1.2.2.2.2.2.1.2)) (by omega) (by omega) (by omega) (by omega) hdg (go hrun (hk_voc trivial (hk_vo2 hsv).2.2))
      · cases hrun
    · cases hrun
  · unfold hk_mj at hrun
    split at hrun
    · next y x r0 =>
      split at hrun
      · next hcat =>
        have hcat := Nat.le_of_ble_eq_true hcat
        have hcat2 : ((r0.map (hk_tv ad)).map fun v => v.category).sum ≤ 8 := by rw [hk_cat_map]; exact hcat
        simp only [hk_cok, Bool.and_eq_true, decide_eq_true_eq] at hck
        have hgg := hgr _ _ _ hrun
        have hg3 := hk_ge_len hgg
        have hg4 := hk_ge_sl (SH := SH) (cls := cls) hgg
        obtain ⟨w0, ws⟩ := TB.2.2.2.2.2.2.2.1.2.2
        exact va_mmin_long hx hb (by rw [hml]; exact hlv.1.symm) hown (hts _ (TB.2.2.2.2.2.2.1.2.2.2 _ _ hck.2)) (hts _ (TB.2.2.2.2.2.2.2.1.2.2.2.2.2.2.1)) (hts _ w0) (hts _ (TB.2.2.2.2.2.2.2.1.2.2.2.2.2.2.2)) (by omega) (by omega) (by omega) (by omega) hdg (go hrun (hk_voc trivial (hk_vo2 hsv).2.2))
      · cases hrun
    · cases hrun
  · next y =>
    obtain ⟨av, r0, rr, h2, hst, havl, hcat, hrecv, hq, hr⟩ := hk_inv_eq hrun
    simp only [hk_cok] at hck
    split at hck
    · cases hck
    next q hmt =>
    simp only [Bool.and_eq_true, Bool.or_eq_true, decide_eq_true_eq] at hck
    have hMo := TB.2.2.2.2.2.2.2.2.2 _ _ hmt
    obtain ⟨m1, m2, m3, m4, m5, m6, m7, m8, m9, m10, -, -, -⟩ := hMo
    have hva : ∀ v ∈ av, hk_vo sc h.2.2.2 v := fun v hv => hsv v (by rw [hst]; exact List.mem_append_left _ (List.mem_reverse.mpr hv))
    have hr0 : ∀ v ∈ r0, hk_vo sc h.2.2.2 v := fun v hv => hsv v (by rw [hst]; exact List.mem_append_right _ hv)
    obtain ⟨hal, hMet⟩ := hcl _ _ _ _ _ hq q hmt hwf hva
    have hM := hMet D cI cZ cR cJ ad H.size
    have hg : hk_ge h h2 := hge _ _ _ _ hq
    have hg1 := hk_ge_len hg
    have hg2 := hk_ge_sl (SH := SH) (cls := cls) hg
    have hgg := hgr _ _ _ hr
    have hg3 := hk_ge_len hgg
    have hg4 := hk_ge_sl (SH := SH) (cls := cls) hgg
    have hgw := TB.2.2.2.2.2.1
    have hroom : (hk_rm SH cls dd h h2).frames + 1 ≤ R.frames ∧ 8 + (q.2.2.1 + 11) + (hk_rm SH cls dd h h2).locals ≤ R.locals := ⟨hR1, hk_roomL m8 hR2⟩
    have hf : h.2.2.2.length - n0 + (h2.2.2.2.length - h.2.2.2.length) ≤ R.cells ∧ hk_sl SH cls h.2.2.2 - s0 + (hk_sl SH cls h2.2.2.2 - hk_sl SH cls h.2.2.2) ≤ R.slots := ⟨by omega, by omega⟩
    have hcat2 : ((r0.map (hk_tv ad)).map fun v => v.category).sum ≤ 8 := by rw [hk_cat_map]; exact hcat
    have hpre : ∀ U : State, U.heap = H → s.WarmedH U.vm → hk_Pc SH cls kd hn D cI cZ cR cJ ad H.size av h (av.map (hk_tv ad)).toArray U := fun U hU hW => ⟨rfl, by rw [hU], by rw [hU]; exact hP, va_K.moved hW.alike hK, hD.weaken (fun _ _ _ _ => trivial), hAO.warm hW⟩
    obtain ⟨hc1, ⟨hd0, hk0⟩, hlk⟩ := hck
    have hstk : st.map (hk_tv ad) = (av.map (hk_tv ad)).reverse ++ r0.map (hk_tv ad) := by
      rw [hst]
      simp
    rw [hstk]
    have i1 := m7 hk0
    have hm9 : (parseMethodDescriptor q.1.desc).map (fun d => d.parameters.length) = some q.2.2.2.2.1.1 := by
      rw [m9, hk0]
      rfl
    rcases hlk with hw | hz
    · have hG : GoodIn wl (va_wsS own i q.1 (hk_mw wl q)) := hk_good hgw fun w hw1 => by
        unfold va_wsS at hw1
        rcases List.mem_append.mp hw1 with h1 | h1
        · simp only [List.mem_cons, List.not_mem_nil, or_false] at h1
          rcases h1 with rfl | rfl | rfl
          · exact TB.2.2.2.2.2.2.1.2.2.2 _ _ hw
          · exact i1
          · exact m4
        · exact hk_mw_in m3 w h1
      exact hk_backW FX r hq hmt hva hr0 (va_runS (As := av.map (hk_tv ad)) (rest := r0.map (hk_tv ad)) ⟨hx, hb, hml, hown, hts⟩ hM (va_cwS q.2.2.2.2.1.1 hts hG rfl rfl rfl ⟨m2.1, m2.2, hm9⟩ hroom) ⟨hk_Pc_blind, hpre⟩ rfl (by rw [List.length_map]; exact hal) hlv.1 rfl (lv_room hcat2) hdg hf) (hnx _ _ _ hr)
    · obtain ⟨z, hz1, hz2⟩ : ∃ z, hk_nl[b]? = some z ∧ (z.1 = own ∧ z.2.1 = i) ∧ z.2.2.1 = q.1 := by
        rw [Option.any_eq_true] at hz
        obtain ⟨z, h1, h2⟩ := hz
        simp only [Bool.and_eq_true, decide_eq_true_eq] at h2
        exact ⟨z, h1, h2⟩
      have hw := hAO.2 z (List.mem_of_getElem? hz1)
      rw [hz2.1.1, hz2.1.2, hz2.2] at hw
      exact hk_backW FX r hq hmt hva hr0 (va_runSN (As := av.map (hk_tv ad)) (rest := r0.map (hk_tv ad)) ⟨hx, hb, hml, hown, hts⟩ hM ⟨va_cnB q.2.2.2.2.1.1 hts (hk_good hgw (hk_mw_in m3)) rfl rfl rfl hw (hts _ m4) ⟨m2.1, m2.2, hm9⟩ hroom, hts _ i1, trivial⟩ ⟨hk_Pc_blind, hpre⟩ rfl (by rw [List.length_map]; exact hal) hlv.1 rfl (lv_room hcat2) hdg hf) (hnx _ _ _ hr)

/-- an end: what stands on the stack, and the instruction -/
def hk_End (cc : ByteArray) (rk pc : Nat) (rr : Option Value) (st : List Value) : Prop :=
  (∃ x, rr = some (.int x) ∧ st = [.int x] ∧ decode cc pc = .ok (.ireturn, 1) ∧ (rk = 1 ∨ rk = 2 ∧ (x = 0 ∨ x = 1))) ∨ (∃ x, rr = some (.long x) ∧ st = [.long x] ∧ decode cc pc = .ok (.lreturn, 1) ∧ rk = 3) ∨ (rr = none ∧ st = [] ∧ decode cc pc = .ok (.return_, 1) ∧ rk = 0)

set_option maxHeartbeats 1000000 in
theorem hk_z_ireturn {ini : Bool} {rk : Nat} (FX : hk_Fx SH ch cls kd wl mt hn sc p l R s m args meth c D cI cZ cR cJ A H0 b0 mx dd own cc scr cl ini) {pc len a b c1 d : Nat} {v : Int32} {w : Int64} {sw : List (Int32 × Nat)}  (hdg : decode cc pc = .ok (.ireturn, len)) (hck : hk_iok cls kd mt hn own ini rk mx pc (.ireturn) len a b c1 d v w sw = true) {nxr : hk_L → List Value → hk_H → hk_O} {jmr : Nat → hk_L → List Value → hk_H → hk_O} {qf : Option Value × hk_H} (hnx : ∀ L st h, nxr L st h = some qf → hk_K SH cls kd sc D cI cZ cR cJ A H0 b0 ad0 al0 mx n0 s0 p l e R s m args below meth c Q (pc + len) L st h) (hjm : ∀ t L st h, jmr t L st h = some qf → hk_K SH cls kd sc D cI cZ cR cJ A H0 b0 ad0 al0 mx n0 s0 p l e R s m args below meth c Q t L st h) (hend : ∀ pc L st h rr, qf = (rr, h) → hk_End cc rk pc rr st → hk_K SH cls kd sc D cI cZ cR cJ A H0 b0 ad0 al0 mx n0 s0 p l e R s m args below meth c Q pc L st h) {L : hk_L} {st : List Value} {h : hk_H} (hrun : hk_stp SH pb big none nxr jmr (fun P d k => @ite _ P d k none) (fun P d k0 k1 => @ite _ P d k0 k1) (fun y a h k => (cl y a h).bind (fun q => k q.1 q.2)) (fun r h => some (r, h)) scr ch (.ireturn) a c1 d v w sw L st h = some qf) : hk_K SH cls kd sc D cI cZ cR cJ A H0 b0 ad0 al0 mx n0 s0 p l e R s m args below meth c Q pc L st h := by
  obtain ⟨TB, hx, hb, hml, hown, hts, hK, hA, hin, hX, hcl, hge, hR1, hR2, hAO⟩ := id FX
  intro ad H locs ls r
  obtain ⟨hP, hD, hS, hwf, hlv, hlen, hsv, hLv, hadb, hn0, hs0⟩ := id r
  unfold hk_G
  have go : ∀ {st' : List Value}, nxr L st' h = some qf → (∀ v ∈ st', hk_vo sc h.2.2.2 v) → hk_G SH cls p l e R s m args below meth c Q n0 s0 ad h H locs (pc + len) ls st' := fun h1 h2 => hnx _ _ _ h1 _ _ _ _ (r.stk h2)
  have gj : ∀ {t : Nat} {st' : List Value}, jmr t L st' h = some qf → (∀ v ∈ st', hk_vo sc h.2.2.2 v) → hk_G SH cls p l e R s m args below meth c Q n0 s0 ad h H locs t ls st' := fun h1 h2 => hjm _ _ _ _ h1 _ _ _ _ (r.stk h2)
  unfold hk_G at go gj
  simp only [hk_iok, Bool.and_eq_true, decide_eq_true_eq] at hck
  simp only [hk_stp] at hrun
  obtain ⟨rfl, hrk⟩ := hck
  split at hrun
  · next x =>
    split at hrun
    · next hdd =>
      have hrk : rk = 1 := by
        rcases hrk with h1 | ⟨-, h1⟩
        · exact h1
        · cases h1
      exact hend _ _ _ _ _ (Option.some.inj hrun).symm (Or.inl ⟨x, rfl, rfl, hdg, Or.inl hrk⟩) _ _ _ _ r
    · split at hrun
      · next hx01 =>
        refine hend _ _ _ _ _ (Option.some.inj hrun).symm (Or.inl ⟨x, rfl, rfl, hdg, ?_⟩) _ _ _ _ r
        rcases hrk with h1 | ⟨h1, -⟩
        · exact Or.inl h1
        · exact Or.inr ⟨h1, hx01⟩
      · cases hrun
  · cases hrun

set_option maxHeartbeats 1000000 in
theorem hk_z_lreturn {ini : Bool} {rk : Nat} (FX : hk_Fx SH ch cls kd wl mt hn sc p l R s m args meth c D cI cZ cR cJ A H0 b0 mx dd own cc scr cl ini) {pc len a b c1 d : Nat} {v : Int32} {w : Int64} {sw : List (Int32 × Nat)}  (hdg : decode cc pc = .ok (.lreturn, len)) (hck : hk_iok cls kd mt hn own ini rk mx pc (.lreturn) len a b c1 d v w sw = true) {nxr : hk_L → List Value → hk_H → hk_O} {jmr : Nat → hk_L → List Value → hk_H → hk_O} {qf : Option Value × hk_H} (hnx : ∀ L st h, nxr L st h = some qf → hk_K SH cls kd sc D cI cZ cR cJ A H0 b0 ad0 al0 mx n0 s0 p l e R s m args below meth c Q (pc + len) L st h) (hjm : ∀ t L st h, jmr t L st h = some qf → hk_K SH cls kd sc D cI cZ cR cJ A H0 b0 ad0 al0 mx n0 s0 p l e R s m args below meth c Q t L st h) (hend : ∀ pc L st h rr, qf = (rr, h) → hk_End cc rk pc rr st → hk_K SH cls kd sc D cI cZ cR cJ A H0 b0 ad0 al0 mx n0 s0 p l e R s m args below meth c Q pc L st h) {L : hk_L} {st : List Value} {h : hk_H} (hrun : hk_stp SH pb big none nxr jmr (fun P d k => @ite _ P d k none) (fun P d k0 k1 => @ite _ P d k0 k1) (fun y a h k => (cl y a h).bind (fun q => k q.1 q.2)) (fun r h => some (r, h)) scr ch (.lreturn) a c1 d v w sw L st h = some qf) : hk_K SH cls kd sc D cI cZ cR cJ A H0 b0 ad0 al0 mx n0 s0 p l e R s m args below meth c Q pc L st h := by
  obtain ⟨TB, hx, hb, hml, hown, hts, hK, hA, hin, hX, hcl, hge, hR1, hR2, hAO⟩ := id FX
  intro ad H locs ls r
  obtain ⟨hP, hD, hS, hwf, hlv, hlen, hsv, hLv, hadb, hn0, hs0⟩ := id r
  unfold hk_G
  have go : ∀ {st' : List Value}, nxr L st' h = some qf → (∀ v ∈ st', hk_vo sc h.2.2.2 v) → hk_G SH cls p l e R s m args below meth c Q n0 s0 ad h H locs (pc + len) ls st' := fun h1 h2 => hnx _ _ _ h1 _ _ _ _ (r.stk h2)
  have gj : ∀ {t : Nat} {st' : List Value}, jmr t L st' h = some qf → (∀ v ∈ st', hk_vo sc h.2.2.2 v) → hk_G SH cls p l e R s m args below meth c Q n0 s0 ad h H locs t ls st' := fun h1 h2 => hjm _ _ _ _ h1 _ _ _ _ (r.stk h2)
  unfold hk_G at go gj
  simp only [hk_iok, Bool.and_eq_true, decide_eq_true_eq] at hck
  simp only [hk_stp] at hrun
  obtain ⟨rfl, hrk⟩ := hck
  split at hrun
  · next x => exact hend _ _ _ _ _ (Option.some.inj hrun).symm (Or.inr (Or.inl ⟨x, rfl, rfl, hdg, hrk⟩)) _ _ _ _ r
  · cases hrun

set_option maxHeartbeats 1000000 in
theorem hk_z_return {ini : Bool} {rk : Nat} (FX : hk_Fx SH ch cls kd wl mt hn sc p l R s m args meth c D cI cZ cR cJ A H0 b0 mx dd own cc scr cl ini) {pc len a b c1 d : Nat} {v : Int32} {w : Int64} {sw : List (Int32 × Nat)}  (hdg : decode cc pc = .ok (.return_, len)) (hck : hk_iok cls kd mt hn own ini rk mx pc (.return_) len a b c1 d v w sw = true) {nxr : hk_L → List Value → hk_H → hk_O} {jmr : Nat → hk_L → List Value → hk_H → hk_O} {qf : Option Value × hk_H} (hnx : ∀ L st h, nxr L st h = some qf → hk_K SH cls kd sc D cI cZ cR cJ A H0 b0 ad0 al0 mx n0 s0 p l e R s m args below meth c Q (pc + len) L st h) (hjm : ∀ t L st h, jmr t L st h = some qf → hk_K SH cls kd sc D cI cZ cR cJ A H0 b0 ad0 al0 mx n0 s0 p l e R s m args below meth c Q t L st h) (hend : ∀ pc L st h rr, qf = (rr, h) → hk_End cc rk pc rr st → hk_K SH cls kd sc D cI cZ cR cJ A H0 b0 ad0 al0 mx n0 s0 p l e R s m args below meth c Q pc L st h) {L : hk_L} {st : List Value} {h : hk_H} (hrun : hk_stp SH pb big none nxr jmr (fun P d k => @ite _ P d k none) (fun P d k0 k1 => @ite _ P d k0 k1) (fun y a h k => (cl y a h).bind (fun q => k q.1 q.2)) (fun r h => some (r, h)) scr ch (.return_) a c1 d v w sw L st h = some qf) : hk_K SH cls kd sc D cI cZ cR cJ A H0 b0 ad0 al0 mx n0 s0 p l e R s m args below meth c Q pc L st h := by
  obtain ⟨TB, hx, hb, hml, hown, hts, hK, hA, hin, hX, hcl, hge, hR1, hR2, hAO⟩ := id FX
  intro ad H locs ls r
  obtain ⟨hP, hD, hS, hwf, hlv, hlen, hsv, hLv, hadb, hn0, hs0⟩ := id r
  unfold hk_G
  have go : ∀ {st' : List Value}, nxr L st' h = some qf → (∀ v ∈ st', hk_vo sc h.2.2.2 v) → hk_G SH cls p l e R s m args below meth c Q n0 s0 ad h H locs (pc + len) ls st' := fun h1 h2 => hnx _ _ _ h1 _ _ _ _ (r.stk h2)
  have gj : ∀ {t : Nat} {st' : List Value}, jmr t L st' h = some qf → (∀ v ∈ st', hk_vo sc h.2.2.2 v) → hk_G SH cls p l e R s m args below meth c Q n0 s0 ad h H locs t ls st' := fun h1 h2 => hjm _ _ _ _ h1 _ _ _ _ (r.stk h2)
  unfold hk_G at go gj
  simp only [hk_iok, Bool.and_eq_true, decide_eq_true_eq] at hck
  simp only [hk_stp] at hrun
  obtain ⟨rfl, hrk⟩ := hck
  split at hrun
  · exact hend _ _ _ _ _ (Option.some.inj hrun).symm (Or.inr (Or.inr ⟨rfl, rfl, hdg, hrk⟩)) _ _ _ _ r
  · cases hrun

end HKJ5
