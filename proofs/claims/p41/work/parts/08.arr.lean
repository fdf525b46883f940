/-! ===== rows of arrays, new cells, switches ===== -/
section HKJ3
variable {SH : Nat → hk_Sh} {pb big ch : Nat} {cls : List vw_C} {kd : Nat → Nat → Nat} {wl : List Jvm.Cond} {mt : Nat → Option hk_Q} {hn : String} {sc : Nat}
variable {p : Program} {l : Launch} {e : Env} {R : Room} {s : State} {m : MethodId} {args : Array Value} {below : List Frame} {meth : Method} {c : Code} {Q : State → Prop}
variable {D : va_G} {cI cZ cR cJ : ClassId} {A : Nat → Prop} {H0 : Heap} {b0 mx n0 s0 dd : Nat} {ad0 : Nat → Nat} {al0 : List Nat} {own : String} {cc : ByteArray} {scr : Option (Nat × (Nat → Int32))} {cl : Nat → List Value → hk_H → hk_O}

set_option maxHeartbeats 1000000 in
theorem hk_z_iaload {ini : Bool} {rk : Nat} (FX : hk_Fx SH ch cls kd wl mt hn sc p l R s m args meth c D cI cZ cR cJ A H0 b0 mx dd own cc scr cl ini) {pc len a b c1 d : Nat} {v : Int32} {w : Int64} {sw : List (Int32 × Nat)}  (hdg : decode cc pc = .ok (.iaload, len)) (hck : hk_iok cls kd mt hn own ini rk mx pc (.iaload) len a b c1 d v w sw = true) {nxr : hk_L → List Value → hk_H → hk_O} {jmr : Nat → hk_L → List Value → hk_H → hk_O} {qf : Option Value × hk_H} (hnx : ∀ L st h, nxr L st h = some qf → hk_K SH cls kd sc D cI cZ cR cJ A H0 b0 ad0 al0 mx n0 s0 p l e R s m args below meth c Q (pc + len) L st h) (hjm : ∀ t L st h, jmr t L st h = some qf → hk_K SH cls kd sc D cI cZ cR cJ A H0 b0 ad0 al0 mx n0 s0 p l e R s m args below meth c Q t L st h)  {L : hk_L} {st : List Value} {h : hk_H} (hrun : hk_stp SH pb big none nxr jmr (fun P d k => @ite _ P d k none) (fun P d k0 k1 => @ite _ P d k0 k1) (fun y a h k => (cl y a h).bind (fun q => k q.1 q.2)) (fun r h => some (r, h)) scr ch (.iaload) a c1 d v w sw L st h = some qf) : hk_K SH cls kd sc D cI cZ cR cJ A H0 b0 ad0 al0 mx n0 s0 p l e R s m args below meth c Q pc L st h := by
  obtain ⟨TB, hx, hb, hml, hown, hts, hK, hA, hin, hX, hcl, hge, hR1, hR2, hAO⟩ := id FX
  intro ad H locs ls r
  obtain ⟨hP, hD, hS, hwf, hlv, hlen, hsv, hLv, hadb, hn0, hs0⟩ := id r
  unfold hk_G
  have go : ∀ {st' : List Value}, nxr L st' h = some qf → (∀ v ∈ st', hk_vo sc h.2.2.2 v) → hk_G SH cls p l e R s m args below meth c Q n0 s0 ad h H locs (pc + len) ls st' := fun h1 h2 => hnx _ _ _ h1 _ _ _ _ (r.stk h2)
  have gj : ∀ {t : Nat} {st' : List Value}, jmr t L st' h = some qf → (∀ v ∈ st', hk_vo sc h.2.2.2 v) → hk_G SH cls p l e R s m args below meth c Q n0 s0 ad h H locs t ls st' := fun h1 h2 => hjm _ _ _ _ h1 _ _ _ _ (r.stk h2)
  unfold hk_G at go gj
  simp only [hk_iok, Bool.and_eq_true, decide_eq_true_eq] at hck
  simp only [hk_stp] at hrun
  obtain rfl := hck
  unfold hk_ial at hrun
  split at hrun
  · next i q0 r0 =>
    split at hrun
    · next n hsh =>
      dsimp only at hrun
      split at hrun
      · next hin =>
        have hal := hk_aliv TB.2.2.2.1 (hk_vo2 hsv).2.1 hsh (by decide)
        obtain ⟨k, hk1, hk2⟩ := hk_ws_at (SH := SH) (cls := cls) (kd := kd) (cI := cI) (cZ := cZ) (cR := cR) (cJ := cJ) (ad := ad) hal
        rw [hk_ce2 hsh] at hk2
        exact va_iald (D := D) (tys := hk_tys cI cZ cR cJ hn) hx hb hK hP k 0 hk2 rfl hin hdg (go hrun (hk_voc trivial (hk_vo2 hsv).2.2))
      · cases hrun
    · next n hsh =>
      split at hrun
      · next sq =>
        dsimp only at hrun
        split at hrun
        · next hin =>
          have hq0 : q0 = sc := TB.2.2.1 _ _ hsh
          obtain ⟨x1, x2, x3⟩ := hX sq rfl
          have e0 : hk_tv ad (.ref q0) = .ref b0 := by rw [hq0]; exact congrArg Value.ref hadb.1
          show W p l e R s m args below meth c H locs _ _ Q (F0 m pc ls (.int i :: hk_tv ad (.ref q0) :: r0.map (hk_tv ad)))
          rw [e0]
          exact va_sld hx hb x1 x2 x3 hS hin hdg (go hrun (hk_voc trivial (hk_vo2 hsv).2.2))
        · cases hrun
      · cases hrun
    · cases hrun
  · cases hrun

set_option maxHeartbeats 1000000 in
theorem hk_z_baload {ini : Bool} {rk : Nat} (FX : hk_Fx SH ch cls kd wl mt hn sc p l R s m args meth c D cI cZ cR cJ A H0 b0 mx dd own cc scr cl ini) {pc len a b c1 d : Nat} {v : Int32} {w : Int64} {sw : List (Int32 × Nat)}  (hdg : decode cc pc = .ok (.baload, len)) (hck : hk_iok cls kd mt hn own ini rk mx pc (.baload) len a b c1 d v w sw = true) {nxr : hk_L → List Value → hk_H → hk_O} {jmr : Nat → hk_L → List Value → hk_H → hk_O} {qf : Option Value × hk_H} (hnx : ∀ L st h, nxr L st h = some qf → hk_K SH cls kd sc D cI cZ cR cJ A H0 b0 ad0 al0 mx n0 s0 p l e R s m args below meth c Q (pc + len) L st h) (hjm : ∀ t L st h, jmr t L st h = some qf → hk_K SH cls kd sc D cI cZ cR cJ A H0 b0 ad0 al0 mx n0 s0 p l e R s m args below meth c Q t L st h)  {L : hk_L} {st : List Value} {h : hk_H} (hrun : hk_stp SH pb big none nxr jmr (fun P d k => @ite _ P d k none) (fun P d k0 k1 => @ite _ P d k0 k1) (fun y a h k => (cl y a h).bind (fun q => k q.1 q.2)) (fun r h => some (r, h)) scr ch (.baload) a c1 d v w sw L st h = some qf) : hk_K SH cls kd sc D cI cZ cR cJ A H0 b0 ad0 al0 mx n0 s0 p l e R s m args below meth c Q pc L st h := by
  obtain ⟨TB, hx, hb, hml, hown, hts, hK, hA, hin, hX, hcl, hge, hR1, hR2, hAO⟩ := id FX
  intro ad H locs ls r
  obtain ⟨hP, hD, hS, hwf, hlv, hlen, hsv, hLv, hadb, hn0, hs0⟩ := id r
  unfold hk_G
  have go : ∀ {st' : List Value}, nxr L st' h = some qf → (∀ v ∈ st', hk_vo sc h.2.2.2 v) → hk_G SH cls p l e R s m args below meth c Q n0 s0 ad h H locs (pc + len) ls st' := fun h1 h2 => hnx _ _ _ h1 _ _ _ _ (r.stk h2)
  have gj : ∀ {t : Nat} {st' : List Value}, jmr t L st' h = some qf → (∀ v ∈ st', hk_vo sc h.2.2.2 v) → hk_G SH cls p l e R s m args below meth c Q n0 s0 ad h H locs t ls st' := fun h1 h2 => hjm _ _ _ _ h1 _ _ _ _ (r.stk h2)
  unfold hk_G at go gj
  simp only [hk_iok, Bool.and_eq_true, decide_eq_true_eq] at hck
  simp only [hk_stp] at hrun
  obtain rfl := hck
  unfold hk_bal at hrun
  split at hrun
  · next i q0 r0 =>
    split at hrun
    · next n hsh =>
      dsimp only at hrun
      split at hrun
      · next hin =>
        have hal := hk_aliv TB.2.2.2.1 (hk_vo2 hsv).2.1 hsh (by decide)
        obtain ⟨k, hk1, hk2⟩ := hk_ws_at (SH := SH) (cls := cls) (kd := kd) (cI := cI) (cZ := cZ) (cR := cR) (cJ := cJ) (ad := ad) hal
        rw [hk_ce3 hsh] at hk2
        exact va_zald (D := D) (tys := hk_tys cI cZ cR cJ hn) hx hb hK hP k 1 hk2 rfl hin hdg (go hrun (hk_voc trivial (hk_vo2 hsv).2.2))
      · cases hrun
    · cases hrun
  · cases hrun

set_option maxHeartbeats 1000000 in
theorem hk_z_laload {ini : Bool} {rk : Nat} (FX : hk_Fx SH ch cls kd wl mt hn sc p l R s m args meth c D cI cZ cR cJ A H0 b0 mx dd own cc scr cl ini) {pc len a b c1 d : Nat} {v : Int32} {w : Int64} {sw : List (Int32 × Nat)}  (hdg : decode cc pc = .ok (.laload, len)) (hck : hk_iok cls kd mt hn own ini rk mx pc (.laload) len a b c1 d v w sw = true) {nxr : hk_L → List Value → hk_H → hk_O} {jmr : Nat → hk_L → List Value → hk_H → hk_O} {qf : Option Value × hk_H} (hnx : ∀ L st h, nxr L st h = some qf → hk_K SH cls kd sc D cI cZ cR cJ A H0 b0 ad0 al0 mx n0 s0 p l e R s m args below meth c Q (pc + len) L st h) (hjm : ∀ t L st h, jmr t L st h = some qf → hk_K SH cls kd sc D cI cZ cR cJ A H0 b0 ad0 al0 mx n0 s0 p l e R s m args below meth c Q t L st h)  {L : hk_L} {st : List Value} {h : hk_H} (hrun : hk_stp SH pb big none nxr jmr (fun P d k => @ite _ P d k none) (fun P d k0 k1 => @ite _ P d k0 k1) (fun y a h k => (cl y a h).bind (fun q => k q.1 q.2)) (fun r h => some (r, h)) scr ch (.laload) a c1 d v w sw L st h = some qf) : hk_K SH cls kd sc D cI cZ cR cJ A H0 b0 ad0 al0 mx n0 s0 p l e R s m args below meth c Q pc L st h := by
  obtain ⟨TB, hx, hb, hml, hown, hts, hK, hA, hin, hX, hcl, hge, hR1, hR2, hAO⟩ := id FX
  intro ad H locs ls r
  obtain ⟨hP, hD, hS, hwf, hlv, hlen, hsv, hLv, hadb, hn0, hs0⟩ := id r
  unfold hk_G
  have go : ∀ {st' : List Value}, nxr L st' h = some qf → (∀ v ∈ st', hk_vo sc h.2.2.2 v) → hk_G SH cls p l e R s m args below meth c Q n0 s0 ad h H locs (pc + len) ls st' := fun h1 h2 => hnx _ _ _ h1 _ _ _ _ (r.stk h2)
  have gj : ∀ {t : Nat} {st' : List Value}, jmr t L st' h = some qf → (∀ v ∈ st', hk_vo sc h.2.2.2 v) → hk_G SH cls p l e R s m args below meth c Q n0 s0 ad h H locs t ls st' := fun h1 h2 => hjm _ _ _ _ h1 _ _ _ _ (r.stk h2)
  unfold hk_G at go gj
  simp only [hk_iok, Bool.and_eq_true, decide_eq_true_eq] at hck
  simp only [hk_stp] at hrun
  obtain rfl := hck
  unfold hk_lal at hrun
  split at hrun
  · next i q0 r0 =>
    split at hrun
    · next n hsh =>
      dsimp only at hrun
      split at hrun
      · next hin =>
        have hal := hk_aliv TB.2.2.2.1 (hk_vo2 hsv).2.1 hsh (by decide)
        obtain ⟨k, hk1, hk2⟩ := hk_ws_at (SH := SH) (cls := cls) (kd := kd) (cI := cI) (cZ := cZ) (cR := cR) (cJ := cJ) (ad := ad) hal
        rw [hk_ce5 hsh] at hk2
        exact va_lald (D := D) (tys := hk_tys cI cZ cR cJ hn) hx hb hK hP k 3 hk2 rfl hin hdg (go hrun (hk_voc trivial (hk_vo2 hsv).2.2))
      · cases hrun
    · cases hrun
  · cases hrun

set_option maxHeartbeats 1000000 in
theorem hk_z_aaload {ini : Bool} {rk : Nat} (FX : hk_Fx SH ch cls kd wl mt hn sc p l R s m args meth c D cI cZ cR cJ A H0 b0 mx dd own cc scr cl ini) {pc len a b c1 d : Nat} {v : Int32} {w : Int64} {sw : List (Int32 × Nat)}  (hdg : decode cc pc = .ok (.aaload, len)) (hck : hk_iok cls kd mt hn own ini rk mx pc (.aaload) len a b c1 d v w sw = true) {nxr : hk_L → List Value → hk_H → hk_O} {jmr : Nat → hk_L → List Value → hk_H → hk_O} {qf : Option Value × hk_H} (hnx : ∀ L st h, nxr L st h = some qf → hk_K SH cls kd sc D cI cZ cR cJ A H0 b0 ad0 al0 mx n0 s0 p l e R s m args below meth c Q (pc + len) L st h) (hjm : ∀ t L st h, jmr t L st h = some qf → hk_K SH cls kd sc D cI cZ cR cJ A H0 b0 ad0 al0 mx n0 s0 p l e R s m args below meth c Q t L st h)  {L : hk_L} {st : List Value} {h : hk_H} (hrun : hk_stp SH pb big none nxr jmr (fun P d k => @ite _ P d k none) (fun P d k0 k1 => @ite _ P d k0 k1) (fun y a h k => (cl y a h).bind (fun q => k q.1 q.2)) (fun r h => some (r, h)) scr ch (.aaload) a c1 d v w sw L st h = some qf) : hk_K SH cls kd sc D cI cZ cR cJ A H0 b0 ad0 al0 mx n0 s0 p l e R s m args below meth c Q pc L st h := by
  obtain ⟨TB, hx, hb, hml, hown, hts, hK, hA, hin, hX, hcl, hge, hR1, hR2, hAO⟩ := id FX
  intro ad H locs ls r
  obtain ⟨hP, hD, hS, hwf, hlv, hlen, hsv, hLv, hadb, hn0, hs0⟩ := id r
  unfold hk_G
  have go : ∀ {st' : List Value}, nxr L st' h = some qf → (∀ v ∈ st', hk_vo sc h.2.2.2 v) → hk_G SH cls p l e R s m args below meth c Q n0 s0 ad h H locs (pc + len) ls st' := fun h1 h2 => hnx _ _ _ h1 _ _ _ _ (r.stk h2)
  have gj : ∀ {t : Nat} {st' : List Value}, jmr t L st' h = some qf → (∀ v ∈ st', hk_vo sc h.2.2.2 v) → hk_G SH cls p l e R s m args below meth c Q n0 s0 ad h H locs t ls st' := fun h1 h2 => hjm _ _ _ _ h1 _ _ _ _ (r.stk h2)
  unfold hk_G at go gj
  simp only [hk_iok, Bool.and_eq_true, decide_eq_true_eq] at hck
  simp only [hk_stp] at hrun
  obtain rfl := hck
  unfold hk_aal at hrun
  split at hrun
  · next i q0 r0 =>
    split at hrun
    · next n hsh =>
      dsimp only at hrun
      split at hrun
      · next hin =>
        have hal := hk_aliv TB.2.2.2.1 (hk_vo2 hsv).2.1 hsh (by decide)
        obtain ⟨k, hk1, hk2⟩ := hk_ws_at (SH := SH) (cls := cls) (kd := kd) (cI := cI) (cZ := cZ) (cR := cR) (cJ := cJ) (ad := ad) hal
        rw [hk_ce4 hsh] at hk2
        exact va_aldq (D := D) (tys := hk_tys cI cZ cR cJ hn) hx hb hK hP k 2 hk2 rfl hin hdg (by rw [← hk_tv_rv]; exact go hrun (hk_voc (hk_rv_vo hwf hal) (hk_vo2 hsv).2.2))
      · cases hrun
    · cases hrun
  · cases hrun

set_option maxHeartbeats 1000000 in
theorem hk_z_iastore {ini : Bool} {rk : Nat} (FX : hk_Fx SH ch cls kd wl mt hn sc p l R s m args meth c D cI cZ cR cJ A H0 b0 mx dd own cc scr cl ini) {pc len a b c1 d : Nat} {v : Int32} {w : Int64} {sw : List (Int32 × Nat)}  (hdg : decode cc pc = .ok (.iastore, len)) (hck : hk_iok cls kd mt hn own ini rk mx pc (.iastore) len a b c1 d v w sw = true) {nxr : hk_L → List Value → hk_H → hk_O} {jmr : Nat → hk_L → List Value → hk_H → hk_O} {qf : Option Value × hk_H} (hnx : ∀ L st h, nxr L st h = some qf → hk_K SH cls kd sc D cI cZ cR cJ A H0 b0 ad0 al0 mx n0 s0 p l e R s m args below meth c Q (pc + len) L st h) (hjm : ∀ t L st h, jmr t L st h = some qf → hk_K SH cls kd sc D cI cZ cR cJ A H0 b0 ad0 al0 mx n0 s0 p l e R s m args below meth c Q t L st h)  {L : hk_L} {st : List Value} {h : hk_H} (hrun : hk_stp SH pb big none nxr jmr (fun P d k => @ite _ P d k none) (fun P d k0 k1 => @ite _ P d k0 k1) (fun y a h k => (cl y a h).bind (fun q => k q.1 q.2)) (fun r h => some (r, h)) scr ch (.iastore) a c1 d v w sw L st h = some qf) : hk_K SH cls kd sc D cI cZ cR cJ A H0 b0 ad0 al0 mx n0 s0 p l e R s m args below meth c Q pc L st h := by
  obtain ⟨TB, hx, hb, hml, hown, hts, hK, hA, hin, hX, hcl, hge, hR1, hR2, hAO⟩ := id FX
  intro ad H locs ls r
  obtain ⟨hP, hD, hS, hwf, hlv, hlen, hsv, hLv, hadb, hn0, hs0⟩ := id r
  unfold hk_G
  have go : ∀ {st' : List Value}, nxr L st' h = some qf → (∀ v ∈ st', hk_vo sc h.2.2.2 v) → hk_G SH cls p l e R s m args below meth c Q n0 s0 ad h H locs (pc + len) ls st' := fun h1 h2 => hnx _ _ _ h1 _ _ _ _ (r.stk h2)
  have gj : ∀ {t : Nat} {st' : List Value}, jmr t L st' h = some qf → (∀ v ∈ st', hk_vo sc h.2.2.2 v) → hk_G SH cls p l e R s m args below meth c Q n0 s0 ad h H locs t ls st' := fun h1 h2 => hjm _ _ _ _ h1 _ _ _ _ (r.stk h2)
  unfold hk_G at go gj
  simp only [hk_iok, Bool.and_eq_true, decide_eq_true_eq] at hck
  simp only [hk_stp] at hrun
  obtain rfl := hck
  unfold hk_ias at hrun
  split at hrun
  · next x i q0 r0 =>
    split at hrun
    · next n hsh =>
      dsimp only at hrun
      split at hrun
      · next hin =>
        obtain ⟨v1, v2, v3⟩ := hk_vo2 hsv
        obtain ⟨v4, v5⟩ := hk_vot v3
        have hal := hk_aliv TB.2.2.2.1 v4 hsh (by decide)
        obtain ⟨k, hk1, hk2⟩ := hk_ws_at (SH := SH) (cls := cls) (kd := kd) (cI := cI) (cZ := cZ) (cR := cR) (cJ := cJ) (ad := ad) hal
        rw [hk_ce2 hsh] at hk2
        exact va_iast (D := D) (tys := hk_tys cI cZ cR cJ hn) hx hb hK hP hD hS k 0 hk2 rfl hin hdg (fun H1 locs1 hP1 hD1 hS1 => hnx _ _ _ hrun _ _ _ _ (r.wr (h' := (hk_u2 h.1 q0 i.toNatClampNeg x, h.2)) hk1 (by rw [hk_ce2 hsh]; simp [hk_u2, hk_uJ]) rfl (fun z hz => ⟨by simp [hk_u2, hz], rfl, rfl⟩) hwf hP1 hD1 hS1 v5))
      · cases hrun
    · cases hrun
  · cases hrun

set_option maxHeartbeats 1000000 in
theorem hk_z_bastore {ini : Bool} {rk : Nat} (FX : hk_Fx SH ch cls kd wl mt hn sc p l R s m args meth c D cI cZ cR cJ A H0 b0 mx dd own cc scr cl ini) {pc len a b c1 d : Nat} {v : Int32} {w : Int64} {sw : List (Int32 × Nat)}  (hdg : decode cc pc = .ok (.bastore, len)) (hck : hk_iok cls kd mt hn own ini rk mx pc (.bastore) len a b c1 d v w sw = true) {nxr : hk_L → List Value → hk_H → hk_O} {jmr : Nat → hk_L → List Value → hk_H → hk_O} {qf : Option Value × hk_H} (hnx : ∀ L st h, nxr L st h = some qf → hk_K SH cls kd sc D cI cZ cR cJ A H0 b0 ad0 al0 mx n0 s0 p l e R s m args below meth c Q (pc + len) L st h) (hjm : ∀ t L st h, jmr t L st h = some qf → hk_K SH cls kd sc D cI cZ cR cJ A H0 b0 ad0 al0 mx n0 s0 p l e R s m args below meth c Q t L st h)  {L : hk_L} {st : List Value} {h : hk_H} (hrun : hk_stp SH pb big none nxr jmr (fun P d k => @ite _ P d k none) (fun P d k0 k1 => @ite _ P d k0 k1) (fun y a h k => (cl y a h).bind (fun q => k q.1 q.2)) (fun r h => some (r, h)) scr ch (.bastore) a c1 d v w sw L st h = some qf) : hk_K SH cls kd sc D cI cZ cR cJ A H0 b0 ad0 al0 mx n0 s0 p l e R s m args below meth c Q pc L st h := by
  obtain ⟨TB, hx, hb, hml, hown, hts, hK, hA, hin, hX, hcl, hge, hR1, hR2, hAO⟩ := id FX
  intro ad H locs ls r
  obtain ⟨hP, hD, hS, hwf, hlv, hlen, hsv, hLv, hadb, hn0, hs0⟩ := id r
  unfold hk_G
  have go : ∀ {st' : List Value}, nxr L st' h = some qf → (∀ v ∈ st', hk_vo sc h.2.2.2 v) → hk_G SH cls p l e R s m args below meth c Q n0 s0 ad h H locs (pc + len) ls st' := fun h1 h2 => hnx _ _ _ h1 _ _ _ _ (r.stk h2)
  have gj : ∀ {t : Nat} {st' : List Value}, jmr t L st' h = some qf → (∀ v ∈ st', hk_vo sc h.2.2.2 v) → hk_G SH cls p l e R s m args below meth c Q n0 s0 ad h H locs t ls st' := fun h1 h2 => hjm _ _ _ _ h1 _ _ _ _ (r.stk h2)
  unfold hk_G at go gj
  simp only [hk_iok, Bool.and_eq_true, decide_eq_true_eq] at hck
  simp only [hk_stp] at hrun
  obtain rfl := hck
  unfold hk_bas at hrun
  split at hrun
  · next x i q0 r0 =>
    split at hrun
    · next n hsh =>
      dsimp only at hrun
      split at hrun
      · next hin =>
        obtain ⟨v1, v2, v3⟩ := hk_vo2 hsv
        obtain ⟨v4, v5⟩ := hk_vot v3
        have hal := hk_aliv TB.2.2.2.1 v4 hsh (by decide)
        obtain ⟨k, hk1, hk2⟩ := hk_ws_at (SH := SH) (cls := cls) (kd := kd) (cI := cI) (cZ := cZ) (cR := cR) (cJ := cJ) (ad := ad) hal
        rw [hk_ce3 hsh] at hk2
        exact va_zast (D := D) (tys := hk_tys cI cZ cR cJ hn) hx hb hK hP hD hS k 1 hk2 rfl hin hdg (fun H1 locs1 hP1 hD1 hS1 => hnx _ _ _ hrun _ _ _ _ (r.wr (h' := (hk_u2 h.1 q0 i.toNatClampNeg (vp_nar .boolean x), h.2)) hk1 (by rw [hk_ce3 hsh]; simp [hk_u2, hk_uJ]) rfl (fun z hz => ⟨by simp [hk_u2, hz], rfl, rfl⟩) hwf hP1 hD1 hS1 v5))
      · cases hrun
    · cases hrun
  · cases hrun

set_option maxHeartbeats 1000000 in
theorem hk_z_lastore {ini : Bool} {rk : Nat} (FX : hk_Fx SH ch cls kd wl mt hn sc p l R s m args meth c D cI cZ cR cJ A H0 b0 mx dd own cc scr cl ini) {pc len a b c1 d : Nat} {v : Int32} {w : Int64} {sw : List (Int32 × Nat)}  (hdg : decode cc pc = .ok (.lastore, len)) (hck : hk_iok cls kd mt hn own ini rk mx pc (.lastore) len a b c1 d v w sw = true) {nxr : hk_L → List Value → hk_H → hk_O} {jmr : Nat → hk_L → List Value → hk_H → hk_O} {qf : Option Value × hk_H} (hnx : ∀ L st h, nxr L st h = some qf → hk_K SH cls kd sc D cI cZ cR cJ A H0 b0 ad0 al0 mx n0 s0 p l e R s m args below meth c Q (pc + len) L st h) (hjm : ∀ t L st h, jmr t L st h = some qf → hk_K SH cls kd sc D cI cZ cR cJ A H0 b0 ad0 al0 mx n0 s0 p l e R s m args below meth c Q t L st h)  {L : hk_L} {st : List Value} {h : hk_H} (hrun : hk_stp SH pb big none nxr jmr (fun P d k => @ite _ P d k none) (fun P d k0 k1 => @ite _ P d k0 k1) (fun y a h k => (cl y a h).bind (fun q => k q.1 q.2)) (fun r h => some (r, h)) scr ch (.lastore) a c1 d v w sw L st h = some qf) : hk_K SH cls kd sc D cI cZ cR cJ A H0 b0 ad0 al0 mx n0 s0 p l e R s m args below meth c Q pc L st h := by
  obtain ⟨TB, hx, hb, hml, hown, hts, hK, hA, hin, hX, hcl, hge, hR1, hR2, hAO⟩ := id FX
  intro ad H locs ls r
  obtain ⟨hP, hD, hS, hwf, hlv, hlen, hsv, hLv, hadb, hn0, hs0⟩ := id r
  unfold hk_G
  have go : ∀ {st' : List Value}, nxr L st' h = some qf → (∀ v ∈ st', hk_vo sc h.2.2.2 v) → hk_G SH cls p l e R s m args below meth c Q n0 s0 ad h H locs (pc + len) ls st' := fun h1 h2 => hnx _ _ _ h1 _ _ _ _ (r.stk h2)
  have gj : ∀ {t : Nat} {st' : List Value}, jmr t L st' h = some qf → (∀ v ∈ st', hk_vo sc h.2.2.2 v) → hk_G SH cls p l e R s m args below meth c Q n0 s0 ad h H locs t ls st' := fun h1 h2 => hjm _ _ _ _ h1 _ _ _ _ (r.stk h2)
  unfold hk_G at go gj
  simp only [hk_iok, Bool.and_eq_true, decide_eq_true_eq] at hck
  simp only [hk_stp] at hrun
  obtain rfl := hck
  unfold hk_las at hrun
  split at hrun
  · next x i q0 r0 =>
    split at hrun
    · next n hsh =>
      dsimp only at hrun
      split at hrun
      · next hin =>
        obtain ⟨v1, v2, v3⟩ := hk_vo2 hsv
        obtain ⟨v4, v5⟩ := hk_vot v3
        have hal := hk_aliv TB.2.2.2.1 v4 hsh (by decide)
        obtain ⟨k, hk1, hk2⟩ := hk_ws_at (SH := SH) (cls := cls) (kd := kd) (cI := cI) (cZ := cZ) (cR := cR) (cJ := cJ) (ad := ad) hal
        rw [hk_ce5 hsh] at hk2
        exact va_last (D := D) (tys := hk_tys cI cZ cR cJ hn) hx hb hK hP hD hS k 3 hk2 rfl hin hdg (fun H1 locs1 hP1 hD1 hS1 => hnx _ _ _ hrun _ _ _ _ (r.wr (h' := (h.1, hk_uJ h.2.1 q0 i.toNatClampNeg x, h.2.2)) hk1 (by rw [hk_ce5 hsh]; simp [hk_u2, hk_uJ]) rfl (fun z hz => ⟨rfl, by simp [hk_uJ, hz], rfl⟩) hwf hP1 hD1 hS1 v5))
      · cases hrun
    · cases hrun
  · cases hrun

set_option maxHeartbeats 1000000 in
theorem hk_z_aastore {ini : Bool} {rk : Nat} (FX : hk_Fx SH ch cls kd wl mt hn sc p l R s m args meth c D cI cZ cR cJ A H0 b0 mx dd own cc scr cl ini) {pc len a b c1 d : Nat} {v : Int32} {w : Int64} {sw : List (Int32 × Nat)}  (hdg : decode cc pc = .ok (.aastore, len)) (hck : hk_iok cls kd mt hn own ini rk mx pc (.aastore) len a b c1 d v w sw = true) {nxr : hk_L → List Value → hk_H → hk_O} {jmr : Nat → hk_L → List Value → hk_H → hk_O} {qf : Option Value × hk_H} (hnx : ∀ L st h, nxr L st h = some qf → hk_K SH cls kd sc D cI cZ cR cJ A H0 b0 ad0 al0 mx n0 s0 p l e R s m args below meth c Q (pc + len) L st h) (hjm : ∀ t L st h, jmr t L st h = some qf → hk_K SH cls kd sc D cI cZ cR cJ A H0 b0 ad0 al0 mx n0 s0 p l e R s m args below meth c Q t L st h)  {L : hk_L} {st : List Value} {h : hk_H} (hrun : hk_stp SH pb big none nxr jmr (fun P d k => @ite _ P d k none) (fun P d k0 k1 => @ite _ P d k0 k1) (fun y a h k => (cl y a h).bind (fun q => k q.1 q.2)) (fun r h => some (r, h)) scr ch (.aastore) a c1 d v w sw L st h = some qf) : hk_K SH cls kd sc D cI cZ cR cJ A H0 b0 ad0 al0 mx n0 s0 p l e R s m args below meth c Q pc L st h := by
  obtain ⟨TB, hx, hb, hml, hown, hts, hK, hA, hin, hX, hcl, hge, hR1, hR2, hAO⟩ := id FX
  intro ad H locs ls r
  obtain ⟨hP, hD, hS, hwf, hlv, hlen, hsv, hLv, hadb, hn0, hs0⟩ := id r
  unfold hk_G
  have go : ∀ {st' : List Value}, nxr L st' h = some qf → (∀ v ∈ st', hk_vo sc h.2.2.2 v) → hk_G SH cls p l e R s m args below meth c Q n0 s0 ad h H locs (pc + len) ls st' := fun h1 h2 => hnx _ _ _ h1 _ _ _ _ (r.stk h2)
  have gj : ∀ {t : Nat} {st' : List Value}, jmr t L st' h = some qf → (∀ v ∈ st', hk_vo sc h.2.2.2 v) → hk_G SH cls p l e R s m args below meth c Q n0 s0 ad h H locs t ls st' := fun h1 h2 => hjm _ _ _ _ h1 _ _ _ _ (r.stk h2)
  unfold hk_G at go gj
  simp only [hk_iok, Bool.and_eq_true, decide_eq_true_eq] at hck
  simp only [hk_stp] at hrun
  obtain rfl := hck
  unfold hk_aas at hrun
  split at hrun
  · next q1 i q0 r0 =>
    split at hrun
    · next hsh1 =>
      split at hrun
      · next n hsh =>
        dsimp only at hrun
        split at hrun
        · next hin =>
          obtain ⟨v1, v2, v3⟩ := hk_vo2 hsv
          obtain ⟨v4, v5⟩ := hk_vot v3
          have hsh1 := hk_is_eq hsh1
          have hal := hk_aliv TB.2.2.2.1 v4 hsh (by decide)
          have hal1 := hk_aliv TB.2.2.2.1 v1 hsh1 (by decide)
          obtain ⟨k, hk1, hk2⟩ := hk_ws_at (SH := SH) (cls := cls) (kd := kd) (cI := cI) (cZ := cZ) (cR := cR) (cJ := cJ) (ad := ad) hal
          obtain ⟨k3, hk3, hk4⟩ := hk_ws_at (SH := SH) (cls := cls) (kd := kd) (cI := cI) (cZ := cZ) (cR := cR) (cJ := cJ) (ad := ad) hal1
          rw [hk_ce4 hsh] at hk2
          rw [hk_ce1 hsh1] at hk4
          obtain ⟨qc, hqc, hqn⟩ := TB.2.2.2.2.1
          exact va_astq (D := D) (tys := hk_tys cI cZ cR cJ hn) hx hb hK hP hD hS k 2 k3 ch hk2 (by rw [hqn]; rfl) hk4 hqc hin hdg (fun H1 locs1 hP1 hD1 hS1 => hnx _ _ _ hrun _ _ _ _ (r.wr (h' := (h.1, h.2.1, hk_uR h.2.2.1 q0 i.toNatClampNeg (q1 + 1), h.2.2.2)) hk1 (by
            rw [hk_ce4 hsh]
            congr 7
            funext z
            simp only [hk_uR, if_true, va_up]
            split <;> rfl) rfl (fun z hz => ⟨rfl, rfl, by simp [hk_uR, hz]⟩) (hk_wf_uR hwf hal1) hP1 hD1 hS1 v5))
        · cases hrun
      · cases hrun
    · cases hrun
  · cases hrun

set_option maxHeartbeats 1000000 in
theorem hk_z_arraylength {ini : Bool} {rk : Nat} (FX : hk_Fx SH ch cls kd wl mt hn sc p l R s m args meth c D cI cZ cR cJ A H0 b0 mx dd own cc scr cl ini) {pc len a b c1 d : Nat} {v : Int32} {w : Int64} {sw : List (Int32 × Nat)}  (hdg : decode cc pc = .ok (.arraylength, len)) (hck : hk_iok cls kd mt hn own ini rk mx pc (.arraylength) len a b c1 d v w sw = true) {nxr : hk_L → List Value → hk_H → hk_O} {jmr : Nat → hk_L → List Value → hk_H → hk_O} {qf : Option Value × hk_H} (hnx : ∀ L st h, nxr L st h = some qf → hk_K SH cls kd sc D cI cZ cR cJ A H0 b0 ad0 al0 mx n0 s0 p l e R s m args below meth c Q (pc + len) L st h) (hjm : ∀ t L st h, jmr t L st h = some qf → hk_K SH cls kd sc D cI cZ cR cJ A H0 b0 ad0 al0 mx n0 s0 p l e R s m args below meth c Q t L st h)  {L : hk_L} {st : List Value} {h : hk_H} (hrun : hk_stp SH pb big none nxr jmr (fun P d k => @ite _ P d k none) (fun P d k0 k1 => @ite _ P d k0 k1) (fun y a h k => (cl y a h).bind (fun q => k q.1 q.2)) (fun r h => some (r, h)) scr ch (.arraylength) a c1 d v w sw L st h = some qf) : hk_K SH cls kd sc D cI cZ cR cJ A H0 b0 ad0 al0 mx n0 s0 p l e R s m args below meth c Q pc L st h := by
  obtain ⟨TB, hx, hb, hml, hown, hts, hK, hA, hin, hX, hcl, hge, hR1, hR2, hAO⟩ := id FX
  intro ad H locs ls r
  obtain ⟨hP, hD, hS, hwf, hlv, hlen, hsv, hLv, hadb, hn0, hs0⟩ := id r
  unfold hk_G
  have go : ∀ {st' : List Value}, nxr L st' h = some qf → (∀ v ∈ st', hk_vo sc h.2.2.2 v) → hk_G SH cls p l e R s m args below meth c Q n0 s0 ad h H locs (pc + len) ls st' := fun h1 h2 => hnx _ _ _ h1 _ _ _ _ (r.stk h2)
  have gj : ∀ {t : Nat} {st' : List Value}, jmr t L st' h = some qf → (∀ v ∈ st', hk_vo sc h.2.2.2 v) → hk_G SH cls p l e R s m args below meth c Q n0 s0 ad h H locs t ls st' := fun h1 h2 => hjm _ _ _ _ h1 _ _ _ _ (r.stk h2)
  unfold hk_G at go gj
  simp only [hk_iok, Bool.and_eq_true, decide_eq_true_eq] at hck
  simp only [hk_stp] at hrun
  obtain rfl := hck
  unfold hk_len at hrun
  split at hrun
  · next q0 r0 =>
    split at hrun
    · next n hsh =>
      have hal := hk_aliv TB.2.2.2.1 (hk_vot hsv).1 hsh (by decide)
      obtain ⟨k, hk1, hk2⟩ := hk_ws_at (SH := SH) (cls := cls) (kd := kd) (cI := cI) (cZ := cZ) (cR := cR) (cJ := cJ) (ad := ad) hal
      rw [hk_ce2 hsh] at hk2
      exact va_alen (D := D) (tys := hk_tys cI cZ cR cJ hn) hx hb hK hP k 0 hk2 rfl rfl hdg (go hrun (hk_voc trivial (hk_vot hsv).2))
    · next n hsh =>
      split at hrun
      · next sq =>
        have hq0 : q0 = sc := TB.2.2.1 _ _ hsh
        obtain ⟨x1, x2, x3⟩ := hX sq rfl
        have e0 : hk_tv ad (.ref q0) = .ref b0 := by rw [hq0]; exact congrArg Value.ref hadb.1
        show W p l e R s m args below meth c H locs _ _ Q (F0 m pc ls (hk_tv ad (.ref q0) :: r0.map (hk_tv ad)))
        rw [e0]
        exact va_slen hx hb x1 x2 x3 hS hdg (go hrun (hk_voc trivial (hk_vot hsv).2))
      · cases hrun
    · cases hrun
  · cases hrun

theorem hk_sw_snd {X : hk_O} {x : Int32} {k0 : hk_O} {k : Nat → hk_O} : ∀ {sw : List (Int32 × Nat)}, hk_sw (fun P d k0 k1 => @ite _ P d k0 k1) x k0 k sw = X → (∃ (j : Nat) (q : Int32 × Nat), sw[j]? = some q ∧ x = q.1 ∧ k q.2 = X) ∨ ((∀ q ∈ sw, ¬ x = q.1) ∧ k0 = X)
  | [], h => Or.inr ⟨fun _ h => absurd h List.not_mem_nil, h⟩
  | q :: r, h => by
    rw [hk_sw] at h
    by_cases hq : x = q.1
    · rw [if_pos hq] at h
      exact Or.inl ⟨0, q, rfl, hq, h⟩
    · rw [if_neg hq] at h
      rcases hk_sw_snd h with ⟨j, q', h1, h2, h3⟩ | ⟨h1, h2⟩
      · exact Or.inl ⟨j + 1, q', h1, h2, h3⟩
      · exact Or.inr ⟨fun z hz => by
          rcases List.mem_cons.mp hz with rfl | hz
          · exact hq
          · exact h1 z hz, h2⟩
theorem hk_swT_at {pc : Nat} {lo : Int} : ∀ {k : Nat} {sw : List (Int32 × Nat)} {os : List Int}, hk_swT pc lo k sw os = true → sw.length = os.length ∧ ∀ (j : Nat) (q : Int32 × Nat), sw[j]? = some q → ∃ o, os[j]? = some o ∧ q.1.toInt = lo + (k + j : Nat) ∧ (pc : Int) + o = (q.2 : Int)
  | _, [], [], _ => ⟨rfl, fun j q h => by simp at h⟩
  | k, q :: r, o :: os, h => by
    simp only [hk_swT, Bool.and_eq_true, decide_eq_true_eq] at h
    obtain ⟨⟨h1, h2⟩, h3⟩ := h
    obtain ⟨h4, h5⟩ := hk_swT_at h3
    refine ⟨by simp [h4], fun j q' hj => ?_⟩
    cases j with
    | zero => cases hj; exact ⟨o, rfl, h1, h2⟩
    | succ j =>
      obtain ⟨o', g1, g2, g3⟩ := h5 j q' hj
      exact ⟨o', g1, by rw [g2]; congr 2; omega, g3⟩
  | _, [], _ :: _, h => by simp [hk_swT] at h
  | _, _ :: _, [], h => by simp [hk_swT] at h
theorem hk_swL_at {pc : Nat} {df : Int} {x : Int32} {k0 : Nat} (hd : (pc : Int) + df = (k0 : Int)) : ∀ {sw : List (Int32 × Nat)} {ps : List (Int × Int)}, hk_swL pc sw ps = true → ((∀ q ∈ sw, ¬ x = q.1) → (pc : Int) + Op.lookupswitch.offset ps df x.toInt = (k0 : Int)) ∧ ∀ (j : Nat) (q : Int32 × Nat), sw[j]? = some q → x = q.1 → (∀ i q', i < j → sw[i]? = some q' → ¬ x = q'.1) → (pc : Int) + Op.lookupswitch.offset ps df x.toInt = (q.2 : Int)
  | [], [], _ => ⟨fun _ => hd, fun j q h => by simp at h⟩
  | q :: r, o :: os, h => by
    simp only [hk_swL, Bool.and_eq_true, decide_eq_true_eq] at h
    obtain ⟨⟨h1, h2⟩, h3⟩ := h
    obtain ⟨h4, h5⟩ := hk_swL_at hd h3
    obtain ⟨oa, ob⟩ := o
    constructor
    · intro hn
      rw [lv_osw (hn q List.mem_cons_self) h1]
      exact h4 fun z hz => hn z (List.mem_cons_of_mem _ hz)
    · intro j q' hj hx hlt
      cases j with
      | zero =>
        cases hj
        rw [Op.lookupswitch.offset_cons, if_pos (by rw [hx]; exact h1.symm)]
        exact h2
      | succ j =>
        rw [lv_osw (hlt 0 q (by omega) rfl) h1]
        exact h5 j q' hj hx fun i z hi hz => hlt (i + 1) z (by omega) hz
  | [], _ :: _, h => by simp [hk_swL] at h
  | _ :: _, [], h => by simp [hk_swL] at h
theorem hk_sw_fst {X : hk_O} {x : Int32} {k0 : hk_O} {k : Nat → hk_O} : ∀ {sw : List (Int32 × Nat)}, hk_sw (fun P d k0 k1 => @ite _ P d k0 k1) x k0 k sw = X → (∃ (j : Nat) (q : Int32 × Nat), sw[j]? = some q ∧ x = q.1 ∧ (∀ i q', i < j → sw[i]? = some q' → ¬ x = q'.1) ∧ k q.2 = X) ∨ ((∀ q ∈ sw, ¬ x = q.1) ∧ k0 = X)
  | [], h => Or.inr ⟨fun _ h => absurd h List.not_mem_nil, h⟩
  | q :: r, h => by
    rw [hk_sw] at h
    by_cases hq : x = q.1
    · rw [if_pos hq] at h
      exact Or.inl ⟨0, q, rfl, hq, fun i q' hi => by omega, h⟩
    · rw [if_neg hq] at h
      rcases hk_sw_fst h with ⟨j, q', h1, h2, h4, h3⟩ | ⟨h1, h2⟩
      · refine Or.inl ⟨j + 1, q', h1, h2, fun i z hi hz => ?_, h3⟩
        cases i with
        | zero => cases hz; exact hq
        | succ i => exact h4 i z (by omega) hz
      · exact Or.inr ⟨fun z hz => by
          rcases List.mem_cons.mp hz with rfl | hz
          · exact hq
          · exact h1 z hz, h2⟩

set_option maxHeartbeats 1000000 in
theorem hk_z_tableswitch {ini : Bool} {rk : Nat} (FX : hk_Fx SH ch cls kd wl mt hn sc p l R s m args meth c D cI cZ cR cJ A H0 b0 mx dd own cc scr cl ini) {pc len a b c1 d : Nat} {v : Int32} {w : Int64} {sw : List (Int32 × Nat)} {df lo hi : Int} {os : Array Int} (hdg : decode cc pc = .ok (.tableswitch df lo hi os, len)) (hck : hk_iok cls kd mt hn own ini rk mx pc (.tableswitch df lo hi os) len a b c1 d v w sw = true) {nxr : hk_L → List Value → hk_H → hk_O} {jmr : Nat → hk_L → List Value → hk_H → hk_O} {qf : Option Value × hk_H} (hnx : ∀ L st h, nxr L st h = some qf → hk_K SH cls kd sc D cI cZ cR cJ A H0 b0 ad0 al0 mx n0 s0 p l e R s m args below meth c Q (pc + len) L st h) (hjm : ∀ t L st h, jmr t L st h = some qf → hk_K SH cls kd sc D cI cZ cR cJ A H0 b0 ad0 al0 mx n0 s0 p l e R s m args below meth c Q t L st h)  {L : hk_L} {st : List Value} {h : hk_H} (hrun : hk_stp SH pb big none nxr jmr (fun P d k => @ite _ P d k none) (fun P d k0 k1 => @ite _ P d k0 k1) (fun y a h k => (cl y a h).bind (fun q => k q.1 q.2)) (fun r h => some (r, h)) scr ch (.tableswitch df lo hi os) a c1 d v w sw L st h = some qf) : hk_K SH cls kd sc D cI cZ cR cJ A H0 b0 ad0 al0 mx n0 s0 p l e R s m args below meth c Q pc L st h := by
  obtain ⟨TB, hx, hb, hml, hown, hts, hK, hA, hin, hX, hcl, hge, hR1, hR2, hAO⟩ := id FX
  intro ad H locs ls r
  obtain ⟨hP, hD, hS, hwf, hlv, hlen, hsv, hLv, hadb, hn0, hs0⟩ := id r
  unfold hk_G
  have go : ∀ {st' : List Value}, nxr L st' h = some qf → (∀ v ∈ st', hk_vo sc h.2.2.2 v) → hk_G SH cls p l e R s m args below meth c Q n0 s0 ad h H locs (pc + len) ls st' := fun h1 h2 => hnx _ _ _ h1 _ _ _ _ (r.stk h2)
  have gj : ∀ {t : Nat} {st' : List Value}, jmr t L st' h = some qf → (∀ v ∈ st', hk_vo sc h.2.2.2 v) → hk_G SH cls p l e R s m args below meth c Q n0 s0 ad h H locs t ls st' := fun h1 h2 => hjm _ _ _ _ h1 _ _ _ _ (r.stk h2)
  unfold hk_G at go gj
  simp only [hk_iok, Bool.and_eq_true, decide_eq_true_eq] at hck
  simp only [hk_stp] at hrun
  obtain ⟨⟨ht, hhi⟩, hsw⟩ := hck
  obtain ⟨hl1, hl2⟩ := hk_swT_at hsw
  split at hrun
  · next x r0 =>
    rcases hk_sw_fst hrun with ⟨j, q, hj, hxq, -, hr⟩ | ⟨hno, hr⟩
    · obtain ⟨o, ho1, ho2, ho3⟩ := hl2 j q hj
      have hjl : j < os.toList.length := (List.getElem?_eq_some_iff.mp ho1).1
      rw [Array.length_toList] at hjl
      have hxi : x.toInt = lo + (j : Int) := by rw [hxq, ho2]; simp
      refine lv_tableIn hx hb hdg (by omega) (by omega) (off := o) ?_ ho3 (gj hr (hk_vot hsv).2)
      rw [show (x.toInt - lo).toNat = j by omega, ← Array.getElem?_toList]
      exact ho1
    · refine lv_tableOut hx hb hdg ?_ ht (gj hr (hk_vot hsv).2)
      by_cases h1 : x.toInt < lo
      · exact Or.inl h1
      · by_cases h2 : hi < x.toInt
        · exact Or.inr h2
        · exfalso
          have hz : (x.toInt - lo).toNat < sw.length := by
            rw [hl1, Array.length_toList]
            omega
          have hq := List.getElem?_eq_getElem hz
          obtain ⟨o, g1, g2, g3⟩ := hl2 _ _ hq
          refine hno _ (List.getElem_mem hz) (Int32.toInt_inj.mp ?_)
          rw [g2]
          simp
          omega
  · cases hrun

set_option maxHeartbeats 1000000 in
theorem hk_z_lookupswitch {ini : Bool} {rk : Nat} (FX : hk_Fx SH ch cls kd wl mt hn sc p l R s m args meth c D cI cZ cR cJ A H0 b0 mx dd own cc scr cl ini) {pc len a b c1 d : Nat} {v : Int32} {w : Int64} {sw : List (Int32 × Nat)} {df : Int} {ps : Array (Int × Int)} (hdg : decode cc pc = .ok (.lookupswitch df ps, len)) (hck : hk_iok cls kd mt hn own ini rk mx pc (.lookupswitch df ps) len a b c1 d v w sw = true) {nxr : hk_L → List Value → hk_H → hk_O} {jmr : Nat → hk_L → List Value → hk_H → hk_O} {qf : Option Value × hk_H} (hnx : ∀ L st h, nxr L st h = some qf → hk_K SH cls kd sc D cI cZ cR cJ A H0 b0 ad0 al0 mx n0 s0 p l e R s m args below meth c Q (pc + len) L st h) (hjm : ∀ t L st h, jmr t L st h = some qf → hk_K SH cls kd sc D cI cZ cR cJ A H0 b0 ad0 al0 mx n0 s0 p l e R s m args below meth c Q t L st h)  {L : hk_L} {st : List Value} {h : hk_H} (hrun : hk_stp SH pb big none nxr jmr (fun P d k => @ite _ P d k none) (fun P d k0 k1 => @ite _ P d k0 k1) (fun y a h k => (cl y a h).bind (fun q => k q.1 q.2)) (fun r h => some (r, h)) scr ch (.lookupswitch df ps) a c1 d v w sw L st h = some qf) : hk_K SH cls kd sc D cI cZ cR cJ A H0 b0 ad0 al0 mx n0 s0 p l e R s m args below meth c Q pc L st h := by
  obtain ⟨TB, hx, hb, hml, hown, hts, hK, hA, hin, hX, hcl, hge, hR1, hR2, hAO⟩ := id FX
  intro ad H locs ls r
  obtain ⟨hP, hD, hS, hwf, hlv, hlen, hsv, hLv, hadb, hn0, hs0⟩ := id r
  unfold hk_G
  have go : ∀ {st' : List Value}, nxr L st' h = some qf → (∀ v ∈ st', hk_vo sc h.2.2.2 v) → hk_G SH cls p l e R s m args below meth c Q n0 s0 ad h H locs (pc + len) ls st' := fun h1 h2 => hnx _ _ _ h1 _ _ _ _ (r.stk h2)
  have gj : ∀ {t : Nat} {st' : List Value}, jmr t L st' h = some qf → (∀ v ∈ st', hk_vo sc h.2.2.2 v) → hk_G SH cls p l e R s m args below meth c Q n0 s0 ad h H locs t ls st' := fun h1 h2 => hjm _ _ _ _ h1 _ _ _ _ (r.stk h2)
  unfold hk_G at go gj
  simp only [hk_iok, Bool.and_eq_true, decide_eq_true_eq] at hck
  simp only [hk_stp] at hrun
  obtain ⟨⟨ht, hps⟩, hsw⟩ := hck
  split at hrun
  · next x r0 =>
    obtain ⟨g1, g2⟩ := hk_swL_at (x := x) ht hsw
    rcases hk_sw_fst hrun with ⟨j, q, hj, hxq, hlt, hr⟩ | ⟨hno, hr⟩
    · exact lv_lookup hx hb hdg hps rfl (g2 j q hj hxq hlt) (gj hr (hk_vot hsv).2)
    · exact lv_lookup hx hb hdg hps rfl (g1 hno) (gj hr (hk_vot hsv).2)
  · cases hrun

end HKJ3
