/-! ===== a step of the abstract machine: memory, calls, ends ===== -/
section HKJ2
variable {SH : Nat → hk_Sh} {pb big ch : Nat} {cls : List vw_C} {kd : Nat → Nat → Nat} {wl : List Jvm.Cond} {mt : Nat → Option hk_Q} {hn : String} {sc : Nat}
variable {p : Program} {l : Launch} {e : Env} {R : Room} {s : State} {m : MethodId} {args : Array Value} {below : List Frame} {meth : Method} {c : Code} {Q : State → Prop}
variable {D : va_G} {cI cZ cR cJ : ClassId} {A : Nat → Prop} {H0 : Heap} {b0 mx n0 s0 dd : Nat} {ad0 : Nat → Nat} {al0 : List Nat} {own : String} {cc : ByteArray} {scr : Option (Nat × (Nat → Int32))} {cl : Nat → List Value → hk_H → hk_O}
theorem hk_rv_vo {h : hk_H} {q k : Nat} (hw : hk_wf h) (hq : q ∈ h.2.2.2) : hk_vo sc h.2.2.2 (hk_rv (h.2.2.1 q k)) := by
  rcases hw q hq k with e | e
  · rw [e]; trivial
  · cases hz : h.2.2.1 q k with
    | zero => trivial
    | succ z => rw [hz] at e; exact Or.inl e
theorem hk_fs_set {α : Type} {N k : Nat} {f g : Nat → α} (hk : k < N) (hg : ∀ j, j ≠ k → g j = f j) : ((List.range N).map f).set k (g k) = (List.range N).map g := by
  have h0 : (List.range N)[k]? = some k := by rw [List.getElem?_range hk]
  refine hk_map_set h0 (fun i hi => ?_) hg
  by_cases hN : i < N
  · rw [List.getElem?_range hN] at hi
    exact Option.some.inj hi
  · rw [List.getElem?_eq_none (by simp; omega)] at hi
    cases hi
theorem hk_nf_eq {a : Nat} {q : vw_C} (hq : cls[a]? = some q) : hk_nf cls a = q.2.2 := by
  unfold hk_nf
  rw [hq]
theorem hk_ce1 {ad : Nat → Nat} {h : hk_H} {q a : Nat} (hq : SH q = (1, a)) : hk_ce SH cls kd cI cZ cR cJ ad h q = .inr (a, (List.range (hk_nf cls a)).map (hk_fv kd ad h q a)) := by
  unfold hk_ce
  rw [hq]
  rfl
theorem hk_ce2 {ad : Nat → Nat} {h : hk_H} {q n : Nat} (hq : SH q = (2, n)) : hk_ce SH cls kd cI cZ cR cJ ad h q = .inl (cI, n, .inl (h.1 q)) := by
  unfold hk_ce
  rw [hq]
  rfl
theorem hk_ce3 {ad : Nat → Nat} {h : hk_H} {q n : Nat} (hq : SH q = (3, n)) : hk_ce SH cls kd cI cZ cR cJ ad h q = .inl (cZ, n, .inl (h.1 q)) := by
  unfold hk_ce
  rw [hq]
  rfl
theorem hk_ce4 {ad : Nat → Nat} {h : hk_H} {q n : Nat} (hq : SH q = (4, n)) : hk_ce SH cls kd cI cZ cR cJ ad h q = .inl (cR, n, .inr (.inr (.inr (.inr (fun k => hk_rf ad (h.2.2.1 q k)))))) := by
  unfold hk_ce
  rw [hq]
  rfl
theorem hk_ce5 {ad : Nat → Nat} {h : hk_H} {q n : Nat} (hq : SH q = (5, n)) : hk_ce SH cls kd cI cZ cR cJ ad h q = .inl (cJ, n, .inr (.inl (h.2.1 q))) := by
  unfold hk_ce
  rw [hq]
  rfl
/-- behind a write to place q: the cell at q is new, the others stay -/
theorem hk_R.wr {ad : Nat → Nat} {h h' : hk_H} {H H1 : Heap} {locs locs1 : List Loc} {ls : Array Slot} {L : hk_L} {st st' : List Value} {q k : Nat} {E : va_E} (r : hk_R SH cls kd sc D cI cZ cR cJ A H0 b0 ad0 al0 mx n0 s0 ad h H locs ls L st) (hk : h.2.2.2[k]? = some q) (hE : hk_ce SH cls kd cI cZ cR cJ ad h' q = E) (ha : h'.2.2.2 = h.2.2.2) (ho : ∀ z, z ≠ q → h'.1 z = h.1 z ∧ h'.2.1 z = h.2.1 z ∧ h'.2.2.1 z = h.2.2.1 z) (hw : hk_wf h')
    (hP : va_P D cls ((hk_ws SH cls kd cI cZ cR cJ ad h).set k (ad q, E)) H1) (hD : va_D A ((hk_ws SH cls kd cI cZ cR cJ ad h).set k (ad q, E))) (hS : va_S A H0 H1 locs1) (hs : ∀ v ∈ st', hk_vo sc h.2.2.2 v) : hk_R SH cls kd sc D cI cZ cR cJ A H0 b0 ad0 al0 mx n0 s0 ad h' H1 locs1 ls L st' := by
  have e : (hk_ws SH cls kd cI cZ cR cJ ad h).set k (ad q, E) = hk_ws SH cls kd cI cZ cR cJ ad h' := by
    rw [← hE]
    refine hk_ws_set r.2.1 hk ha fun z hz => ?_
    obtain ⟨h1, h2, h3⟩ := ho z hz
    exact hk_ce_eq h1 h2 fun j => by rw [h3]
  rw [e] at hP hD
  exact r.hp hP hD hS hw ha hs
/-- behind the making of a cell at place q -/
theorem hk_R.mk {ad : Nat → Nat} {h : hk_H} {H H1 : Heap} {locs : List Loc} {ls : Array Slot} {L : hk_L} {st r0 : List Value} {q a : Nat} {E : va_E} (r : hk_R SH cls kd sc D cI cZ cR cJ A H0 b0 ad0 al0 mx n0 s0 ad h H locs ls L st) (hq : q ∉ h.2.2.2) (hsc : q ≠ sc) (hE : hk_ce SH cls kd cI cZ cR cJ (fun z => if z = q then a else ad z) (hk_nw h q) q = E)
    (hP : va_P D cls (hk_ws SH cls kd cI cZ cR cJ ad h ++ [(a, E)]) H1) (hD : va_D A (hk_ws SH cls kd cI cZ cR cJ ad h ++ [(a, E)])) (hS : va_S A H0 H1 locs) (hs : ∀ v ∈ r0, hk_vo sc h.2.2.2 v) : hk_R SH cls kd sc D cI cZ cR cJ A H0 b0 ad0 al0 mx n0 s0 (fun z => if z = q then a else ad z) (hk_nw h q) H1 locs ls L (.ref q :: r0) ∧ hk_ag sc ad (fun z => if z = q then a else ad z) h.2.2.2 := by
  obtain ⟨a1, a2, a3, a4, a5, a6, a7, a8, a9, a10, a11⟩ := r
  have hag : hk_ag sc ad (fun z => if z = q then a else ad z) h.2.2.2 := by
    intro z hz
    have hne : z ≠ q := by
      rintro rfl
      rcases hz with hz | hz
      · exact hq hz
      · exact hsc hz
    show (if z = q then a else ad z) = ad z
    rw [if_neg hne]
  have hgg : hk_ge h (hk_nw h q) := ⟨[q], rfl⟩
  have e := hk_ws_push (SH := SH) (cls := cls) (kd := kd) (cI := cI) (cZ := cZ) (cR := cR) (cJ := cJ) (ad := ad) (a := a) hq a4
  rw [hE] at e
  rw [← e] at hP hD
  refine ⟨⟨hP, hD, hS, ?_, ?_, a6, ?_, ?_, ?_, ?_, ?_⟩, hag⟩
  · intro z hz k
    show hk_z h.2.2.1 q 0 z k = 0 ∨ hk_z h.2.2.1 q 0 z k ∈ h.2.2.2 ++ [q]
    unfold hk_z
    by_cases hzq : z = q
    · left
      rw [if_pos hzq]
    · rw [if_neg hzq]
      have hz' : z ∈ h.2.2.2 := by
        rcases List.mem_append.mp hz with h1 | h1
        · exact h1
        · exact absurd (List.mem_singleton.mp h1) hzq
      rcases a4 z hz' k with h1 | h1
      · exact Or.inl h1
      · exact Or.inr (List.mem_append_left _ h1)
  · rw [hk_pl_congr hag a8]
    exact a5
  · exact hk_voc (Or.inl (List.mem_append_right _ (by simp))) fun v hv => hk_vo_ge hgg (hs v hv)
  · exact fun v hv => hk_vo_ge hgg (a8 v hv)
  · refine ⟨(hag sc (Or.inr rfl)).trans a9.1, fun z hz => ?_, fun z hz => List.mem_append_left _ (a9.2.2 z hz)⟩
    rw [← a9.2.1 z hz]
    rcases hz with h1 | h1
    · exact hag z (Or.inl (a9.2.2 z h1))
    · exact hag z (Or.inr h1)
  · exact Nat.le_trans a10 (hk_ge_len hgg)
  · exact Nat.le_trans a11 (hk_ge_sl hgg)
theorem hk_sl_nw (h : hk_H) (q : Nat) : hk_sl SH cls (hk_nw h q).2.2.2 = hk_sl SH cls h.2.2.2 + (match SH q with
  | (1, ci) => hk_nf cls ci
  | (_, n) => n) := by
  show hk_sl SH cls (h.2.2.2 ++ [q]) = _
  rw [hk_sl_app]
  congr 1
theorem hk_nle {x : Int32} {n : Nat} (h : x.toNatClampNeg ≤ n) : x.toNatClampNeg ≤ n := h

set_option maxHeartbeats 1000000 in
theorem hk_z_getfield {ini : Bool} {rk : Nat} (FX : hk_Fx SH ch cls kd wl mt hn sc p l R s m args meth c D cI cZ cR cJ A H0 b0 mx dd own cc scr cl ini) {pc len a b c1 d : Nat} {v : Int32} {w : Int64} {sw : List (Int32 × Nat)} {i : Nat} (hdg : decode cc pc = .ok (.getfield i, len)) (hck : hk_iok cls kd mt hn own ini rk mx pc (.getfield i) len a b c1 d v w sw = true) {nxr : hk_L → List Value → hk_H → hk_O} {jmr : Nat → hk_L → List Value → hk_H → hk_O} {qf : Option Value × hk_H} (hnx : ∀ L st h, nxr L st h = some qf → hk_K SH cls kd sc D cI cZ cR cJ A H0 b0 ad0 al0 mx n0 s0 p l e R s m args below meth c Q (pc + len) L st h) (hjm : ∀ t L st h, jmr t L st h = some qf → hk_K SH cls kd sc D cI cZ cR cJ A H0 b0 ad0 al0 mx n0 s0 p l e R s m args below meth c Q t L st h)  {L : hk_L} {st : List Value} {h : hk_H} (hrun : hk_stp SH pb big none nxr jmr (fun P d k => @ite _ P d k none) (fun P d k0 k1 => @ite _ P d k0 k1) (fun y a h k => (cl y a h).bind (fun q => k q.1 q.2)) (fun r h => some (r, h)) scr ch (.getfield i) a c1 d v w sw L st h = some qf) : hk_K SH cls kd sc D cI cZ cR cJ A H0 b0 ad0 al0 mx n0 s0 p l e R s m args below meth c Q pc L st h := by
  obtain ⟨TB, hx, hb, hml, hown, hts, hK, hA, hin, hX, hcl, hge, hR1, hR2, hAO⟩ := FX
  intro ad H locs ls r
  obtain ⟨hP, hD, hS, hwf, hlv, hlen, hsv, hLv, hadb, hn0, hs0⟩ := id r
  unfold hk_G
  have go : ∀ {st' : List Value}, nxr L st' h = some qf → (∀ v ∈ st', hk_vo sc h.2.2.2 v) → hk_G SH cls p l e R s m args below meth c Q n0 s0 ad h H locs (pc + len) ls st' := fun h1 h2 => hnx _ _ _ h1 _ _ _ _ (r.stk h2)
  have gj : ∀ {t : Nat} {st' : List Value}, jmr t L st' h = some qf → (∀ v ∈ st', hk_vo sc h.2.2.2 v) → hk_G SH cls p l e R s m args below meth c Q n0 s0 ad h H locs t ls st' := fun h1 h2 => hjm _ _ _ _ h1 _ _ _ _ (r.stk h2)
  unfold hk_G at go gj
  simp only [hk_iok, Bool.and_eq_true, decide_eq_true_eq] at hck
  simp only [hk_stp] at hrun
  obtain ⟨rfl, hck⟩ := hck
  split at hck
  · cases hck
  next q hq =>
  simp only [hk_fok, Bool.and_eq_true, decide_eq_true_eq] at hck
  obtain ⟨⟨⟨hc, hw⟩, how⟩, hkd⟩ := hck
  obtain ⟨C, T, N⟩ := q
  simp only at hc hw how
  unfold hk_getf at hrun
  split at hrun
  · next q0 r0 =>
    split at hrun
    · next hsh =>
      have hsh := hk_is_eq hsh
      have hal := hk_aliv TB.2.2.2.1 (hk_vot hsv).1 hsh (by decide)
      obtain ⟨k, hk1, hk2⟩ := hk_ws_at (SH := SH) (cls := cls) (kd := kd) (cI := cI) (cZ := cZ) (cR := cR) (cJ := cJ) (ad := ad) hal
      rw [hk_ce1 hsh] at hk2
      refine va_get (D := D) (ci := a) (v := hk_fv kd ad h q0 a c1) hx hb hts (TB.1 a _ hq).1 hown hK hP k hk2 hq c1 hc (hts _ (TB.2.2.2.2.2.2.1.2.2.2 _ _ hw)) (fun x h9 => by rw [← how]; exact h9) ?_ hdg ?_
      · rw [List.getElem?_map, hk_nf_eq hq, List.getElem?_range hc]
        rfl
      · split at hrun
        · have e : hk_fv kd ad h q0 a c1 = hk_tv ad (hk_rv (h.2.2.1 q0 c1)) := by
            rw [hk_tv_rv]
            unfold hk_fv
            rw [hkd]
            rfl
          rw [e]
          exact go hrun (hk_voc (hk_rv_vo hwf hal) (hk_vot hsv).2)
        · next hd =>
          have e : hk_fv kd ad h q0 a c1 = .int (h.1 q0 c1) := by
            unfold hk_fv
            rw [hkd]
            split
            · exact absurd rfl hd
            · rfl
          rw [e]
          exact go hrun (hk_voc trivial (hk_vot hsv).2)
    · cases hrun
  · cases hrun

theorem hk_putW {ini : Bool} (FX : hk_Fx SH ch cls kd wl mt hn sc p l R s m args meth c D cI cZ cR cJ A H0 b0 mx dd own cc scr cl ini) {ad : Nat → Nat} {h h2 : hk_H} {H : Heap} {locs : List Loc} {ls : Array Slot} {L : hk_L} {st r0 : List Value} {pc q0 a b c1 i : Nat} {q : vw_C} {val : Value} (r : hk_R SH cls kd sc D cI cZ cR cJ A H0 b0 ad0 al0 mx n0 s0 ad h H locs ls L st) (hsh : SH q0 = (1, a)) (hal : q0 ∈ h.2.2.2) (hq : cls[a]? = some q) (hc : c1 < q.2.2) (hw : hk_lk b = some (.fieldLink own i q.1 (q.2.1 c1).2.1 (q.2.1 c1).2.2.1)) (how : (q.2.1 c1).1 = q.1) (hfi : (!(q.2.1 c1).2.2.2 || (ini && decide ((q.2.1 c1).1 = own))) = true)
    (hval : ∀ ty : Nat → FieldType, (kd a c1 = 0 → ty c1 = .int) ∧ (kd a c1 = 1 → (∃ o, ty c1 = .object o) ∨ ∃ o, ty c1 = .array o) ∧ (kd a c1 = 2 → ty c1 = .boolean) ∧ kd a c1 ≤ 2 → narrow (ty c1) val = val ∧ fits (ty c1) val = true) (h2e : hk_fv kd ad h2 q0 a c1 = val) (h2o : ∀ j, j ≠ c1 → hk_fv kd ad h2 q0 a j = hk_fv kd ad h q0 a j) (ho : ∀ z, z ≠ q0 → h2.1 z = h.1 z ∧ h2.2.1 z = h.2.1 z ∧ h2.2.2.1 z = h.2.2.1 z) (hwf2 : hk_wf h2) (ha : h2.2.2.2 = h.2.2.2) (hr0 : ∀ v ∈ r0, hk_vo sc h.2.2.2 v) (hdg : decode cc pc = .ok (.putfield i, 3)) (kk : hk_K SH cls kd sc D cI cZ cR cJ A H0 b0 ad0 al0 mx n0 s0 p l e R s m args below meth c Q (pc + 3) L r0 h2) :
    W p l e R s m args below meth c H locs (h.2.2.2.length - n0) (hk_sl SH cls h.2.2.2 - s0) Q (F0 m pc ls (val :: .ref (ad q0) :: r0.map (hk_tv ad))) := by
  obtain ⟨TB, hx, hb, hml, hown, hts, hK, hA, hin, hX, hcl, hge, hR1, hR2, hAO⟩ := FX
  obtain ⟨hP, hD, hS, hwf, hlv, hlen, hsv, hLv, hadb, hn0, hs0⟩ := id r
  obtain ⟨C, T, N⟩ := q
  obtain ⟨k, hk1, hk2⟩ := hk_ws_at (SH := SH) (cls := cls) (kd := kd) (cI := cI) (cZ := cZ) (cR := cR) (cJ := cJ) (ad := ad) hal
  rw [hk_ce1 hsh] at hk2
  obtain ⟨hu, ⟨ty, hty, hkk⟩, hnm⟩ := TB.1 a _ hq
  obtain ⟨hnr, hft⟩ := hval ty (hkk c1 hc)
  have hl2 : c1 < ((List.range (hk_nf cls a)).map (hk_fv kd ad h q0 a)).length := by rw [List.length_map, List.length_range, hk_nf_eq hq]; exact hc
  have hE : hk_ce SH cls kd cI cZ cR cJ ad h2 q0 = .inr (a, ((List.range (hk_nf cls a)).map (hk_fv kd ad h q0 a)).set c1 val) := by
    rw [hk_ce1 hsh, ← h2e, hk_fs_set (by rw [hk_nf_eq hq]; exact hc) h2o]
  have hlk := hts _ (TB.2.2.2.2.2.2.1.2.2.2 _ _ hw)
  have fin : ∀ (H1 : Heap) (locs1 : List Loc), va_P D cls ((hk_ws SH cls kd cI cZ cR cJ ad h).set k (ad q0, .inr (a, ((List.range (hk_nf cls a)).map (hk_fv kd ad h q0 a)).set c1 val))) H1 → va_D A ((hk_ws SH cls kd cI cZ cR cJ ad h).set k (ad q0, .inr (a, ((List.range (hk_nf cls a)).map (hk_fv kd ad h q0 a)).set c1 val))) → va_S A H0 H1 locs1 → W p l e R s m args below meth c H1 locs1 (h.2.2.2.length - n0) (hk_sl SH cls h.2.2.2 - s0) Q (F0 m (pc + 3) ls (r0.map (hk_tv ad))) := fun H1 locs1 hP1 hD1 hS1 => by
    have g := kk _ _ _ _ (r.wr hk1 hE ha ho hwf2 hP1 hD1 hS1 hr0)
    unfold hk_G at g
    rw [ha] at g
    exact g
  cases hfin : (T c1).2.2.2 with
  | false => exact va_put (D := D) (ci := a) (v := val) (ty := ty c1) hx hb hts hu ty hty hnm hown hK hP hD hS k hk2 hq c1 hc hlk (fun x h9 => by rw [← how]; exact h9) hfin (hty c1 hc) hnr hft hl2 hdg fin
  | true =>
    simp only at hfi
    rw [hfin] at hfi
    simp only [Bool.not_true, Bool.false_or, Bool.and_eq_true, decide_eq_true_eq] at hfi
    exact va_putF (D := D) (ci := a) (v := val) (ty := ty c1) hx hb hts hu ty hty hnm hown hK hP hD hS k hk2 hq c1 hc hlk (fun x h9 => by rw [← how]; exact h9) hfin (hin hfi.1) hfi.2 (hty c1 hc) hnr hft hl2 hdg fin
theorem hk_wf_uR {h : hk_H} {q k z : Nat} (hw : hk_wf h) (hz : z ∈ h.2.2.2) : hk_wf (h.1, h.2.1, hk_uR h.2.2.1 q k z, h.2.2.2) := by
  intro y hy j
  show hk_uR h.2.2.1 q k z y j = 0 ∨ hk_uR h.2.2.1 q k z y j ∈ h.2.2.2
  unfold hk_uR
  by_cases h1 : y = q
  · rw [if_pos h1]
    by_cases h2 : j = k
    · rw [if_pos h2]
      exact Or.inr hz
    · rw [if_neg h2]
      exact h1 ▸ hw y hy j
  · rw [if_neg h1]
    exact hw y hy j
theorem hk_shne (hS : ∃ n, SH sc = (6, n)) {q k n : Nat} (hq : SH q = (k, n)) (hk : k ≠ 6) : q ≠ sc := by
  rintro rfl
  obtain ⟨n', h'⟩ := hS
  rw [h'] at hq
  cases hq
  exact hk rfl

set_option maxHeartbeats 1000000 in
theorem hk_z_putfield {ini : Bool} {rk : Nat} (FX : hk_Fx SH ch cls kd wl mt hn sc p l R s m args meth c D cI cZ cR cJ A H0 b0 mx dd own cc scr cl ini) {pc len a b c1 d : Nat} {v : Int32} {w : Int64} {sw : List (Int32 × Nat)} {i : Nat} (hdg : decode cc pc = .ok (.putfield i, len)) (hck : hk_iok cls kd mt hn own ini rk mx pc (.putfield i) len a b c1 d v w sw = true) {nxr : hk_L → List Value → hk_H → hk_O} {jmr : Nat → hk_L → List Value → hk_H → hk_O} {qf : Option Value × hk_H} (hnx : ∀ L st h, nxr L st h = some qf → hk_K SH cls kd sc D cI cZ cR cJ A H0 b0 ad0 al0 mx n0 s0 p l e R s m args below meth c Q (pc + len) L st h) (hjm : ∀ t L st h, jmr t L st h = some qf → hk_K SH cls kd sc D cI cZ cR cJ A H0 b0 ad0 al0 mx n0 s0 p l e R s m args below meth c Q t L st h)  {L : hk_L} {st : List Value} {h : hk_H} (hrun : hk_stp SH pb big none nxr jmr (fun P d k => @ite _ P d k none) (fun P d k0 k1 => @ite _ P d k0 k1) (fun y a h k => (cl y a h).bind (fun q => k q.1 q.2)) (fun r h => some (r, h)) scr ch (.putfield i) a c1 d v w sw L st h = some qf) : hk_K SH cls kd sc D cI cZ cR cJ A H0 b0 ad0 al0 mx n0 s0 p l e R s m args below meth c Q pc L st h := by
  obtain ⟨TB, hx, hb, hml, hown, hts, hK, hA, hin, hX, hcl, hge, hR1, hR2, hAO⟩ := id FX
  intro ad H locs ls r
  obtain ⟨hP, hD, hS, hwf, hlv, hlen, hsv, hLv, hadb, hn0, hs0⟩ := id r
  unfold hk_G
  have go : ∀ {st' : List Value}, nxr L st' h = some qf → (∀ v ∈ st', hk_vo sc h.2.2.2 v) → hk_G SH cls p l e R s m args below meth c Q n0 s0 ad h H locs (pc + len) ls st' := fun h1 h2 => hnx _ _ _ h1 _ _ _ _ (r.stk h2)
  have gj : ∀ {t : Nat} {st' : List Value}, jmr t L st' h = some qf → (∀ v ∈ st', hk_vo sc h.2.2.2 v) → hk_G SH cls p l e R s m args below meth c Q n0 s0 ad h H locs t ls st' := fun h1 h2 => hjm _ _ _ _ h1 _ _ _ _ (r.stk h2)
  unfold hk_G at go gj
  simp only [hk_iok, Bool.and_eq_true, decide_eq_true_eq] at hck
  simp only [hk_stp] at hrun
  obtain ⟨rfl, hck⟩ := hck
  split at hck
  · cases hck
  next q hq =>
  simp only [hk_fok, Bool.and_eq_true, decide_eq_true_eq] at hck
  obtain ⟨⟨⟨⟨hc, hw⟩, how⟩, hkd⟩, hfi⟩ := hck
  unfold hk_putf at hrun
  split at hrun
  · next x q0 r0 =>
    split at hrun
    · next hsh =>
      have hsh := hk_is_eq hsh
      have hal := hk_aliv TB.2.2.2.1 (hk_vo2 hsv).2.1 hsh (by decide)
      have e1 : hk_fv kd ad (hk_u2 h.1 q0 c1 x, h.2) q0 a c1 = (if d = 1 then hk_fv kd ad h q0 a c1 else .int x) := by
        unfold hk_fv
        rw [hkd]
        split
        · rfl
        · next hd => rw [if_neg (fun e => hd e)]; simp [hk_u2, upd]
      have e2 : ∀ j, j ≠ c1 → hk_fv kd ad (hk_u2 h.1 q0 c1 x, h.2) q0 a j = hk_fv kd ad h q0 a j := by
        intro j hj
        unfold hk_fv
        split
        · rfl
        · simp [hk_u2, upd, hj]
      have ho : ∀ z, z ≠ q0 → ((hk_u2 h.1 q0 c1 x, h.2) : hk_H).1 z = h.1 z ∧ ((hk_u2 h.1 q0 c1 x, h.2) : hk_H).2.1 z = h.2.1 z ∧ ((hk_u2 h.1 q0 c1 x, h.2) : hk_H).2.2.1 z = h.2.2.1 z := fun z hz => ⟨by simp [hk_u2, hz], rfl, rfl⟩
      split at hrun
      · exact hk_putW FX r hsh hal hq hc hw how hfi (fun ty hk => by rw [hk.1 hkd]; exact ⟨rfl, rfl⟩) (e1.trans (if_neg (by decide))) e2 ho hwf rfl (hk_vo2 hsv).2.2 hdg (hnx _ _ _ hrun)
      · dsimp only at hrun
        split at hrun
        · next hx01 => exact hk_putW FX r hsh hal hq hc hw how hfi (fun ty hk => by rw [hk.2.2.1 hkd]; rcases hx01 with rfl | rfl <;> exact ⟨rfl, rfl⟩) (e1.trans (if_neg (by decide))) e2 ho hwf rfl (hk_vo2 hsv).2.2 hdg (hnx _ _ _ hrun)
        · cases hrun
      · cases hrun
    · cases hrun
  · next q1 q0 r0 =>
    split at hrun
    · next hsh =>
      have hsh := hk_is_eq hsh
      have hal := hk_aliv TB.2.2.2.1 (hk_vo2 hsv).2.1 hsh (by decide)
      split at hrun
      · split at hrun
        · cases hrun
        · next hcon =>
          have hq1 : q1 + 1 ∈ h.2.2.2 := by
            rcases (hk_vo2 hsv).1 with h1 | h1
            · exact h1
            · obtain ⟨n', h'⟩ := TB.2.2.2.1
              rw [show q1 + 1 = sc from h1, h'] at hcon
              cases hcon
          refine hk_putW FX r hsh hal hq hc hw how hfi (val := .ref (ad (q1 + 1))) (h2 := (h.1, h.2.1, hk_uR h.2.2.1 q0 c1 (q1 + 1), h.2.2.2)) (fun ty hk => ?_) ?_ ?_ (fun z hz => ⟨rfl, rfl, by simp [hk_uR, hz]⟩) (hk_wf_uR hwf hq1) rfl (hk_vo2 hsv).2.2 hdg (hnx _ _ _ hrun)
          · rcases hk.2.1 hkd with ⟨o, e⟩ | ⟨o, e⟩ <;> rw [e] <;> exact ⟨rfl, rfl⟩
          · unfold hk_fv
            rw [hkd]
            simp [hk_uR, hk_rf, va_rf]
          · intro j hj
            unfold hk_fv
            split
            · simp [hk_uR, hj]
            · rfl
      · cases hrun
    · cases hrun
  · cases hrun

end HKJ2
