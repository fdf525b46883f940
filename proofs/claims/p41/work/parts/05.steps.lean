/-! ===== each instruction ===== -/
section HKI
variable {SH : Nat → hk_Sh} {pb big ch : Nat} {cls : List vw_C} {kd : Nat → Nat → Nat} {wl : List Jvm.Cond} {mt : Nat → Option hk_Q} {hn : String} {sc : Nat}
variable {p : Program} {l : Launch} {e : Env} {R : Room} {s : State} {m : MethodId} {args : Array Value} {below : List Frame} {meth : Method} {c : Code} {Q : State → Prop}
variable {D : va_G} {cI cZ cR cJ : ClassId} {A : Nat → Prop} {H0 : Heap} {b0 mx n0 s0 : Nat} {ad0 : Nat → Nat} {al0 : List Nat} {own : String} {cc : ByteArray} {scr : Option (Nat × (Nat → Int32))} {cl : Nat → List Value → hk_H → hk_O}
/-- the abstract state and the machine's agree -/
def hk_R (SH : Nat → hk_Sh) (cls : List vw_C) (kd : Nat → Nat → Nat) (sc : Nat) (D : va_G) (cI cZ cR cJ : ClassId) (A : Nat → Prop) (H0 : Heap) (b0 : Nat) (ad0 : Nat → Nat) (al0 : List Nat) (mx n0 s0 : Nat) (ad : Nat → Nat) (h : hk_H) (H : Heap) (locs : List Loc) (ls : Array Slot) (L : hk_L) (st : List Value) : Prop :=
  va_P D cls (hk_ws SH cls kd cI cZ cR cJ ad h) H ∧ va_D A (hk_ws SH cls kd cI cZ cR cJ ad h) ∧ va_S A H0 H locs ∧ hk_wf h ∧ lv_has ls mx (hk_pl ad L) ∧ L.length = mx ∧ (∀ v ∈ st, hk_vo sc h.2.2.2 v) ∧ (∀ v, some v ∈ L → hk_vo sc h.2.2.2 v) ∧ (ad sc = b0 ∧ hk_ag sc ad0 ad al0 ∧ ∀ z ∈ al0, z ∈ h.2.2.2) ∧ n0 ≤ h.2.2.2.length ∧ s0 ≤ hk_sl SH cls h.2.2.2
/-- the goal at a frame -/
def hk_G (SH : Nat → hk_Sh) (cls : List vw_C) (p : Program) (l : Launch) (e : Env) (R : Room) (s : State) (m : MethodId) (args : Array Value) (below : List Frame) (meth : Method) (c : Code) (Q : State → Prop) (n0 s0 : Nat) (ad : Nat → Nat) (h : hk_H) (H : Heap) (locs : List Loc) (pc : Nat) (ls : Array Slot) (st : List Value) : Prop :=
  W p l e R s m args below meth c H locs (h.2.2.2.length - n0) (hk_sl SH cls h.2.2.2 - s0) Q (F0 m pc ls (st.map (hk_tv ad)))
/-- what goes on behind a step -/
def hk_K (SH : Nat → hk_Sh) (cls : List vw_C) (kd : Nat → Nat → Nat) (sc : Nat) (D : va_G) (cI cZ cR cJ : ClassId) (A : Nat → Prop) (H0 : Heap) (b0 : Nat) (ad0 : Nat → Nat) (al0 : List Nat) (mx n0 s0 : Nat) (p : Program) (l : Launch) (e : Env) (R : Room) (s : State) (m : MethodId) (args : Array Value) (below : List Frame) (meth : Method) (c : Code) (Q : State → Prop) (pc : Nat) (L : hk_L) (st : List Value) (h : hk_H) : Prop :=
  ∀ (ad : Nat → Nat) (H : Heap) (locs : List Loc) (ls : Array Slot), hk_R SH cls kd sc D cI cZ cR cJ A H0 b0 ad0 al0 mx n0 s0 ad h H locs ls L st → hk_G SH cls p l e R s m args below meth c Q n0 s0 ad h H locs pc ls st
theorem hk_R.stk {ad : Nat → Nat} {h : hk_H} {H : Heap} {locs : List Loc} {ls : Array Slot} {L : hk_L} {st st' : List Value} (r : hk_R SH cls kd sc D cI cZ cR cJ A H0 b0 ad0 al0 mx n0 s0 ad h H locs ls L st) (hs : ∀ v ∈ st', hk_vo sc h.2.2.2 v) : hk_R SH cls kd sc D cI cZ cR cJ A H0 b0 ad0 al0 mx n0 s0 ad h H locs ls L st' := by
  obtain ⟨a1, a2, a3, a4, a5, a6, a7, a8, a9⟩ := r
  exact ⟨a1, a2, a3, a4, a5, a6, hs, a8, a9⟩
theorem hk_R.st1 {ad : Nat → Nat} {h : hk_H} {H : Heap} {locs : List Loc} {ls ls' : Array Slot} {L : hk_L} {st st' : List Value} {i : Nat} {v : Value} (r : hk_R SH cls kd sc D cI cZ cR cJ A H0 b0 ad0 al0 mx n0 s0 ad h H locs ls L st) (hl : lv_has ls' mx ((i, hk_tv ad v) :: (hk_pl ad L).filter (fun q => !(q.1 == i) && !(q.1 + 1 == i && q.2.category == 2)))) (hv : hk_vo sc h.2.2.2 v) (hs : ∀ v ∈ st', hk_vo sc h.2.2.2 v) : hk_R SH cls kd sc D cI cZ cR cJ A H0 b0 ad0 al0 mx n0 s0 ad h H locs ls' (hk_s1 i v L) st' := by
  obtain ⟨a1, a2, a3, a4, a5, a6, a7, a8, a9⟩ := r
  refine ⟨a1, a2, a3, a4, hk_s1_has hl, by rw [hk_s1_len]; exact a6, hs, fun w hw => ?_, a9⟩
  rcases hk_s1_in hw with rfl | h1
  · exact hv
  · exact a8 w h1
theorem hk_R.st2 {ad : Nat → Nat} {h : hk_H} {H : Heap} {locs : List Loc} {ls ls' : Array Slot} {L : hk_L} {st st' : List Value} {i : Nat} {v : Value} (r : hk_R SH cls kd sc D cI cZ cR cJ A H0 b0 ad0 al0 mx n0 s0 ad h H locs ls L st) (hl : lv_has ls' mx ((i, hk_tv ad v) :: (hk_pl ad L).filter (fun q => !(q.1 == i) && (!(q.1 == i + 1) && !(q.1 + 1 == i && q.2.category == 2))))) (hv : hk_vo sc h.2.2.2 v) (hs : ∀ v ∈ st', hk_vo sc h.2.2.2 v) : hk_R SH cls kd sc D cI cZ cR cJ A H0 b0 ad0 al0 mx n0 s0 ad h H locs ls' (hk_s2 i v L) st' := by
  obtain ⟨a1, a2, a3, a4, a5, a6, a7, a8, a9⟩ := r
  refine ⟨a1, a2, a3, a4, hk_s2_has hl, by rw [hk_s2_len]; exact a6, hs, fun w hw => ?_, a9⟩
  rcases hk_s2_in hw with rfl | h1
  · exact hv
  · exact a8 w h1
theorem hk_R.hp {ad : Nat → Nat} {h h' : hk_H} {H H' : Heap} {locs locs' : List Loc} {ls : Array Slot} {L : hk_L} {st st' : List Value} (r : hk_R SH cls kd sc D cI cZ cR cJ A H0 b0 ad0 al0 mx n0 s0 ad h H locs ls L st) (hP : va_P D cls (hk_ws SH cls kd cI cZ cR cJ ad h') H') (hD : va_D A (hk_ws SH cls kd cI cZ cR cJ ad h')) (hS : va_S A H0 H' locs') (hw : hk_wf h') (ha : h'.2.2.2 = h.2.2.2) (hs : ∀ v ∈ st', hk_vo sc h.2.2.2 v) : hk_R SH cls kd sc D cI cZ cR cJ A H0 b0 ad0 al0 mx n0 s0 ad h' H' locs' ls L st' := by
  obtain ⟨a1, a2, a3, a4, a5, a6, a7, a8, a9, a10, a11⟩ := r
  exact ⟨hP, hD, hS, hw, a5, a6, by rw [ha]; exact hs, by rw [ha]; exact a8, ⟨a9.1, a9.2.1, by rw [ha]; exact a9.2.2⟩, by rw [ha]; exact a10, by rw [ha]; exact a11⟩
theorem hk_vo2 {al : List Nat} {v w : Value} {r : List Value} (h : ∀ x ∈ v :: w :: r, hk_vo sc al x) : hk_vo sc al v ∧ hk_vo sc al w ∧ ∀ x ∈ r, hk_vo sc al x := ⟨h v (by simp), h w (by simp), fun x hx => h x (by simp [hx])⟩
theorem hk_voc {al : List Nat} {v : Value} {r : List Value} (hv : hk_vo sc al v) (hr : ∀ x ∈ r, hk_vo sc al x) : ∀ x ∈ v :: r, hk_vo sc al x := fun x hx => by
  rcases List.mem_cons.mp hx with rfl | h
  · exact hv
  · exact hr x h
theorem hk_vot {al : List Nat} {v : Value} {r : List Value} (h : ∀ x ∈ v :: r, hk_vo sc al x) : hk_vo sc al v ∧ ∀ x ∈ r, hk_vo sc al x := ⟨h v (by simp), fun x hx => h x (by simp [hx])⟩
theorem hk_aliv {al : List Nat} {q n k : Nat} (hS : ∃ n, SH sc = (6, n)) (hv : hk_vo sc al (.ref q)) (hq : SH q = (k, n)) (hk : k ≠ 6) : q ∈ al := by
  rcases hv with h | h
  · exact h
  · subst h
    obtain ⟨n', h'⟩ := hS
    rw [h'] at hq
    cases hq
    exact absurd rfl hk
/-- the branches of a compare -/
theorem hk_cmp_snd {X : hk_O} {cnd : ClassFile.Cond} {x y : Int32} {a1 a2 : hk_O} (he : hk_cmp (fun P d k0 k1 => @ite _ P d k0 k1) cnd x y a1 a2 = X) : (match cnd with
    | .eq => x = y
    | .ne => ¬ x = y
    | .lt => x < y
    | .ge => y ≤ x
    | .gt => y < x
    | .le => x ≤ y) ∧ a1 = X ∨ (¬ (match cnd with
    | .eq => x = y
    | .ne => ¬ x = y
    | .lt => x < y
    | .ge => y ≤ x
    | .gt => y < x
    | .le => x ≤ y)) ∧ a2 = X := by
  cases cnd <;> simp only [hk_cmp] at he ⊢ <;> split at he <;> simp_all
end HKI
