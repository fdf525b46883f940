/-! ===== what the abstract machine answers, the machine answers ===== -/
section HKD
variable (SH : Nat → hk_Sh) (pb big ch : Nat) (cls : List vw_C) (kd : Nat → Nat → Nat) (wl : List Jvm.Cond) (mt : Nat → Option hk_Q) (hn : String) (sc : Nat)
def hk_Mok (q : hk_Q) : Prop :=
  plainName q.1.cls = true ∧ (q.1.cls ≠ "java/lang/invoke/MethodHandle" ∧ q.1.cls ≠ "java/lang/invoke/VarHandle") ∧ .code q.1 q.2.1 q.2.2.1 q.2.2.2.1 ∈ wl ∧ .initialized q.1.cls ∈ wl ∧
  (q.2.2.2.2.1.2.1 = 0 → .instanceMethod q.1 ∈ wl ∧ .selects q.1.cls q.1 q.1 ∈ wl ∧ 1 ≤ q.2.2.2.2.1.1) ∧ (q.2.2.2.2.1.2.1 = 1 → q.1.name = "<init>" ∧ .instanceMethod q.1 ∈ wl ∧ q.2.2.2.1 = none ∧ 1 ≤ q.2.2.2.2.1.1) ∧ (q.2.2.2.2.1.2.1 = 2 → .static q.1 ∈ wl) ∧
  q.2.2.1 ≤ 40 ∧ (parseMethodDescriptor q.1.desc).map (fun d => d.parameters.length) = some (match q.2.2.2.2.1.2.1 with
    | 2 => q.2.2.2.2.1.1
    | _ => q.2.2.2.2.1.1 - 1) ∧
  (q.2.2.2.1 = none ∨ q.2.2.2.1 = some .int ∨ q.2.2.2.1 = some .boolean ∨ q.2.2.2.1 = some .long) ∧
  (∀ e ∈ q.2.2.2.2.2, decode q.2.1 e.1 = .ok (e.2.1, e.2.2.1) ∧ hk_iok cls kd mt hn q.1.cls (decide (q.1.name = "<init>")) (hk_rk q.2.2.2.1) q.2.2.1 e.1 e.2.1 e.2.2.1 e.2.2.2.2.1.1 e.2.2.2.2.1.2.1 e.2.2.2.2.1.2.2.1 e.2.2.2.2.1.2.2.2 e.2.2.2.2.2.1 e.2.2.2.2.2.2.1 e.2.2.2.2.2.2.2 = true) ∧ hk_seq q.2.2.2.2.2 = true ∧ (match q.2.2.2.2.2 with | [] => true | e :: _ => decide (e.1 = 0)) = true
def hk_Cok : Prop := ∀ (ci : Nat) (q : vw_C), cls[ci]? = some q → (∀ w ∈ u_ws q.1 q.2.1 q.2.2, w ∈ wl) ∧ (∃ ty : Nat → FieldType, (∀ k, k < q.2.2 → parseFieldDescriptor (q.2.1 k).2.2.1 = some (ty k)) ∧ ∀ k, k < q.2.2 → (kd ci k = 0 → ty k = .int) ∧ (kd ci k = 1 → (∃ o, ty k = .object o) ∨ ∃ o, ty k = .array o) ∧ (kd ci k = 2 → ty k = .boolean) ∧ kd ci k ≤ 2) ∧ (∀ a, a < q.2.2 → ∀ b, b < q.2.2 → a ≠ b → (q.2.1 a).2.1 ≠ (q.2.1 b).2.1)
def hk_Mw : Prop := .initialized "java/lang/Math" ∈ wl ∧ (.static Lib.Math.max.name ∈ wl ∧ .code Lib.Math.max.name Lib.Math.max.code 2 (some .int) ∈ wl) ∧ (.static Lib.Math.min.name ∈ wl ∧ .code Lib.Math.min.name Lib.Math.min.code 2 (some .int) ∈ wl) ∧ (.static Lib.MathLoose.max_long.x ∈ wl ∧ .code Lib.MathLoose.max_long.x Lib.MathLoose.max_long.code 4 (some .long) ∈ wl) ∧ (.static Lib.MathLoose.min_long.x ∈ wl ∧ .code Lib.MathLoose.min_long.x Lib.MathLoose.min_long.code 4 (some .long) ∈ wl)
def hk_T : Prop :=
  hk_Cok cls kd wl ∧ (∀ (p n : Nat), SH p = (1, n) → ∃ q, cls[n]? = some q) ∧ (∀ (p n : Nat), SH p = (6, n) → p = sc) ∧ (∃ n, SH sc = (6, n)) ∧ (∃ q, cls[ch]? = some q ∧ q.1 = hn) ∧ (∀ w ∈ wl, goodWord w = true) ∧
  (.arrayClass .int ∈ wl ∧ .arrayClass .boolean ∈ wl ∧ .arrayClass .long ∈ wl ∧ ∀ b w, hk_lk b = some w → w ∈ wl) ∧ (.instanceMethod Lib.objectInit ∈ wl ∧ .code Lib.objectInit ⟨#[0xb1]⟩ 1 none ∈ wl ∧ hk_Mw wl) ∧ (.native arraycopyName ∈ wl ∧ .static arraycopyName ∈ wl ∧ .initialized "java/lang/System" ∈ wl) ∧ (∀ (y : Nat) (q : hk_Q), mt y = some q → hk_Mok cls kd wl mt hn q)
/-- the words that a method's contract asks for: its own code first -/
def hk_mw (q : hk_Q) : List Jvm.Cond := .code q.1 q.2.1 q.2.2.1 q.2.2.2.1 :: wl
def hk_rm (d : Nat) (h h' : hk_H) : Room := { frames := d, cells := h'.2.2.2.length - h.2.2.2.length, slots := hk_sl SH cls h'.2.2.2 - hk_sl SH cls h.2.2.2, locals := 64 * d + 1000 }
def hk_ag (ad u : Nat → Nat) (al : List Nat) : Prop := ∀ q, q ∈ al ∨ q = sc → u q = ad q
variable (D : va_G) (cI cZ cR cJ : ClassId) (ad : Nat → Nat) (sz : Nat)
def hk_B (h' : hk_H) (A : Nat → Prop) (u : Nat → Nat) (t : State) : Prop := va_P D cls (hk_ws SH cls kd cI cZ cR cJ u h') t.heap ∧ va_K D cls (hk_tys cI cZ cR cJ hn) t ∧ va_D A (hk_ws SH cls kd cI cZ cR cJ u h')
def hk_Qc (h h' : hk_H) (r : Option Value) : Array Value → State → Outcome → State → Prop := match r with
  | none => va_Qv (fun u => hk_ag sc ad u h.2.2.2 ∧ hk_wf h') (hk_B SH cls kd hn D cI cZ cR cJ h' (va_A (hk_ws SH cls kd cI cZ cR cJ ad h) sz)) (va_A (hk_ws SH cls kd cI cZ cR cJ ad h) sz)
  | some (.int x) => va_Qi (fun y u => y = x ∧ hk_ag sc ad u h.2.2.2 ∧ hk_wf h') (hk_B SH cls kd hn D cI cZ cR cJ h' (va_A (hk_ws SH cls kd cI cZ cR cJ ad h) sz)) (va_A (hk_ws SH cls kd cI cZ cR cJ ad h) sz)
  | some (.long x) => va_Ql (fun y u => y = x ∧ hk_ag sc ad u h.2.2.2 ∧ hk_wf h') (hk_B SH cls kd hn D cI cZ cR cJ h' (va_A (hk_ws SH cls kd cI cZ cR cJ ad h) sz)) (va_A (hk_ws SH cls kd cI cZ cR cJ ad h) sz)
  | _ => fun _ _ _ _ => False
def hk_Pc (a : List Value) (h : hk_H) : Array Value → State → Prop := va_Pc (a.map (hk_tv ad)) (fun U => U.heap.size = sz ∧ va_P D cls (hk_ws SH cls kd cI cZ cR cJ ad h) U.heap ∧ va_K D cls (hk_tys cI cZ cR cJ hn) U ∧ va_D (fun _ => True) (hk_ws SH cls kd cI cZ cR cJ ad h) ∧ hk_Ex hn U)
/-- method y, called so on h, answers r and leaves h': its contract -/
def hk_MetOK (l : Launch) (d y : Nat) (a : List Value) (h : hk_H) (r : Option Value) (h' : hk_H) : Prop :=
  ∀ q, mt y = some q → hk_wf h → (∀ v ∈ a, hk_vo sc h.2.2.2 v) → a.length = q.2.2.2.2.1.1 ∧
  ∀ (D : va_G) (cI cZ cR cJ : ClassId) (ad : Nat → Nat) (sz : Nat), Met l q.1 (hk_mw wl q) (hk_rm SH cls d h h') (hk_Pc SH cls kd hn D cI cZ cR cJ ad sz a h) (hk_Qc SH cls kd hn sc D cI cZ cR cJ ad sz h h' r) (h'.2.2.2.length - h.2.2.2.length) (hk_sl SH cls h'.2.2.2 - hk_sl SH cls h.2.2.2) (va_A (hk_ws SH cls kd cI cZ cR cJ ad h) sz)
end HKD

theorem hk_Pc_blind {SH : Nat → hk_Sh} {cls : List vw_C} {kd : Nat → Nat → Nat} {hn : String} {D : va_G} {cI cZ cR cJ : ClassId} {ad : Nat → Nat} {sz : Nat} {a : List Value} {h : hk_H} : FrameBlind (hk_Pc SH cls kd hn D cI cZ cR cJ ad sz a h) := fun a U g mk q => by
  obtain ⟨q0, q1, qP, qK, qD, qA⟩ := q
  exact ⟨q0, q1, qP, va_K.moved (u := U) (U := U.calling g mk a) (Vm.Alike.refl U.vm) qK, qD, hk_Ex.call qA⟩
theorem hk_tv_congr {ad u : Nat → Nat} {al : List Nat} {sc : Nat} (hu : hk_ag sc ad u al) {v : Value} (hv : hk_vo sc al v) : hk_tv u v = hk_tv ad v := by
  cases v <;> first | rfl | exact congrArg Value.ref (hu _ hv)
theorem hk_map_congr {ad u : Nat → Nat} {al : List Nat} {sc : Nat} (hu : hk_ag sc ad u al) {st : List Value} (hv : ∀ v ∈ st, hk_vo sc al v) : st.map (hk_tv u) = st.map (hk_tv ad) := List.map_congr_left fun v h => hk_tv_congr hu (hv v h)
theorem hk_fmc {α β : Type} {f g : α → Option β} : ∀ l : List α, (∀ x ∈ l, f x = g x) → l.filterMap f = l.filterMap g
  | [], _ => rfl
  | x :: r, h => by
    rw [List.filterMap_cons, List.filterMap_cons, h x List.mem_cons_self, hk_fmc r fun y hy => h y (List.mem_cons_of_mem _ hy)]
theorem hk_pl_congr {ad u : Nat → Nat} {al : List Nat} {sc : Nat} (hu : hk_ag sc ad u al) {L : hk_L} (hv : ∀ v, some v ∈ L → hk_vo sc al v) : hk_pl u L = hk_pl ad L := by
  unfold hk_pl
  refine hk_fmc _ fun q hq => ?_
  obtain ⟨o, k⟩ := q
  cases o with
  | none => rfl
  | some v =>
    have hm : some v ∈ L := by
      rw [List.mem_zipIdx_iff_getElem?] at hq
      exact List.mem_of_getElem? hq
    show some (k, hk_tv u v) = some (k, hk_tv ad v)
    rw [hk_tv_congr hu (hv v hm)]
theorem hk_vo_ge {sc : Nat} {h h' : hk_H} (hg : hk_ge h h') {v : Value} (hv : hk_vo sc h.2.2.2 v) : hk_vo sc h'.2.2.2 v := by
  obtain ⟨x, hx⟩ := hg
  cases v <;> first | trivial | (rcases hv with e | e
                                 · exact Or.inl (by rw [hx]; exact List.mem_append_left _ e)
                                 · exact Or.inr e)
theorem hk_sl_app (SH : Nat → hk_Sh) (cls : List vw_C) (a b : List Nat) : hk_sl SH cls (a ++ b) = hk_sl SH cls a + hk_sl SH cls b := by
  unfold hk_sl
  rw [List.map_append, List.sum_append]
theorem hk_ge_len {h h' : hk_H} (hg : hk_ge h h') : h.2.2.2.length ≤ h'.2.2.2.length := by
  obtain ⟨x, hx⟩ := hg
  rw [hx, List.length_append]
  omega
theorem hk_ge_sl {SH : Nat → hk_Sh} {cls : List vw_C} {h h' : hk_H} (hg : hk_ge h h') : hk_sl SH cls h.2.2.2 ≤ hk_sl SH cls h'.2.2.2 := by
  obtain ⟨x, hx⟩ := hg
  rw [hx, hk_sl_app]
  omega
theorem hk_is_eq {s : hk_Sh} {k n : Nat} (h : hk_is s k n = true) : s = (k, n) := by
  obtain ⟨a, b⟩ := s
  unfold hk_is at h
  rw [Bool.and_eq_true] at h
  have h1 := Nat.eq_of_beq_eq_true h.1
  have h2 := Nat.eq_of_beq_eq_true h.2
  simp only at h1 h2
  rw [h1, h2]
theorem hk_mem_ge {h h' : hk_H} (hg : hk_ge h h') {z : Nat} (hz : z ∈ h.2.2.2) : z ∈ h'.2.2.2 := by
  obtain ⟨x, hx⟩ := hg
  rw [hx]
  exact List.mem_append_left _ hz
