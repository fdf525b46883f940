/-! THE CLAIM OUT OF ONE WALK OF THE LAW'S BODY. Your part is whole_start (and what it stands on); all else here is the same for every law, but numbers. -/
def R_law : String := "HullKeepersLaw"
def lw_P (b : Addr) (xs : List Int32) (args : Array Value) (s : State) : Prop := args = #[.ref b] ∧ s.IntsAt b xs ∧ xs.length ≤ 3072 ∧ (Jvm.Cond.and given_1 narrow_1).before args s = true
def lw_Q (_ : Array Value) (s : State) (o : Outcome) (t : State) : Prop := o = .returned (some (.int 1)) ∧ Framed s o t [] 600000 7302250
def lw_Z (below : List Frame) (a : Array Value) (s : State) : State → Prop := fun t => ∃ o, t.status = .running ∧ Ended t below o ∧ lw_Q a s o t
/-- the law's own end, with 1 on the stack, nothing written that was there before, its room as the claim has it -/
theorem lw_ret {p : Program} {l : Launch} {e : Env} {s : State} {m : MethodId} {below : List Frame} {meth : Method} {c : Code} {b : Nat} (hx : p.tables.exec = Jvm.exec) (hb : c.code = code) (hr : meth.sig.returnType = ret) (hlocks : meth.locks = false) {pc : Nat} {H : Heap} {ls : Array Slot} (hdg : decode code pc = .ok (.ireturn, 1)) : W p l e room_1 s m #[Value.ref b] below meth c H [] 600000 7302250 (lw_Z below #[Value.ref b] s) (F0 m pc ls [.int 1]) := by
  intro T hT X
  obtain ⟨fs, hret, hrun, hended, hW, hframe⟩ := X.leave (v := some (.int 1)) (hlocks := hlocks) (fun h => by rw [hr] at h; cases h)
  have hmeth' : T.vm.method? m = some meth := X.method'
  refine ⟨T.setFrames fs, ?_, .returned (some (.int 1)), hrun, hended, rfl, ⟨_, rfl⟩, hW, hframe⟩
  jvm_step X.here [X.here.top, hx, hb, hdg, hmeth', hr, ret, narrow_b1]
  (try refine ⟨rfl, ?_⟩); (try refine ⟨rfl, ?_⟩)
  first | (intro acts; rw [hret _ acts rfl rfl rfl]) | rw [hret _ _ rfl rfl rfl]
  exact Steps.refl _
/-- what holds at the law's entry: the machine, the code, the tables' words (any of lw_tbl by 'hts w (by decide +kernel)'), the script of L ints xs at the cell b, what the Statement gives of the start (any of its parts by flat_of_before) -/
def lw_At (p : Program) (s : State) (m : MethodId) (meth : Method) (c : Code) (b L : Nat) (xs : Nat → Int32) : Prop :=
  p.tables.exec = Jvm.exec ∧ c.code = code ∧ meth.sig.returnType = ret ∧ c.maxLocals = 4 ∧ s.vm.findClass R_law = some m.cls ∧ (∀ w ∈ lw_tbl, w.before #[Value.ref b] s = true) ∧ va_X b L xs s s.heap ∧ b < s.heap.size ∧ meth.locks = false ∧ (Jvm.Cond.and given_1 narrow_1).before #[Value.ref b] s = true
theorem hk_room_ok : room_1.frames = 2048 ∧ room_1.cells = 600000 ∧ room_1.slots = 7302250 ∧ room_1.locals = 84000 := ⟨rfl, rfl, rfl, rfl⟩
/-- the heap at the start: nothing -/
def hk_h0 : hk_H := (fun _ _ => 0, fun _ _ => 0, fun _ _ => 0, [])
/-- the law out of a run of the abstract machine -/
def hk_Law (L : Nat) (xs : Nat → Int32) : Prop := ∃ (d F n : Nat) (h' : hk_H), d ≤ 1000 ∧ hk_run hk_SH 95 100000 1 (hk_call hk_SH 95 100000 1 hk_mt F d) (some (L, xs)) hk_cL n hk_cL (hk_loc 4 [.ref 96]) [] hk_h0 = some (some (.int 1), h') ∧ h'.2.2.2.length ≤ 600000 ∧ hk_sl hk_SH hk_cls h'.2.2.2 ≤ 7302250
set_option maxRecDepth 100000 in
theorem hk_rooms {d : Nat} (hd : d ≤ 1000) : d + 1 ≤ room_1.frames ∧ 64 * d + 1064 ≤ room_1.locals := by
  rw [hk_room_ok.1, hk_room_ok.2.2.2]
  omega
set_option maxHeartbeats 2000000 in
theorem hk_whole {p : Program} {e : Env} {s : State} {m : MethodId} {below : List Frame} {meth : Method} {c : Code} (l : Launch) {b L : Nat} {xs : Nat → Int32} (C0 : lw_At p s m meth c b L xs) (hLaw : hk_Law L xs) : W p l e room_1 s m #[Value.ref b] below meth c s.heap [] 0 0 (lw_Z below #[Value.ref b] s) (entryFrame m ([Value.ref b] : List Value).toArray 4) := by
  obtain ⟨hx, hb, hr, hml, hown, hts, hX, hbl, hlocks, hgv⟩ := id C0
  obtain ⟨d, F, n, h', hd, hrun, hc1, hc2⟩ := hLaw
  have hTT := hk_TT
  have hts2 : ∀ w ∈ hk_wl, w.before #[Value.ref b] s = true := fun w hw => hts w (hk_wl_in w hw)
  have hkn : ∀ ci : Nat, ∃ z : ClassId × (Nat → Nat), ∀ q : vw_C, hk_cls[ci]? = some q → u_Kn s q.1 q.2.1 q.2.2 z.1 z.2 := by
    intro ci
    cases hq : hk_cls[ci]? with
    | none => exact ⟨(0, fun _ => 0), fun q h => by cases h⟩
    | some q =>
      obtain ⟨cC, iS, hk⟩ := u_known (C := q.1) (T := q.2.1) (N := q.2.2) (n := q.2.2) hts2 (hk_clsok ci q hq).1 (hts2 _ (hk_inst q (List.mem_of_getElem? hq)))
      exact ⟨(cC, iS), fun q' h => by cases h; exact hk⟩
  obtain ⟨zf, hzf⟩ := Classical.axiomOfChoice hkn
  have harr : ∀ ty : FieldType, Cond.arrayClass ty ∈ hk_wl → (match ty with | .object _ => False | _ => True) → ∃ cA : ClassId, ArrOfT s cA ty ∧ va_RA s cA ty := by
    intro ty hty hno
    obtain ⟨cA, kA, comp, h1, h2, h3⟩ := Cond.arrayClass_spec (hts2 _ hty)
    refine ⟨cA, fun n z => ⟨fun k h => (by cases h), kA, h2, comp, h3⟩, ?_⟩
    cases ty <;> first | exact h1 | exact absurd hno (by simp)
  obtain ⟨cI, aI⟩ := harr .int hTT.2.2.2.2.2.2.1.1 trivial
  obtain ⟨cZ, aZ⟩ := harr .boolean hTT.2.2.2.2.2.2.1.2.1 trivial
  obtain ⟨cJ, aJ⟩ := harr .long hTT.2.2.2.2.2.2.1.2.2.1 trivial
  obtain ⟨cR, aR⟩ : ∃ cR : ClassId, ArrOfT s cR (.object "HullKeepers$House") ∧ va_RA s cR (.object "HullKeepers$House") := by
    obtain ⟨comp, cA, kA, h1, h2, h3, h4, h5⟩ := Cond.arrayOver_spec (hts _ hk_ao_in)
    exact ⟨cA, fun n z => ⟨fun k h => (by cases h), kA, h3, comp, h4⟩, kA, comp, h3, h4, h1, h5⟩
  have hK : va_K (fun ci => (zf ci).1, fun ci => (zf ci).2) hk_cls (hk_tys cI cZ cR cJ "HullKeepers$House") s := by
    refine ⟨fun ci q hq => hzf ci q hq, fun k q hq => ?_⟩
    match k, hq with
    | 0, hq => cases hq; exact aI
    | 1, hq => cases hq; exact aZ
    | 2, hq => cases hq; exact aR
    | 3, hq => cases hq; exact aJ
    | k + 4, hq => simp [hk_tys] at hq
  have hA : ∀ q : Nat, s.heap.size ≤ q → (fun q : Nat => s.heap.size ≤ q) q := fun _ h => h
  have hS : va_S (fun q : Nat => s.heap.size ≤ q) s.heap s.heap [] := va_S.rf
  have hEx : hk_Ex "HullKeepers$House" s := ⟨va_AO.of (hts _ hk_ao_in), fun q hq => va_Nw.of rfl (hts _ (hk_nl_in q hq))⟩
  have hrm := hk_rooms hd
  have FX : hk_Fx hk_SH 1 hk_cls hk_kd hk_wl hk_mt "HullKeepers$House" 96 p l room_1 s m #[Value.ref b] meth c (fun ci => (zf ci).1, fun ci => (zf ci).2) cI cZ cR cJ (fun q : Nat => s.heap.size ≤ q) s.heap b 4 d "HullKeepersLaw" code (some (L, xs)) (hk_call hk_SH 95 100000 1 hk_mt F d) false :=
    ⟨hTT, hx, hb, hml, hown, hts2, hK, hA, fun h => (by cases h), fun q h => (by cases h; exact ⟨hX, hbl, Nat.not_le.mpr hbl⟩), fun y a h r h' hr2 => hk_call_snd l hTT F d y a h r h' hr2, fun y a h q hr2 => hk_call_ge F d y a h q hr2, hrm.1, hrm.2, hEx⟩
  have hl := lv_entry ([Value.ref 96].map (hk_tv (fun _ => b))) (n := 4) (Nat.le_of_ble_eq_true rfl)
  rw [lg_entry_eq]
  show W p l e room_1 s m #[Value.ref b] below meth c s.heap [] 0 0 (lw_Z below #[Value.ref b] s) (F0 m 0 ((lg_sl ([Value.ref 96].map (hk_tv (fun _ => b))) ++ List.replicate (4 - (lg_sl ([Value.ref 96].map (hk_tv (fun _ => b)))).length) Slot.unset).toArray) [])
  generalize (lg_sl ([Value.ref 96].map (hk_tv (fun _ => b))) ++ List.replicate (4 - (lg_sl ([Value.ref 96].map (hk_tv (fun _ => b)))).length) Slot.unset).toArray = ls at hl ⊢
  have hRR : hk_R hk_SH hk_cls hk_kd 96 (fun ci => (zf ci).1, fun ci => (zf ci).2) cI cZ cR cJ (fun q : Nat => s.heap.size ≤ q) s.heap b (fun _ => b) [] 4 0 0 (fun _ => b) hk_h0 s.heap [] ls (hk_loc 4 [.ref 96]) [] := by
    refine ⟨fun k q h => by simp [hk_ws, hk_h0] at h, ⟨fun i j p q h => by simp [hk_ws, hk_h0] at h, fun k q h => by simp [hk_ws, hk_h0] at h⟩, hS, fun p hp => absurd hp List.not_mem_nil, hk_has_sub hl fun z hz => ?_, rfl, fun v hv => absurd hv List.not_mem_nil, fun v hv => ?_, ⟨rfl, fun z _ => rfl, fun z hz => hz⟩, Nat.zero_le _, Nat.zero_le _⟩
    · obtain ⟨v, h1, h2⟩ := hk_pl_mem.mp hz
      have := hk_as_args (fun _ => b) [.ref 96] 0 z.1 v (hk_loc_at h1)
      rw [Nat.zero_add, ← h2] at this
      exact this
    · obtain ⟨k, hk⟩ := List.getElem?_of_mem hv
      have := hk_as_mem [.ref 96] v (List.mem_of_getElem? (hk_loc_at hk))
      rw [List.mem_singleton] at this
      rw [this]
      exact Or.inr rfl
  have key := hk_run_snd (rk := 2) (n0 := 0) (s0 := 0) (ad0 := fun _ => b) (al0 := []) (e := e) (below := below) (Q := lw_Z below #[Value.ref b] s) FX (hk_eb_ok hk_lwwlk hk_lwall) hk_lwseq (qf := (some (.int 1), h')) ⟨Nat.le_trans (Nat.sub_le _ _) hc1, Nat.le_trans (Nat.sub_le _ _) hc2⟩ ?_ n hk_cL [] 0 rfl (fun e r he => by cases he; rfl) (hk_loc 4 [.ref 96]) [] hk_h0 hrun (fun _ => b) s.heap [] ls hRR
  · unfold hk_G at key
    exact W.cs rfl rfl key
  · intro pc L st h1 rr hqf hE ad1 H1 locs1 ls1 r1
    cases hqf
    obtain ⟨b1, b2, b3, b4, b5, b6, b7, b8, b9, b10, b11⟩ := r1
    unfold hk_G
    rcases hE with ⟨x, hx1, rfl, hdg, hrk⟩ | ⟨x, hx1, rfl, hdg, hrk⟩ | ⟨hx1, rfl, hdg, hrk⟩
    · cases hx1
      refine va_forget (fun q hq => b3.2.2 q hq) ?_
      refine W.widen (k := 600000) (n := 7302250) (Nat.le_trans (Nat.sub_le _ _) hc1) (Nat.le_trans (Nat.sub_le _ _) hc2) ?_
      exact lw_ret hx hb hr hlocks hdg
    · cases hx1
    · cases hx1
