/-! ===== a run, and a call, of the abstract machine is one of the machine ===== -/
section HKJ6
variable {SH : Nat → hk_Sh} {pb big ch : Nat} {cls : List vw_C} {kd : Nat → Nat → Nat} {wl : List Jvm.Cond} {mt : Nat → Option hk_Q} {hn : String} {sc : Nat}
variable {p : Program} {l : Launch} {e : Env} {R : Room} {s : State} {m : MethodId} {args : Array Value} {below : List Frame} {meth : Method} {c : Code} {Q : State → Prop}
variable {D : va_G} {cI cZ cR cJ : ClassId} {A : Nat → Prop} {H0 : Heap} {b0 mx n0 s0 dd : Nat} {ad0 : Nat → Nat} {al0 : List Nat} {own : String} {cc : ByteArray} {scr : Option (Nat × (Nat → Int32))} {cl : Nat → List Value → hk_H → hk_O}
set_option maxHeartbeats 2000000 in
theorem hk_run_snd {ini : Bool} {rk : Nat} (FX : hk_Fx SH ch cls kd wl mt hn sc p l R s m args meth c D cI cZ cR cJ A H0 b0 mx dd own cc scr cl ini) {cd : List hk_E} (hcd : ∀ e ∈ cd, decode cc e.1 = .ok (e.2.1, e.2.2.1) ∧ hk_iok cls kd mt hn own ini rk mx e.1 e.2.1 e.2.2.1 e.2.2.2.2.1.1 e.2.2.2.2.1.2.1 e.2.2.2.2.1.2.2.1 e.2.2.2.2.1.2.2.2 e.2.2.2.2.2.1 e.2.2.2.2.2.2.1 e.2.2.2.2.2.2.2 = true) (hsq : hk_seq cd = true) {qf : Option Value × hk_H} (hR3 : qf.2.2.2.2.length - n0 ≤ R.cells ∧ hk_sl SH cls qf.2.2.2.2 - s0 ≤ R.slots)
    (hend : ∀ pc L st h rr, qf = (rr, h) → hk_End cc rk pc rr st → hk_K SH cls kd sc D cI cZ cR cJ A H0 b0 ad0 al0 mx n0 s0 p l e R s m args below meth c Q pc L st h) : ∀ (n : Nat) (cs pre : List hk_E) (pc : Nat), cd = pre ++ cs → (∀ e r, cs = e :: r → e.1 = pc) → ∀ L st h, hk_run SH pb big ch cl scr cd n cs L st h = some qf → hk_K SH cls kd sc D cI cZ cR cJ A H0 b0 ad0 al0 mx n0 s0 p l e R s m args below meth c Q pc L st h := by
  intro n
  induction n with
  | zero => intro cs pre pc _ _ L st h hr; simp [hk_run] at hr
  | succ n ih =>
    intro cs pre pc hpre hpc L st h hr
    cases cs with
    | nil => simp [hk_run] at hr
    | cons e0 cs =>
      obtain rfl := hpc _ _ rfl
      obtain ⟨hdg, hck⟩ := hcd e0 (by rw [hpre]; simp)
      have hnx : ∀ L st h, hk_run SH pb big ch cl scr cd n cs L st h = some qf → hk_K SH cls kd sc D cI cZ cR cJ A H0 b0 ad0 al0 mx n0 s0 p l e R s m args below meth c Q (e0.1 + e0.2.2.1) L st h := fun L st h hr2 => ih cs (pre ++ [e0]) _ (by rw [hpre]; simp) (fun e1 r he => hk_seq_at cd pre e0 e1 r hsq (by rw [hpre, he])) L st h hr2
      have hjm : ∀ t L st h, hk_run SH pb big ch cl scr cd n (hk_sfx t cd) L st h = some qf → hk_K SH cls kd sc D cI cZ cR cJ A H0 b0 ad0 al0 mx n0 s0 p l e R s m args below meth c Q t L st h := fun t L st h hr2 => by
        obtain ⟨pre2, h2⟩ := hk_sfx_in t cd
        exact ih _ pre2 t h2 (fun e1 r he => hk_sfx_hd t cd e1 r he) L st h hr2
      have hgr : ∀ L st h, hk_run SH pb big ch cl scr cd n cs L st h = some qf → hk_ge h qf.2 := fun L st h hr2 => hk_run_ge FX.2.2.2.2.2.2.2.2.2.2.2.1 _ _ _ _ _ _ hr2
      rw [hk_run] at hr
      obtain ⟨pc0, ins, len, fl, ⟨a, b, c1, d⟩, v, w, sw⟩ := e0
      dsimp only at hdg hck hnx hjm hr ⊢
      cases ins
      case iconst i => exact hk_z_iconst FX hdg hck hnx hjm hr
      case bipush i => exact hk_z_bipush FX hdg hck hnx hjm hr
      case sipush i => exact hk_z_sipush FX hdg hck hnx hjm hr
      case ldc i => exact hk_z_ldc FX hdg hck hnx hjm hr
      case ldc_w i => exact hk_z_ldc_w FX hdg hck hnx hjm hr
      case lconst i => exact hk_z_lconst FX hdg hck hnx hjm hr
      case ldc2_w i => exact hk_z_ldc2_w FX hdg hck hnx hjm hr
      case iload_n k => exact hk_z_iload_n FX hdg hck hnx hjm hr
      case iload k => exact hk_z_iload FX hdg hck hnx hjm hr
      case aload_n k => exact hk_z_aload_n FX hdg hck hnx hjm hr
      case aload k => exact hk_z_aload FX hdg hck hnx hjm hr
      case lload_n k => exact hk_z_lload_n FX hdg hck hnx hjm hr
      case lload k => exact hk_z_lload FX hdg hck hnx hjm hr
      case istore_n k => exact hk_z_istore_n FX hdg hck hnx hjm hr
      case istore k => exact hk_z_istore FX hdg hck hnx hjm hr
      case astore_n k => exact hk_z_astore_n FX hdg hck hnx hjm hr
      case lstore_n k => exact hk_z_lstore_n FX hdg hck hnx hjm hr
      case lstore k => exact hk_z_lstore FX hdg hck hnx hjm hr
      case iinc k i => exact hk_z_iinc FX hdg hck hnx hjm hr
      case iadd => exact hk_z_iadd FX hdg hck hnx hjm hr
      case isub => exact hk_z_isub FX hdg hck hnx hjm hr
      case imul => exact hk_z_imul FX hdg hck hnx hjm hr
      case iand => exact hk_z_iand FX hdg hck hnx hjm hr
      case ior => exact hk_z_ior FX hdg hck hnx hjm hr
      case ixor => exact hk_z_ixor FX hdg hck hnx hjm hr
      case ishl => exact hk_z_ishl FX hdg hck hnx hjm hr
      case ishr => exact hk_z_ishr FX hdg hck hnx hjm hr
      case iushr => exact hk_z_iushr FX hdg hck hnx hjm hr
      case ladd => exact hk_z_ladd FX hdg hck hnx hjm hr
      case lsub => exact hk_z_lsub FX hdg hck hnx hjm hr
      case lmul => exact hk_z_lmul FX hdg hck hnx hjm hr
      case idiv => exact hk_z_idiv FX hdg hck hnx hjm hr
      case irem => exact hk_z_irem FX hdg hck hnx hjm hr
      case ldiv => exact hk_z_ldiv FX hdg hck hnx hjm hr
      case lneg => exact hk_z_lneg FX hdg hck hnx hjm hr
      case i2l => exact hk_z_i2l FX hdg hck hnx hjm hr
      case l2i => exact hk_z_l2i FX hdg hck hnx hjm hr
      case lcmp => exact hk_z_lcmp FX hdg hck hnx hjm hr
      case dup => exact hk_z_dup FX hdg hck hnx hjm hr
      case dup2 => exact hk_z_dup2 FX hdg hck hnx hjm hr
      case pop => exact hk_z_pop FX hdg hck hnx hjm hr
      case pop2 => exact hk_z_pop2 FX hdg hck hnx hjm hr
      case goto o => exact hk_z_goto FX hdg hck hnx hjm hr
      case if_icmp cnd o => exact hk_z_if_icmp FX hdg hck hnx hjm hr
      case ifCond cnd o => exact hk_z_ifCond FX hdg hck hnx hjm hr
      case ifnonnull o => exact hk_z_ifnonnull FX hdg hck hnx hjm hr
      case tableswitch df lo hi os => exact hk_z_tableswitch FX hdg hck hnx hjm hr
      case lookupswitch df ps => exact hk_z_lookupswitch FX hdg hck hnx hjm hr
      case getfield i => exact hk_z_getfield FX hdg hck hnx hjm hr
      case putfield i => exact hk_z_putfield FX hdg hck hnx hjm hr
      case arraylength => exact hk_z_arraylength FX hdg hck hnx hjm hr
      case iaload => exact hk_z_iaload FX hdg hck hnx hjm hr
      case iastore => exact hk_z_iastore FX hdg hck hnx hjm hr
      case baload => exact hk_z_baload FX hdg hck hnx hjm hr
      case bastore => exact hk_z_bastore FX hdg hck hnx hjm hr
      case laload => exact hk_z_laload FX hdg hck hnx hjm hr
      case lastore => exact hk_z_lastore FX hdg hck hnx hjm hr
      case aaload => exact hk_z_aaload FX hdg hck hnx hjm hr
      case aastore => exact hk_z_aastore FX hdg hck hnx hjm hr
      case new i => exact hk_z_new FX hdg hck hnx hjm hgr hR3 hr
      case newarray t => exact hk_z_newarray FX hdg hck hnx hjm hgr hR3 hr
      case anewarray i => exact hk_z_anewarray FX hdg hck hnx hjm hgr hR3 hr
      case invokevirtual i => exact hk_z_invokevirtual FX hdg hck hnx hjm hgr hR3 hr
      case invokespecial i => exact hk_z_invokespecial FX hdg hck hnx hjm hgr hR3 hr
      case invokestatic i => exact hk_z_invokestatic FX hdg hck hnx hjm hgr hR3 hr
      case ireturn => exact hk_z_ireturn FX hdg hck hnx hjm hend hr
      case lreturn => exact hk_z_lreturn FX hdg hck hnx hjm hend hr
      case return_ => exact hk_z_return FX hdg hck hnx hjm hend hr
      all_goals exact absurd (show (none : hk_O) = some qf from hr) (by simp)
theorem hk_first {cd : List hk_E} (h : (match cd with | [] => true | e :: _ => decide (e.1 = 0)) = true) : ∀ e r, cd = e :: r → e.1 = 0 := by
  intro e r he
  subst he
  exact of_decide_eq_true h
theorem hk_as_sl (ad : Nat → Nat) : ∀ a : List Value, (lg_sl (a.map (hk_tv ad))).length = (hk_as a).length
  | [] => rfl
  | v :: r => by
    have ih := hk_as_sl ad r
    unfold lg_sl at ih ⊢
    rw [List.map_cons, List.flatMap_cons, List.length_append, ih, hk_tv_cat]
    cases v <;> simp [hk_as, Value.category] <;> omega
theorem hk_as_args (ad : Nat → Nat) : ∀ (a : List Value) (off k : Nat) (v : Value), (hk_as a)[k]? = some (some v) → (off + k, hk_tv ad v) ∈ lv_args off (a.map (hk_tv ad))
  | [], _, k, v, h => by simp [hk_as] at h
  | x :: r, off, k, v, h => by
    rw [List.map_cons, lv_args, hk_tv_cat]
    by_cases hx : x.category = 2
    · rw [if_pos hx]
      have hxs : hk_as (x :: r) = some x :: none :: hk_as r := by
        cases x <;> first | rfl | exact absurd hx (by simp [Value.category])
      rw [hxs] at h
      match k, h with
      | 0, h => cases h; exact List.mem_cons.mpr (Or.inl rfl)
      | 1, h => cases h
      | k + 2, h =>
        have := hk_as_args ad r (off + 2) k v h
        rw [show off + (k + 2) = off + 2 + k by omega]
        exact List.mem_cons_of_mem _ this
    · rw [if_neg hx]
      have hxs : hk_as (x :: r) = some x :: hk_as r := by
        cases x <;> first | rfl | exact absurd rfl hx
      rw [hxs] at h
      match k, h with
      | 0, h => cases h; exact List.mem_cons.mpr (Or.inl rfl)
      | k + 1, h =>
        have := hk_as_args ad r (off + 1) k v h
        rw [show off + (k + 1) = off + 1 + k by omega]
        exact List.mem_cons_of_mem _ this
theorem hk_as_mem : ∀ (a : List Value) (v : Value), some v ∈ hk_as a → v ∈ a
  | [], v, h => by simp [hk_as] at h
  | x :: r, v, h => by
    have ih := hk_as_mem r v
    cases x <;> simp [hk_as] at h ⊢ <;> rcases h with h | h <;> first | exact Or.inl h | exact Or.inr (ih h)
theorem hk_loc_at {mx : Nat} {a : List Value} {k : Nat} {v : Value} (h : (hk_loc mx a)[k]? = some (some v)) : (hk_as a)[k]? = some (some v) := by
  unfold hk_loc at h
  by_cases hk : k < (hk_as a).length
  · rw [List.getElem?_append_left hk] at h
    exact h
  · rw [List.getElem?_append_right (by omega)] at h
    have := List.mem_of_getElem? h
    rw [List.mem_replicate] at this
    cases this.2
set_option maxRecDepth 100000 in
theorem hk_roomL2 (d : Nat) : 64 * d + 1064 ≤ 64 * (d + 1) + 1000 := by omega
set_option maxHeartbeats 2000000 in
theorem hk_call_snd (l : Launch) (TB : hk_T SH ch cls kd wl mt hn sc) (F : Nat) : ∀ (d y : Nat) (a : List Value) (h : hk_H) (r : Option Value) (h' : hk_H), hk_call SH pb big ch mt F d y a h = some (r, h') → hk_MetOK SH cls kd wl mt hn sc l d y a h r h' := by
  intro d
  induction d with
  | zero => intro y a h r h' hr; simp [hk_call] at hr
  | succ d ih =>
    intro y a h r h' hr
    have hge0 := hk_call_ge F (d + 1) y a h _ hr
    rw [hk_call] at hr
    split at hr
    · cases hr
    next q hmt =>
    split at hr
    rotate_left
    · cases hr
    next hcond =>
    rw [Bool.and_eq_true] at hcond
    have hle := Nat.le_of_ble_eq_true hcond.1
    have hal := Nat.eq_of_beq_eq_true hcond.2
    intro q' hq' hwf hva
    obtain rfl := Option.some.inj (hmt.symm.trans hq')
    refine ⟨hal, fun D cI cZ cR cJ ad sz => ?_⟩
    obtain ⟨m1, m2, m3, m4, m5, m6, m7, m8, m9, m10, m11, m12, m12b⟩ := TB.2.2.2.2.2.2.2.2.2 _ _ hmt
    refine Met.ofW (cc := q.2.1) (maxL := q.2.2.1) (ret := q.2.2.2.1) m1 rfl ?_
    intro p e s m args below meth c s₁ B hml hv
    obtain ⟨rfl, hsz, hP, hK, hD0, hAO⟩ := hv
    have hx := B.exec
    have hb := B.bytes
    have hr0 := B.returns
    have hts := atoms_spec (ws := hk_mw wl q) B.pre
    have hown : s.vm.findClass q.1.cls = some m.cls := findClass_of_methodNamed B.named
    have hlocks := B.notSynchronized
    have hnm : meth.name = q.1.name := (name_of_methodNamed B.named B.method).1
    subst hsz
    have hD := hD0.self (sz := s.heap.size)
    have hA : ∀ z : Nat, s.heap.size ≤ z → va_A (hk_ws SH cls kd cI cZ cR cJ ad h) s.heap.size z := fun z hz => Or.inr hz
    have hl := lv_entry (a.map (hk_tv ad)) (n := q.2.2.1) (by rw [hk_as_sl]; exact hle)
    rw [lg_entry_eq]
    generalize (lg_sl (a.map (hk_tv ad)) ++ List.replicate (q.2.2.1 - (lg_sl (a.map (hk_tv ad))).length) Slot.unset).toArray = ls at hl ⊢
    have FX : hk_Fx SH ch cls kd wl mt hn sc p l (headSpec (hk_mw wl q) (hk_rm SH cls (d + 1) h h')).room s m (a.map (hk_tv ad)).toArray meth c D cI cZ cR cJ (va_A (hk_ws SH cls kd cI cZ cR cJ ad h) s.heap.size) s.heap (ad sc) q.2.2.1 d q.1.cls q.2.1 none (hk_call SH pb big ch mt F d) (decide (q.1.name = "<init>")) :=
      ⟨TB, hx, hb, hml, hown, fun w hw => hts w (List.mem_cons_of_mem _ hw), hK, hA, fun hi => (by rw [hnm]; exact of_decide_eq_true hi), fun q0 h0 => (by cases h0), fun y a h r h' hr2 => ih y a h r h' hr2, fun y a h q2 hr2 => hk_call_ge F d y a h q2 hr2, Nat.le_refl (d + 1), hk_roomL2 d, hAO⟩
    have hS0 : va_S (va_A (hk_ws SH cls kd cI cZ cR cJ ad h) s.heap.size) s.heap s.heap [] := va_S.rf
    have hRR : hk_R SH cls kd sc D cI cZ cR cJ (va_A (hk_ws SH cls kd cI cZ cR cJ ad h) s.heap.size) s.heap (ad sc) ad h.2.2.2 q.2.2.1 h.2.2.2.length (hk_sl SH cls h.2.2.2) ad h s.heap [] ls (hk_loc q.2.2.1 a) [] := by
      refine ⟨hP, hD, hS0, hwf, hk_has_sub hl fun z hz => ?_, ?_, fun v hv => absurd hv List.not_mem_nil, fun v hv => ?_, ⟨rfl, fun z _ => rfl, fun z hz => hz⟩, Nat.le_refl _, Nat.le_refl _⟩
      · obtain ⟨v, h1, h2⟩ := hk_pl_mem.mp hz
        have := hk_as_args ad a 0 z.1 v (hk_loc_at h1)
        rw [Nat.zero_add, ← h2] at this
        exact this
      · unfold hk_loc
        rw [List.length_append, List.length_replicate]
        omega
      · obtain ⟨k, hk⟩ := List.getElem?_of_mem hv
        exact hva v (hk_as_mem a v (List.mem_of_getElem? (hk_loc_at hk)))
    have key := hk_run_snd (rk := hk_rk q.2.2.2.1) (n0 := h.2.2.2.length) (s0 := hk_sl SH cls h.2.2.2) (ad0 := ad) (al0 := h.2.2.2) (e := e) (below := below) (Q := MQ below (hk_Qc SH cls kd hn sc D cI cZ cR cJ ad s.heap.size h h' r) (a.map (hk_tv ad)).toArray s (h'.2.2.2.length - h.2.2.2.length) (hk_sl SH cls h'.2.2.2 - hk_sl SH cls h.2.2.2) (va_A (hk_ws SH cls kd cI cZ cR cJ ad h) s.heap.size)) FX m11 m12 (qf := (r, h')) ⟨Nat.le_refl _, Nat.le_refl _⟩ ?_ F q.2.2.2.2.2 [] 0 rfl ?_ (hk_loc q.2.2.1 a) [] h hr ad s.heap [] ls hRR
    · unfold hk_G at key
      exact W.cs (by omega) (by omega) key
    · intro pc L st h1 rr hqf hE ad1 H1 locs1 ls1 r1
      cases hqf
      obtain ⟨b1, b2, b3, b4, b5, b6, b7, b8, b9, b10, b11⟩ := r1
      unfold hk_G
      have hB : ∀ t : State, t.heap = H1 → s.WarmedH t.vm → hk_B SH cls kd hn D cI cZ cR cJ h' (va_A (hk_ws SH cls kd cI cZ cR cJ ad h) s.heap.size) ad1 t := fun t ht hW => ⟨by rw [ht]; exact b1, va_K.moved hW.alike hK, b2⟩
      rcases hE with ⟨x, rfl, rfl, hdg, hrk⟩ | ⟨x, rfl, rfl, hdg, hrk⟩ | ⟨rfl, rfl, hdg, hrk⟩
      · rcases hrk with hrk | ⟨hrk, hx01⟩
        · have hret : q.2.2.2.1 = some .int := by
            rcases m10 with h2 | h2 | h2 | h2 <;> rw [h2] at hrk <;> first | exact h2 | cases hrk
          exact W.iret hx hb (hr0.trans hret) (fun t ht hW => ⟨⟨x, ad1, rfl, ⟨rfl, b9.2.1, b4⟩, hB t ht hW⟩, b3.F ht⟩) b3.2.2 hdg hlocks
        · have hret : q.2.2.2.1 = some .boolean := by
            rcases m10 with h2 | h2 | h2 | h2 <;> rw [h2] at hrk <;> first | exact h2 | cases hrk
          exact W.zret hx hb (hr0.trans hret) (by rcases hx01 with rfl | rfl <;> rfl) (fun t ht hW => ⟨⟨x, ad1, rfl, ⟨rfl, b9.2.1, b4⟩, hB t ht hW⟩, b3.F ht⟩) b3.2.2 hdg hlocks
      · have hret : q.2.2.2.1 = some .long := by
          rcases m10 with h2 | h2 | h2 | h2 <;> rw [h2] at hrk <;> first | exact h2 | cases hrk
        exact W.lret hx hb (hr0.trans hret) (fun t ht hW => ⟨⟨x, ad1, rfl, ⟨rfl, b9.2.1, b4⟩, hB t ht hW⟩, b3.F ht⟩) b3.2.2 hdg hlocks
      · have hret : q.2.2.2.1 = none := by
          rcases m10 with h2 | h2 | h2 | h2 <;> rw [h2] at hrk <;> first | exact h2 | cases hrk
        exact W.vret hx hb (hr0.trans hret) (fun t ht hW => ⟨⟨ad1, rfl, ⟨b9.2.1, b4⟩, hB t ht hW⟩, b3.F ht⟩) b3.2.2 hdg hlocks
    · intro e1 r2 he
      exact hk_first m12b e1 r2 he
end HKJ6
