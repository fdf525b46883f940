/-! ===== what a method's table says of its code, and how an abstract heap lies in the machine's ===== -/
section HKC
variable (cls : List vw_C) (kd : Nat → Nat → Nat) (mt : Nat → Option hk_Q) (hn : String)
def hk_fok (own : String) (a b c d idx : Nat) (q : vw_C) : Bool := decide (c < q.2.2) && decide (hk_lk b = some (.fieldLink own idx q.1 (q.2.1 c).2.1 (q.2.1 c).2.2.1)) && decide ((q.2.1 c).1 = q.1) && decide (kd a c = d)
def hk_swT (pc : Nat) (lo : Int) : Nat → List (Int32 × Nat) → List Int → Bool
  | _, [], [] => true
  | k, q :: r, o :: os => decide (q.1.toInt = lo + k) && decide ((pc : Int) + o = (q.2 : Int)) && hk_swT pc lo (k + 1) r os
  | _, _, _ => false
def hk_swL (pc : Nat) : List (Int32 × Nat) → List (Int × Int) → Bool
  | [], [] => true
  | q :: r, o :: os => decide (q.1.toInt = o.1) && decide ((pc : Int) + o.2 = (q.2 : Int)) && hk_swL pc r os
  | _, _ => false
/-- a call's row: 0 not resolved, 1 Object's constructor, 2 arraycopy, else a method of the table and the way to it -/
def hk_cok (own : String) (a b c d idx : Nat) (way : Nat) : Bool := match a with
  | 0 => true
  | 1 => decide (way = 1) && decide (hk_lk b = some (.methodLink own idx Lib.objectInit))
  | 2 => decide (way = 2) && decide (hk_lk b = some (.methodLink own idx arraycopyName))
  | 3 => decide (way = 2) && decide (hk_lk b = some (.methodLink own idx Lib.Math.max.name))
  | 4 => decide (way = 2) && decide (hk_lk b = some (.methodLink own idx Lib.Math.min.name))
  | 5 => decide (way = 2) && decide (hk_lk b = some (.methodLink own idx Lib.MathLoose.max_long.x))
  | 6 => decide (way = 2) && decide (hk_lk b = some (.methodLink own idx Lib.MathLoose.min_long.x))
  | y + 7 => match mt y with
    | none => false
    | some q => decide (q.2.2.2.2.1.1 = c) && (match way with
      | 0 => decide (hk_lk b = some (.methodLink own idx q.1)) && decide (q.2.2.2.2.1.2.1 = 0) && (match d with
        | 0 => false
        | ci + 1 => match cls[ci]? with
          | none => false
          | some r => decide (r.1 = q.1.cls))
      | 1 => decide (hk_lk b = some (.methodLink own idx q.1)) && decide (q.2.2.2.2.1.2.1 = 1) && decide (1 ≤ c) && decide (d ≠ 0)
      | _ => decide (d = 0) && decide (q.2.2.2.2.1.2.1 = 2) && (decide (hk_lk b = some (.methodLink own idx q.1)) || (hk_nl[b]?).any (fun z => decide (z.1 = own) && decide (z.2.1 = idx) && decide (z.2.2.1 = q.1))))
def hk_iok (own : String) (ini : Bool) (rk mx pc : Nat) (ins : Instr) (len a b c d : Nat) (v : Int32) (w : Int64) (sw : List (Int32 × Nat)) : Bool := match ins with
  | .iconst n => decide (len = 1) && decide (Int32.ofInt n = v)
  | .bipush n => decide (len = 2) && decide ((Int8.ofInt n).toInt32 = v)
  | .sipush n => decide (len = 3) && decide ((Int16.ofInt n).toInt32 = v)
  | .ldc i => decide (len = 2) && (match a with
    | 0 => decide (hk_lk b = some (.constant own i v))
    | _ => true)
  | .ldc_w i => decide (len = 3) && decide (hk_lk b = some (.constant own i v))
  | .lconst n => decide (len = 1) && decide (Int64.ofNat (n : Nat) = w)
  | .ldc2_w i => decide (len = 3) && decide (hk_lk b = some (.constantLong own i w))
  | .iload_n k => decide (len = 1) && decide ((k : Nat) = a)
  | .aload_n k => decide (len = 1) && decide ((k : Nat) = a)
  | .lload_n k => decide (len = 1) && decide ((k : Nat) = a)
  | .iload i => decide (len = 2) && decide (i = a)
  | .aload i => decide (len = 2) && decide (i = a)
  | .lload i => decide (len = 2) && decide (i = a)
  | .istore_n k => decide (len = 1) && decide ((k : Nat) = a) && decide (a < mx)
  | .astore_n k => decide (len = 1) && decide ((k : Nat) = a) && decide (a < mx)
  | .lstore_n k => decide (len = 1) && decide ((k : Nat) = a) && decide (a + 1 < mx)
  | .istore i => decide (len = 2) && decide (i = a) && decide (a < mx)
  | .lstore i => decide (len = 2) && decide (i = a) && decide (a + 1 < mx)
  | .iinc i n => decide (len = 3) && decide (i = a) && decide (a < mx) && decide (Int32.ofInt n = v)
  | .goto o => decide (len = 3) && decide ((pc : Int) + o = (a : Int))
  | .if_icmp _ o => decide (len = 3) && decide ((pc : Int) + o = (a : Int))
  | .ifCond _ o => decide (len = 3) && decide ((pc : Int) + o = (a : Int))
  | .ifnonnull o => decide (len = 3) && decide ((pc : Int) + o = (a : Int))
  | .tableswitch df lo hi os => decide ((pc : Int) + df = (a : Int)) && decide (hi = lo + (os.size : Int) - 1) && hk_swT pc lo 0 sw os.toList
  | .lookupswitch df ps => decide ((pc : Int) + df = (a : Int)) && (ps.toList.zip (ps.toList.drop 1)).all (fun (a, next) => a.1 < next.1) && hk_swL pc sw ps.toList
  | .getfield i => decide (len = 3) && (match cls[a]? with
    | none => false
    | some q => hk_fok kd own a b c d i q)
  | .putfield i => decide (len = 3) && (match cls[a]? with
    | none => false
    | some q => hk_fok kd own a b c d i q && (!(q.2.1 c).2.2.2 || (ini && decide ((q.2.1 c).1 = own))))
  | .new i => (match cls[a]? with
    | none => true
    | some q => decide (len = 3) && decide (hk_lk b = some (.classLink own i q.1)) && decide (hk_lk c = some (.instantiable q.1 q.2.2)) && decide (hk_lk d = some (.initialized q.1)))
  | .newarray _ => decide (len = 2)
  | .anewarray i => decide (len = 3) && decide (hk_lk b = some (.classLink own i hn))
  | .invokevirtual i => hk_cok cls mt own a b c d i 0 && decide (len = 3)
  | .invokespecial i => hk_cok cls mt own a b c d i 1 && decide (len = 3)
  | .invokestatic i => hk_cok cls mt own a b c d i 2 && decide (len = 3)
  | .ireturn => decide (len = 1) && decide (rk = 1 ∨ (rk = 2 ∧ d = 1))
  | .lreturn => decide (len = 1) && decide (rk = 3)
  | .return_ => decide (len = 1) && decide (rk = 0)
  | _ => decide (len = 1)
end HKC
/-- what a launch says beside the words: the array of references, the links to a nest mate's own methods -/
def hk_Ex (hn : String) (U : State) : Prop := va_AO hn U ∧ ∀ q ∈ hk_nl, va_Nw (.methodLinkNest q.1 q.2.1 q.2.2.1 q.2.2.2) U
theorem hk_Ex.call {hn : String} {U : State} {g : JFrame} {mk : MethodId} {a : Array Value} (h : hk_Ex hn U) : hk_Ex hn (U.calling g mk a) := ⟨va_AO.moved (u := U) (U := U.calling g mk a) (Vm.Alike.refl U.vm) h.1, fun q hq => va_Nw.same rfl rfl (h.2 q hq)⟩
theorem hk_Ex.warm {hn : String} {s U : State} (hW : s.WarmedH U.vm) (h : hk_Ex hn s) : hk_Ex hn U := ⟨va_AO.moved hW.alike h.1, fun q hq => va_Nw.warmM hW (h.2 q hq)⟩
def hk_rk (t : Option FieldType) : Nat := match t with
  | none => 0
  | some .int => 1
  | some .boolean => 2
  | some .long => 3
  | _ => 4
def hk_seq : List hk_E → Bool
  | e :: f :: r => decide (f.1 = e.1 + e.2.2.1) && hk_seq (f :: r)
  | _ => true
theorem hk_seq_at : ∀ (cd pre : List hk_E) (e f : hk_E) (r : List hk_E), hk_seq cd = true → cd = pre ++ e :: f :: r → f.1 = e.1 + e.2.2.1
  | _, [], e, f, r, h, rfl => by
    simp only [List.nil_append, hk_seq, Bool.and_eq_true, decide_eq_true_eq] at h
    exact h.1
  | _, [x], e, f, r, h, rfl => by
    simp only [List.cons_append, List.nil_append, hk_seq, Bool.and_eq_true, decide_eq_true_eq] at h
    exact h.2.1
  | _, x :: y :: pre, e, f, r, h, rfl => by
    simp only [List.cons_append, hk_seq, Bool.and_eq_true] at h
    exact hk_seq_at _ (y :: pre) e f r h.2 rfl
theorem hk_sfx_in (t : Nat) : ∀ cd : List hk_E, ∃ pre, cd = pre ++ hk_sfx t cd
  | [] => ⟨[], rfl⟩
  | e :: r => by
    rw [hk_sfx]
    cases hb : Nat.beq e.1 t with
    | true => exact ⟨[], rfl⟩
    | false =>
      obtain ⟨pre, h⟩ := hk_sfx_in t r
      exact ⟨e :: pre, by simpa using h⟩
theorem hk_sfx_hd (t : Nat) : ∀ (cd : List hk_E) (e : hk_E) (r : List hk_E), hk_sfx t cd = e :: r → e.1 = t
  | [], _, _, h => by cases h
  | x :: y, e, r, h => by
    rw [hk_sfx] at h
    cases hb : Nat.beq x.1 t with
    | true => rw [hb] at h; cases h; exact Nat.eq_of_beq_eq_true hb
    | false => rw [hb] at h; exact hk_sfx_hd t y e r h
section HKW
variable (SH : Nat → hk_Sh) (cls : List vw_C) (kd : Nat → Nat → Nat) (sc : Nat) (cI cZ cR cJ : ClassId) (ad : Nat → Nat)
def hk_rf (r : Nat) : Option Nat := match r with
  | 0 => none
  | r + 1 => some (ad (r + 1))
def hk_tv (v : Value) : Value := match v with
  | .ref p => .ref (ad p)
  | v => v
def hk_fv (h : hk_H) (p ci k : Nat) : Value := match kd ci k with
  | 1 => va_rf (hk_rf ad (h.2.2.1 p k))
  | _ => .int (h.1 p k)
def hk_nf (ci : Nat) : Nat := match cls[ci]? with
  | none => 0
  | some q => q.2.2
def hk_ce (h : hk_H) (p : Nat) : va_E := match SH p with
  | (1, ci) => .inr (ci, (List.range (hk_nf cls ci)).map (hk_fv kd ad h p ci))
  | (2, n) => .inl (cI, n, .inl (h.1 p))
  | (3, n) => .inl (cZ, n, .inl (h.1 p))
  | (4, n) => .inl (cR, n, .inr (.inr (.inr (.inr (fun k => hk_rf ad (h.2.2.1 p k))))))
  | (5, n) => .inl (cJ, n, .inr (.inl (h.2.1 p)))
  | _ => .inl (cI, 0, .inl (fun _ => 0))
def hk_ws (h : hk_H) : va_W := h.2.2.2.map (fun p => (ad p, hk_ce SH cls kd cI cZ cR cJ ad h p))
def hk_wf (h : hk_H) : Prop := ∀ p ∈ h.2.2.2, ∀ k, h.2.2.1 p k = 0 ∨ h.2.2.1 p k ∈ h.2.2.2
def hk_vo (al : List Nat) (v : Value) : Prop := match v with
  | .ref p => p ∈ al ∨ p = sc
  | _ => True
def hk_pl (L : hk_L) : List (Nat × Value) := L.zipIdx.filterMap fun q => q.1.map fun v => (q.2, hk_tv ad v)
def hk_tys (hn : String) : List (ClassId × FieldType) := [(cI, .int), (cZ, .boolean), (cR, .object hn), (cJ, .long)]
def hk_sl (al : List Nat) : Nat := (al.map fun p => match SH p with
  | (1, ci) => hk_nf cls ci
  | (_, n) => n).sum
end HKW
theorem hk_tv_rv (ad : Nat → Nat) (r : Nat) : hk_tv ad (hk_rv r) = va_rf (hk_rf ad r) := by
  cases r <;> rfl
theorem hk_pl_mem {ad : Nat → Nat} {L : hk_L} {q : Nat × Value} : q ∈ hk_pl ad L ↔ ∃ v, L[q.1]? = some (some v) ∧ q.2 = hk_tv ad v := by
  unfold hk_pl
  rw [List.mem_filterMap]
  constructor
  · rintro ⟨⟨o, k⟩, h1, h2⟩
    rw [List.mem_zipIdx_iff_getElem?] at h1
    cases o with
    | none => cases h2
    | some v => cases h2; exact ⟨v, h1, rfl⟩
  · rintro ⟨v, h1, h2⟩
    refine ⟨(some v, q.1), ?_, ?_⟩
    · rw [List.mem_zipIdx_iff_getElem?]
      exact h1
    · show some (q.1, hk_tv ad v) = some q
      rw [← h2]
theorem hk_has_sub {ls : Array Slot} {n : Nat} {l l' : List (Nat × Value)} (h : lv_has ls n l) (hs : ∀ q ∈ l', q ∈ l) : lv_has ls n l' := ⟨h.1, h.2.1, fun q hq => h.2.2 q (hs q hq)⟩
theorem hk_has_at {ls : Array Slot} {n a : Nat} {ad : Nat → Nat} {L : hk_L} {v : Value} (h : lv_has ls n (hk_pl ad L)) (hL : L[a]? = some (some v)) : ls[a]? = some (.val (hk_tv ad v)) := h.2.2 (a, hk_tv ad v) (hk_pl_mem.mpr ⟨v, hL, rfl⟩)
theorem hk_tv_cat (ad : Nat → Nat) (v : Value) : (hk_tv ad v).category = v.category := by
  cases v <;> rfl
theorem hk_cat_map (ad : Nat → Nat) (st : List Value) : ((st.map (hk_tv ad)).map fun v => v.category).sum = hk_cat st := by
  induction st with
  | nil => rfl
  | cons v r ih =>
    cases v <;> simp [hk_cat, hk_tv, Value.category] at ih ⊢ <;> omega
theorem hk_s1_len : ∀ (i : Nat) (v : Value) (L : hk_L), (hk_s1 i v L).length = L.length
  | 0, v, [] => rfl
  | 1, v, [] => rfl
  | i + 2, v, [] => rfl
  | 0, v, a :: r => rfl
  | 1, v, a :: r => congrArg Nat.succ (hk_s1_len 0 v r)
  | i + 2, v, a :: r => congrArg Nat.succ (hk_s1_len (i + 1) v r)
theorem hk_cl1_at {a : Option Value} {w : Value} (h : hk_cl1 a = some w) : a = some w ∧ ¬ w.category = 2 := by
  unfold hk_cl1 at h
  split at h
  · cases h
  · cases h
  · next n1 n2 =>
    subst h
    refine ⟨rfl, fun q => ?_⟩
    cases w <;> first | exact n1 _ rfl | exact n2 _ rfl | exact absurd q (by simp [Value.category])
theorem hk_s1_at : ∀ {i k : Nat} {v w : Value} {L : hk_L}, (hk_s1 i v L)[k]? = some (some w) → (k = i ∧ w = v) ∨ (k ≠ i ∧ L[k]? = some (some w) ∧ ¬ (k + 1 = i ∧ w.category = 2))
  | 0, k, v, w, [], h => by simp [hk_s1] at h
  | 1, k, v, w, [], h => by simp [hk_s1] at h
  | i + 2, k, v, w, [], h => by simp [hk_s1] at h
  | 0, 0, v, w, a :: r, h => by
    simp [hk_s1] at h
    exact Or.inl ⟨rfl, h.symm⟩
  | 0, k + 1, v, w, a :: r, h => by
    simp [hk_s1] at h
    exact Or.inr ⟨by omega, by simpa using h, fun q => by omega⟩
  | 1, 0, v, w, a :: r, h => by
    have h1 : hk_cl1 a = some w := by simpa [hk_s1] using h
    obtain ⟨h2, h3⟩ := hk_cl1_at h1
    exact Or.inr ⟨by omega, by simp [h2], fun q => h3 q.2⟩
  | 1, k + 1, v, w, a :: r, h => by
    have h1 : (hk_s1 0 v r)[k]? = some (some w) := by simpa [hk_s1] using h
    rcases hk_s1_at h1 with ⟨e1, e2⟩ | ⟨e1, e2, e3⟩
    · exact Or.inl ⟨by omega, e2⟩
    · exact Or.inr ⟨by omega, by simpa using e2, fun q => by omega⟩
  | i + 2, 0, v, w, a :: r, h => by
    have h1 : a = some w := by simpa [hk_s1] using h
    exact Or.inr ⟨by omega, by simp [h1], fun q => by omega⟩
  | i + 2, k + 1, v, w, a :: r, h => by
    have h1 : (hk_s1 (i + 1) v r)[k]? = some (some w) := by simpa [hk_s1] using h
    rcases hk_s1_at h1 with ⟨e1, e2⟩ | ⟨e1, e2, e3⟩
    · exact Or.inl ⟨by omega, e2⟩
    · exact Or.inr ⟨by omega, by simpa using e2, fun q => e3 ⟨by omega, q.2⟩⟩
theorem hk_s1_has {ls' : Array Slot} {n i : Nat} {ad : Nat → Nat} {L : hk_L} {v : Value} (h : lv_has ls' n ((i, hk_tv ad v) :: (hk_pl ad L).filter (fun q => !(q.1 == i) && !(q.1 + 1 == i && q.2.category == 2)))) : lv_has ls' n (hk_pl ad (hk_s1 i v L)) := by
  refine hk_has_sub h fun q hq => ?_
  obtain ⟨w, h1, h2⟩ := hk_pl_mem.mp hq
  rcases hk_s1_at h1 with ⟨rfl, rfl⟩ | ⟨h3, h4, h5⟩
  · exact List.mem_cons.mpr (Or.inl (by rw [← h2]))
  · refine List.mem_cons.mpr (Or.inr (List.mem_filter.mpr ⟨hk_pl_mem.mpr ⟨w, h4, h2⟩, ?_⟩))
    rw [h2, hk_tv_cat]
    simp [h3]
    exact Classical.not_and_iff_not_or_not.mp h5
theorem hk_s2_has {ls' : Array Slot} {n i : Nat} {ad : Nat → Nat} {L : hk_L} {v : Value} (h : lv_has ls' n ((i, hk_tv ad v) :: (hk_pl ad L).filter (fun q => !(q.1 == i) && (!(q.1 == i + 1) && !(q.1 + 1 == i && q.2.category == 2))))) : lv_has ls' n (hk_pl ad (hk_s2 i v L)) := by
  refine hk_has_sub h fun q hq => ?_
  obtain ⟨w, h1, h2⟩ := hk_pl_mem.mp hq
  unfold hk_s2 at h1
  have hne : q.1 ≠ i + 1 := by
    intro e
    rw [e, List.getElem?_set] at h1
    split at h1
    · split at h1 <;> cases h1
    · exact absurd rfl ‹_›
  rw [List.getElem?_set_ne (fun q => hne q.symm)] at h1
  rcases hk_s1_at h1 with ⟨rfl, rfl⟩ | ⟨h3, h4, h5⟩
  · exact List.mem_cons.mpr (Or.inl (by rw [← h2]))
  · refine List.mem_cons.mpr (Or.inr (List.mem_filter.mpr ⟨hk_pl_mem.mpr ⟨w, h4, h2⟩, ?_⟩))
    rw [h2, hk_tv_cat]
    simp [h3, hne]
    exact Classical.not_and_iff_not_or_not.mp h5
theorem hk_s2_len (i : Nat) (v : Value) (L : hk_L) : (hk_s2 i v L).length = L.length := by
  unfold hk_s2
  rw [List.length_set, hk_s1_len]
theorem hk_s1_in {i : Nat} {v w : Value} {L : hk_L} (h : some w ∈ hk_s1 i v L) : w = v ∨ some w ∈ L := by
  obtain ⟨k, hk⟩ := List.getElem?_of_mem h
  rcases hk_s1_at hk with ⟨-, e⟩ | ⟨-, e, -⟩
  · exact Or.inl e
  · exact Or.inr (List.mem_of_getElem? e)
theorem hk_s2_in {i : Nat} {v w : Value} {L : hk_L} (h : some w ∈ hk_s2 i v L) : w = v ∨ some w ∈ L := by
  unfold hk_s2 at h
  obtain ⟨k, hk⟩ := List.getElem?_of_mem h
  rw [List.getElem?_set] at hk
  split at hk
  · split at hk <;> cases hk
  · exact hk_s1_in (List.mem_of_getElem? hk)

/-! cells of the abstract heap among the machine's -/
theorem hk_map_at {α : Type} {al : List Nat} {p : Nat} (f : Nat → α) (h : p ∈ al) : ∃ k : Nat, al[k]? = some p ∧ (al.map f)[k]? = some (f p) := by
  obtain ⟨k, hk⟩ := List.getElem?_of_mem h
  exact ⟨k, hk, by rw [List.getElem?_map, hk]; rfl⟩
theorem hk_map_set {α : Type} {al : List Nat} {p k : Nat} {f g : Nat → α} (h : al[k]? = some p) (hn : ∀ i : Nat, al[i]? = some p → i = k) (hg : ∀ q, q ≠ p → g q = f q) : (al.map f).set k (g p) = al.map g := by
  apply List.ext_getElem?
  intro i
  rw [List.getElem?_set, List.getElem?_map, List.getElem?_map]
  by_cases hi : k = i
  · subst hi
    rw [if_pos rfl, h]
    have hlt : k < (al.map f).length := by rw [List.length_map]; exact (List.getElem?_eq_some_iff.mp h).1
    rw [if_pos hlt]
    rfl
  · rw [if_neg hi]
    cases ha : al[i]? with
    | none => rfl
    | some q =>
      have hq : q ≠ p := fun e => hi (hn i (by rw [ha, e])).symm
      show some (f q) = some (g q)
      rw [hg q hq]
section HKV
variable {SH : Nat → hk_Sh} {cls : List vw_C} {kd : Nat → Nat → Nat} {cI cZ cR cJ : ClassId} {ad : Nat → Nat}
theorem hk_ws_at {h : hk_H} {p : Nat} (hp : p ∈ h.2.2.2) : ∃ k : Nat, h.2.2.2[k]? = some p ∧ (hk_ws SH cls kd cI cZ cR cJ ad h)[k]? = some (ad p, hk_ce SH cls kd cI cZ cR cJ ad h p) := hk_map_at _ hp
theorem hk_ws_one {A : Nat → Prop} {h : hk_H} {p k : Nat} (hD : va_D A (hk_ws SH cls kd cI cZ cR cJ ad h)) (hk : h.2.2.2[k]? = some p) : ∀ i : Nat, h.2.2.2[i]? = some p → i = k := by
  intro i hi
  refine hD.1 i k (ad p, hk_ce SH cls kd cI cZ cR cJ ad h p) (ad p, hk_ce SH cls kd cI cZ cR cJ ad h p) ?_ ?_ rfl
  · unfold hk_ws; rw [List.getElem?_map, hi]; rfl
  · unfold hk_ws; rw [List.getElem?_map, hk]; rfl
theorem hk_ws_set {A : Nat → Prop} {h h' : hk_H} {p k : Nat} (hD : va_D A (hk_ws SH cls kd cI cZ cR cJ ad h)) (hk : h.2.2.2[k]? = some p) (ha : h'.2.2.2 = h.2.2.2) (hg : ∀ q, q ≠ p → hk_ce SH cls kd cI cZ cR cJ ad h' q = hk_ce SH cls kd cI cZ cR cJ ad h q) : (hk_ws SH cls kd cI cZ cR cJ ad h).set k (ad p, hk_ce SH cls kd cI cZ cR cJ ad h' p) = hk_ws SH cls kd cI cZ cR cJ ad h' := by
  unfold hk_ws
  rw [ha]
  exact hk_map_set (f := fun p => (ad p, hk_ce SH cls kd cI cZ cR cJ ad h p)) (g := fun p => (ad p, hk_ce SH cls kd cI cZ cR cJ ad h' p)) hk (hk_ws_one hD hk) (fun q hq => by rw [hg q hq])
/-- a cell is what its place's numbers and references are -/
theorem hk_ce_eq {h h' : hk_H} {ad' : Nat → Nat} {q : Nat} (h1 : h'.1 q = h.1 q) (h2 : h'.2.1 q = h.2.1 q) (h3 : ∀ k, hk_rf ad' (h'.2.2.1 q k) = hk_rf ad (h.2.2.1 q k)) : hk_ce SH cls kd cI cZ cR cJ ad' h' q = hk_ce SH cls kd cI cZ cR cJ ad h q := by
  unfold hk_ce
  split
  · congr 2
    apply List.map_congr_left
    intro k _
    unfold hk_fv
    split
    · rw [h3]
    · rw [h1]
  · rw [h1]
  · rw [h1]
  · simp only [h3]
  · rw [h2]
  · rfl
theorem hk_ws_push {h : hk_H} {p a : Nat} (hp : p ∉ h.2.2.2) (hw : hk_wf h) : hk_ws SH cls kd cI cZ cR cJ (fun q => if q = p then a else ad q) (hk_nw h p) = hk_ws SH cls kd cI cZ cR cJ ad h ++ [(a, hk_ce SH cls kd cI cZ cR cJ (fun q => if q = p then a else ad q) (hk_nw h p) p)] := by
  unfold hk_ws
  show List.map _ (h.2.2.2 ++ [p]) = _
  rw [List.map_append]
  congr 1
  · apply List.map_congr_left
    intro q hq
    have hqp : q ≠ p := fun e => hp (e ▸ hq)
    show ((if q = p then a else ad q), _) = _
    rw [if_neg hqp]
    congr 1
    refine hk_ce_eq ?_ ?_ ?_
    · simp [hk_nw, hk_z, hqp]
    · simp [hk_nw, hk_z, hqp]
    · intro k
      simp only [hk_nw, hk_z, if_neg hqp]
      rcases hw q hq k with e | e
      · rw [e]; rfl
      · have hr : h.2.2.1 q k ≠ p := fun e2 => hp (e2 ▸ e)
        cases hz : h.2.2.1 q k with
        | zero => rfl
        | succ z =>
          rw [hz] at hr
          simp only [hk_rf]
          rw [if_neg hr]
  · simp
end HKV
