/-! ===== the instructions' bytes, read in one go ===== -/
def hk_a1 (f : Nat → Instr × Nat) (r : List UInt8) : Option (Instr × Nat) := match r with
  | a :: _ => some (f a.toNat)
  | _ => none
def hk_a2 (f : Nat → Instr × Nat) (r : List UInt8) : Option (Instr × Nat) := match r with
  | a :: b :: _ => some (f (a.toNat * 256 + b.toNat))
  | _ => none
def hk_a11 (f : Nat → Nat → Instr × Nat) (r : List UInt8) : Option (Instr × Nat) := match r with
  | a :: b :: _ => some (f a.toNat b.toNat)
  | _ => none
def hk_dc (bs : List UInt8) : Option (Instr × Nat) := match bs with
  | [] => none
  | o :: r => match o.toNat with
    | 2 => some (.iconst (-1), 1)
    | 3 => some (.iconst 0, 1)
    | 4 => some (.iconst 1, 1)
    | 5 => some (.iconst 2, 1)
    | 6 => some (.iconst 3, 1)
    | 7 => some (.iconst 4, 1)
    | 8 => some (.iconst 5, 1)
    | 9 => some (.lconst 0, 1)
    | 10 => some (.lconst 1, 1)
    | 16 => hk_a1 (fun x => (.bipush (Reader.signed 8 x), 2)) r
    | 17 => hk_a2 (fun x => (.sipush (Reader.signed 16 x), 3)) r
    | 18 => hk_a1 (fun x => (.ldc x, 2)) r
    | 19 => hk_a2 (fun x => (.ldc_w x, 3)) r
    | 20 => hk_a2 (fun x => (.ldc2_w x, 3)) r
    | 21 => hk_a1 (fun x => (.iload x, 2)) r
    | 22 => hk_a1 (fun x => (.lload x, 2)) r
    | 25 => hk_a1 (fun x => (.aload x, 2)) r
    | 26 => some (.iload_n 0, 1)
    | 27 => some (.iload_n 1, 1)
    | 28 => some (.iload_n 2, 1)
    | 29 => some (.iload_n 3, 1)
    | 30 => some (.lload_n 0, 1)
    | 31 => some (.lload_n 1, 1)
    | 32 => some (.lload_n 2, 1)
    | 33 => some (.lload_n 3, 1)
    | 42 => some (.aload_n 0, 1)
    | 43 => some (.aload_n 1, 1)
    | 44 => some (.aload_n 2, 1)
    | 45 => some (.aload_n 3, 1)
    | 46 => some (.iaload, 1)
    | 47 => some (.laload, 1)
    | 50 => some (.aaload, 1)
    | 51 => some (.baload, 1)
    | 54 => hk_a1 (fun x => (.istore x, 2)) r
    | 55 => hk_a1 (fun x => (.lstore x, 2)) r
    | 59 => some (.istore_n 0, 1)
    | 60 => some (.istore_n 1, 1)
    | 61 => some (.istore_n 2, 1)
    | 62 => some (.istore_n 3, 1)
    | 63 => some (.lstore_n 0, 1)
    | 64 => some (.lstore_n 1, 1)
    | 65 => some (.lstore_n 2, 1)
    | 66 => some (.lstore_n 3, 1)
    | 75 => some (.astore_n 0, 1)
    | 76 => some (.astore_n 1, 1)
    | 77 => some (.astore_n 2, 1)
    | 78 => some (.astore_n 3, 1)
    | 79 => some (.iastore, 1)
    | 80 => some (.lastore, 1)
    | 83 => some (.aastore, 1)
    | 84 => some (.bastore, 1)
    | 87 => some (.pop, 1)
    | 88 => some (.pop2, 1)
    | 89 => some (.dup, 1)
    | 92 => some (.dup2, 1)
    | 96 => some (.iadd, 1)
    | 97 => some (.ladd, 1)
    | 100 => some (.isub, 1)
    | 101 => some (.lsub, 1)
    | 104 => some (.imul, 1)
    | 105 => some (.lmul, 1)
    | 108 => some (.idiv, 1)
    | 109 => some (.ldiv, 1)
    | 112 => some (.irem, 1)
    | 117 => some (.lneg, 1)
    | 120 => some (.ishl, 1)
    | 122 => some (.ishr, 1)
    | 124 => some (.iushr, 1)
    | 126 => some (.iand, 1)
    | 128 => some (.ior, 1)
    | 130 => some (.ixor, 1)
    | 132 => hk_a11 (fun x y => (.iinc x (Reader.signed 8 y), 3)) r
    | 133 => some (.i2l, 1)
    | 136 => some (.l2i, 1)
    | 148 => some (.lcmp, 1)
    | 153 => hk_a2 (fun x => (.ifCond .eq (Reader.signed 16 x), 3)) r
    | 154 => hk_a2 (fun x => (.ifCond .ne (Reader.signed 16 x), 3)) r
    | 155 => hk_a2 (fun x => (.ifCond .lt (Reader.signed 16 x), 3)) r
    | 156 => hk_a2 (fun x => (.ifCond .ge (Reader.signed 16 x), 3)) r
    | 157 => hk_a2 (fun x => (.ifCond .gt (Reader.signed 16 x), 3)) r
    | 158 => hk_a2 (fun x => (.ifCond .le (Reader.signed 16 x), 3)) r
    | 159 => hk_a2 (fun x => (.if_icmp .eq (Reader.signed 16 x), 3)) r
    | 160 => hk_a2 (fun x => (.if_icmp .ne (Reader.signed 16 x), 3)) r
    | 161 => hk_a2 (fun x => (.if_icmp .lt (Reader.signed 16 x), 3)) r
    | 162 => hk_a2 (fun x => (.if_icmp .ge (Reader.signed 16 x), 3)) r
    | 163 => hk_a2 (fun x => (.if_icmp .gt (Reader.signed 16 x), 3)) r
    | 164 => hk_a2 (fun x => (.if_icmp .le (Reader.signed 16 x), 3)) r
    | 167 => hk_a2 (fun x => (.goto (Reader.signed 16 x), 3)) r
    | 172 => some (.ireturn, 1)
    | 173 => some (.lreturn, 1)
    | 177 => some (.return_, 1)
    | 180 => hk_a2 (fun x => (.getfield x, 3)) r
    | 181 => hk_a2 (fun x => (.putfield x, 3)) r
    | 182 => hk_a2 (fun x => (.invokevirtual x, 3)) r
    | 183 => hk_a2 (fun x => (.invokespecial x, 3)) r
    | 184 => hk_a2 (fun x => (.invokestatic x, 3)) r
    | 187 => hk_a2 (fun x => (.new x, 3)) r
    | 189 => hk_a2 (fun x => (.anewarray x, 3)) r
    | 190 => some (.arraylength, 1)
    | 191 => some (.athrow, 1)
    | 199 => hk_a2 (fun x => (.ifnonnull (Reader.signed 16 x), 3)) r
    | _ => none
theorem hk_rd1 {code : ByteArray} {p : Nat} {b : UInt8} {r : List UInt8} (h : code.data.toList.drop p = b :: r) : (Reader.u1 : Decoder Nat) code p = .ok (b.toNat, p + 1) ∧ code.data.toList.drop (p + 1) = r := by
  have h1 : code.data.toList[p]? = some b := by
    have h2 : (code.data.toList.drop p)[0]? = some b := by rw [h]; rfl
    rw [List.getElem?_drop] at h2
    exact h2
  have hlt : p < code.size := by
    have h3 := (List.getElem?_eq_some_iff.mp h1).1
    rw [Array.length_toList] at h3
    exact h3
  have hb : code[p] = b := by
    have h3 := (List.getElem?_eq_some_iff.mp h1).2
    rw [Array.getElem_toList] at h3
    exact h3
  constructor
  · unfold Reader.u1
    change (dite (p < code.size) _ _ : Decoder Nat) code p = _
    rw [dif_pos hlt, ← hb]
    rfl
  · have h4 := List.drop_drop (i := 1) (j := p) (l := code.data.toList)
    rw [h] at h4
    exact h4.symm
theorem hk_bd {α β : Type} {m : Decoder α} {f : α → Decoder β} {code : ByteArray} {p p2 : Nat} {a : α} (h : m code p = .ok (a, p2)) : (m >>= f) code p = f a code p2 := by
  show Except.bind (m code p) (fun q => f q.1 code q.2) = _
  rw [h]
  rfl
theorem hk_mp {α β : Type} {m : Decoder α} {f : α → β} {code : ByteArray} {p p2 : Nat} {a : α} (h : m code p = .ok (a, p2)) : (f <$> m : Decoder β) code p = .ok (f a, p2) := by
  show Except.bind (m code p) (fun q => Except.ok (f q.1, q.2)) = _
  rw [h]
  rfl
theorem hk_rd2 {code : ByteArray} {p : Nat} {a b : UInt8} {r : List UInt8} (h : code.data.toList.drop p = a :: b :: r) : (Reader.u2 : Decoder Nat) code p = .ok (a.toNat * 256 + b.toNat, p + 2) := by
  obtain ⟨h1, h2⟩ := hk_rd1 h
  obtain ⟨h3, -⟩ := hk_rd1 h2
  unfold Reader.u2
  rw [hk_bd h1, hk_bd h3]
  rfl
theorem hk_dec1 {code : ByteArray} {pc k : Nat} {x : Instr} (h : Decoder.instr pc code pc = .ok (x, pc + k)) : decode code pc = .ok (x, k) := by
  unfold decode
  show Except.bind (Decoder.instr pc code pc) (fun q => Except.ok (q.1, q.2 - pc)) = _
  rw [h]
  show Except.ok (x, pc + k - pc) = _
  rw [Nat.add_sub_cancel_left]
set_option maxRecDepth 100000 in
set_option maxHeartbeats 8000000 in
theorem hk_dc_ok {code : ByteArray} {pc : Nat} {x : Instr × Nat} (h : hk_dc (code.data.toList.drop pc) = some x) : decode code pc = .ok x := by
  unfold hk_dc at h
  split at h
  · cases h
  next o r hbs =>
  obtain ⟨h1, h2⟩ := hk_rd1 hbs
  split at h
  · next ho =>
    cases h
    refine hk_dec1 ?_
    unfold Decoder.instr
    rw [hk_bd h1]
    rw [ho]
    rfl
  · next ho =>
    cases h
    refine hk_dec1 ?_
    unfold Decoder.instr
    rw [hk_bd h1]
    rw [ho]
    rfl
  · next ho =>
    cases h
    refine hk_dec1 ?_
    unfold Decoder.instr
    rw [hk_bd h1]
    rw [ho]
    rfl
  · next ho =>
    cases h
    refine hk_dec1 ?_
    unfold Decoder.instr
    rw [hk_bd h1]
    rw [ho]
    rfl
  · next ho =>
    cases h
    refine hk_dec1 ?_
    unfold Decoder.instr
    rw [hk_bd h1]
    rw [ho]
    rfl
  · next ho =>
    cases h
    refine hk_dec1 ?_
    unfold Decoder.instr
    rw [hk_bd h1]
    rw [ho]
    rfl
  · next ho =>
    cases h
    refine hk_dec1 ?_
    unfold Decoder.instr
    rw [hk_bd h1]
    rw [ho]
    rfl
  · next ho =>
    cases h
    refine hk_dec1 ?_
    unfold Decoder.instr
    rw [hk_bd h1]
    rw [ho]
    rfl
  · next ho =>
    cases h
    refine hk_dec1 ?_
    unfold Decoder.instr
    rw [hk_bd h1]
    rw [ho]
    rfl
  · next ho =>
    unfold hk_a1 at h
    split at h
    · cases h
      obtain ⟨h3, -⟩ := hk_rd1 h2
      refine hk_dec1 ?_
      unfold Decoder.instr
      rw [hk_bd h1]
      rw [ho]
      exact hk_bd (hk_mp h3)
    · cases h
  · next ho =>
    unfold hk_a2 at h
    split at h
    · cases h
      have h3 := hk_rd2 h2
      refine hk_dec1 ?_
      unfold Decoder.instr
      rw [hk_bd h1]
      rw [ho]
      exact hk_bd (hk_mp h3)
    · cases h
  · next ho =>
    unfold hk_a1 at h
    split at h
    · cases h
      obtain ⟨h3, -⟩ := hk_rd1 h2
      refine hk_dec1 ?_
      unfold Decoder.instr
      rw [hk_bd h1]
      rw [ho]
      exact hk_bd h3
    · cases h
  · next ho =>
    unfold hk_a2 at h
    split at h
    · cases h
      have h3 := hk_rd2 h2
      refine hk_dec1 ?_
      unfold Decoder.instr
      rw [hk_bd h1]
      rw [ho]
      exact hk_bd h3
    · cases h
  · next ho =>
    unfold hk_a2 at h
    split at h
    · cases h
      have h3 := hk_rd2 h2
      refine hk_dec1 ?_
      unfold Decoder.instr
      rw [hk_bd h1]
      rw [ho]
      exact hk_bd h3
    · cases h
  · next ho =>
    unfold hk_a1 at h
    split at h
    · cases h
      obtain ⟨h3, -⟩ := hk_rd1 h2
      refine hk_dec1 ?_
      unfold Decoder.instr
      rw [hk_bd h1]
      rw [ho]
      exact hk_bd h3
    · cases h
  · next ho =>
    unfold hk_a1 at h
    split at h
    · cases h
      obtain ⟨h3, -⟩ := hk_rd1 h2
      refine hk_dec1 ?_
      unfold Decoder.instr
      rw [hk_bd h1]
      rw [ho]
      exact hk_bd h3
    · cases h
  · next ho =>
    unfold hk_a1 at h
    split at h
    · cases h
      obtain ⟨h3, -⟩ := hk_rd1 h2
      refine hk_dec1 ?_
      unfold Decoder.instr
      rw [hk_bd h1]
      rw [ho]
      exact hk_bd h3
    · cases h
  · next ho =>
    cases h
    refine hk_dec1 ?_
    unfold Decoder.instr
    rw [hk_bd h1]
    rw [ho]
    rfl
  · next ho =>
    cases h
    refine hk_dec1 ?_
    unfold Decoder.instr
    rw [hk_bd h1]
    rw [ho]
    rfl
  · next ho =>
    cases h
    refine hk_dec1 ?_
    unfold Decoder.instr
    rw [hk_bd h1]
    rw [ho]
    rfl
  · next ho =>
    cases h
    refine hk_dec1 ?_
    unfold Decoder.instr
    rw [hk_bd h1]
    rw [ho]
    rfl
  · next ho =>
    cases h
    refine hk_dec1 ?_
    unfold Decoder.instr
    rw [hk_bd h1]
    rw [ho]
    rfl
  · next ho =>
    cases h
    refine hk_dec1 ?_
    unfold Decoder.instr
    rw [hk_bd h1]
    rw [ho]
    rfl
  · next ho =>
    cases h
    refine hk_dec1 ?_
    unfold Decoder.instr
    rw [hk_bd h1]
    rw [ho]
    rfl
  · next ho =>
    cases h
    refine hk_dec1 ?_
    unfold Decoder.instr
    rw [hk_bd h1]
    rw [ho]
    rfl
  · next ho =>
    cases h
    refine hk_dec1 ?_
    unfold Decoder.instr
    rw [hk_bd h1]
    rw [ho]
    rfl
  · next ho =>
    cases h
    refine hk_dec1 ?_
    unfold Decoder.instr
    rw [hk_bd h1]
    rw [ho]
    rfl
  · next ho =>
    cases h
    refine hk_dec1 ?_
    unfold Decoder.instr
    rw [hk_bd h1]
    rw [ho]
    rfl
  · next ho =>
    cases h
    refine hk_dec1 ?_
    unfold Decoder.instr
    rw [hk_bd h1]
    rw [ho]
    rfl
  · next ho =>
    cases h
    refine hk_dec1 ?_
    unfold Decoder.instr
    rw [hk_bd h1]
    rw [ho]
    rfl
  · next ho =>
    cases h
    refine hk_dec1 ?_
    unfold Decoder.instr
    rw [hk_bd h1]
    rw [ho]
    rfl
  · next ho =>
    cases h
    refine hk_dec1 ?_
    unfold Decoder.instr
    rw [hk_bd h1]
    rw [ho]
    rfl
  · next ho =>
    cases h
    refine hk_dec1 ?_
    unfold Decoder.instr
    rw [hk_bd h1]
    rw [ho]
    rfl
  · next ho =>
    unfold hk_a1 at h
    split at h
    · cases h
      obtain ⟨h3, -⟩ := hk_rd1 h2
      refine hk_dec1 ?_
      unfold Decoder.instr
      rw [hk_bd h1]
      rw [ho]
      exact hk_bd h3
    · cases h
  · next ho =>
    unfold hk_a1 at h
    split at h
    · cases h
      obtain ⟨h3, -⟩ := hk_rd1 h2
      refine hk_dec1 ?_
      unfold Decoder.instr
      rw [hk_bd h1]
      rw [ho]
      exact hk_bd h3
    · cases h
  · next ho =>
    cases h
    refine hk_dec1 ?_
    unfold Decoder.instr
    rw [hk_bd h1]
    rw [ho]
    rfl
  · next ho =>
    cases h
    refine hk_dec1 ?_
    unfold Decoder.instr
    rw [hk_bd h1]
    rw [ho]
    rfl
  · next ho =>
    cases h
    refine hk_dec1 ?_
    unfold Decoder.instr
    rw [hk_bd h1]
    rw [ho]
    rfl
  · next ho =>
    cases h
    refine hk_dec1 ?_
    unfold Decoder.instr
    rw [hk_bd h1]
    rw [ho]
    rfl
  · next ho =>
    cases h
    refine hk_dec1 ?_
    unfold Decoder.instr
    rw [hk_bd h1]
    rw [ho]
    rfl
  · next ho =>
    cases h
    refine hk_dec1 ?_
    unfold Decoder.instr
    rw [hk_bd h1]
    rw [ho]
    rfl
  · next ho =>
    cases h
    refine hk_dec1 ?_
    unfold Decoder.instr
    rw [hk_bd h1]
    rw [ho]
    rfl
  · next ho =>
    cases h
    refine hk_dec1 ?_
    unfold Decoder.instr
    rw [hk_bd h1]
    rw [ho]
    rfl
  · next ho =>
    cases h
    refine hk_dec1 ?_
    unfold Decoder.instr
    rw [hk_bd h1]
    rw [ho]
    rfl
  · next ho =>
    cases h
    refine hk_dec1 ?_
    unfold Decoder.instr
    rw [hk_bd h1]
    rw [ho]
    rfl
  · next ho =>
    cases h
    refine hk_dec1 ?_
    unfold Decoder.instr
    rw [hk_bd h1]
    rw [ho]
    rfl
  · next ho =>
    cases h
    refine hk_dec1 ?_
    unfold Decoder.instr
    rw [hk_bd h1]
    rw [ho]
    rfl
  · next ho =>
    cases h
    refine hk_dec1 ?_
    unfold Decoder.instr
    rw [hk_bd h1]
    rw [ho]
    rfl
  · next ho =>
    cases h
    refine hk_dec1 ?_
    unfold Decoder.instr
    rw [hk_bd h1]
    rw [ho]
    rfl
  · next ho =>
    cases h
    refine hk_dec1 ?_
    unfold Decoder.instr
    rw [hk_bd h1]
    rw [ho]
    rfl
  · next ho =>
    cases h
    refine hk_dec1 ?_
    unfold Decoder.instr
    rw [hk_bd h1]
    rw [ho]
    rfl
  · next ho =>
    cases h
    refine hk_dec1 ?_
    unfold Decoder.instr
    rw [hk_bd h1]
    rw [ho]
    rfl
  · next ho =>
    cases h
    refine hk_dec1 ?_
    unfold Decoder.instr
    rw [hk_bd h1]
    rw [ho]
    rfl
  · next ho =>
    cases h
    refine hk_dec1 ?_
    unfold Decoder.instr
    rw [hk_bd h1]
    rw [ho]
    rfl
  · next ho =>
    cases h
    refine hk_dec1 ?_
    unfold Decoder.instr
    rw [hk_bd h1]
    rw [ho]
    rfl
  · next ho =>
    cases h
    refine hk_dec1 ?_
    unfold Decoder.instr
    rw [hk_bd h1]
    rw [ho]
    rfl
  · next ho =>
    cases h
    refine hk_dec1 ?_
    unfold Decoder.instr
    rw [hk_bd h1]
    rw [ho]
    rfl
  · next ho =>
    cases h
    refine hk_dec1 ?_
    unfold Decoder.instr
    rw [hk_bd h1]
    rw [ho]
    rfl
  · next ho =>
    cases h
    refine hk_dec1 ?_
    unfold Decoder.instr
    rw [hk_bd h1]
    rw [ho]
    rfl
  · next ho =>
    cases h
    refine hk_dec1 ?_
    unfold Decoder.instr
    rw [hk_bd h1]
    rw [ho]
    rfl
  · next ho =>
    cases h
    refine hk_dec1 ?_
    unfold Decoder.instr
    rw [hk_bd h1]
    rw [ho]
    rfl
  · next ho =>
    cases h
    refine hk_dec1 ?_
    unfold Decoder.instr
    rw [hk_bd h1]
    rw [ho]
    rfl
  · next ho =>
    cases h
    refine hk_dec1 ?_
    unfold Decoder.instr
    rw [hk_bd h1]
    rw [ho]
    rfl
  · next ho =>
    cases h
    refine hk_dec1 ?_
    unfold Decoder.instr
    rw [hk_bd h1]
    rw [ho]
    rfl
  · next ho =>
    cases h
    refine hk_dec1 ?_
    unfold Decoder.instr
    rw [hk_bd h1]
    rw [ho]
    rfl
  · next ho =>
    cases h
    refine hk_dec1 ?_
    unfold Decoder.instr
    rw [hk_bd h1]
    rw [ho]
    rfl
  · next ho =>
    cases h
    refine hk_dec1 ?_
    unfold Decoder.instr
    rw [hk_bd h1]
    rw [ho]
    rfl
  · next ho =>
    cases h
    refine hk_dec1 ?_
    unfold Decoder.instr
    rw [hk_bd h1]
    rw [ho]
    rfl
  · next ho =>
    cases h
    refine hk_dec1 ?_
    unfold Decoder.instr
    rw [hk_bd h1]
    rw [ho]
    rfl
  · next ho =>
    cases h
    refine hk_dec1 ?_
    unfold Decoder.instr
    rw [hk_bd h1]
    rw [ho]
    rfl
  · next ho =>
    cases h
    refine hk_dec1 ?_
    unfold Decoder.instr
    rw [hk_bd h1]
    rw [ho]
    rfl
  · next ho =>
    unfold hk_a11 at h
    split at h
    · cases h
      obtain ⟨h3, h4⟩ := hk_rd1 h2
      obtain ⟨h5, -⟩ := hk_rd1 h4
      refine hk_dec1 ?_
      unfold Decoder.instr
      rw [hk_bd h1]
      rw [ho]
      exact (hk_bd h3).trans (hk_bd (hk_mp h5))
    · cases h
  · next ho =>
    cases h
    refine hk_dec1 ?_
    unfold Decoder.instr
    rw [hk_bd h1]
    rw [ho]
    rfl
  · next ho =>
    cases h
    refine hk_dec1 ?_
    unfold Decoder.instr
    rw [hk_bd h1]
    rw [ho]
    rfl
  · next ho =>
    cases h
    refine hk_dec1 ?_
    unfold Decoder.instr
    rw [hk_bd h1]
    rw [ho]
    rfl
  · next ho =>
    unfold hk_a2 at h
    split at h
    · cases h
      have h3 := hk_rd2 h2
      refine hk_dec1 ?_
      unfold Decoder.instr
      rw [hk_bd h1]
      rw [ho]
      exact hk_bd (hk_mp h3)
    · cases h
  · next ho =>
    unfold hk_a2 at h
    split at h
    · cases h
      have h3 := hk_rd2 h2
      refine hk_dec1 ?_
      unfold Decoder.instr
      rw [hk_bd h1]
      rw [ho]
      exact hk_bd (hk_mp h3)
    · cases h
  · next ho =>
    unfold hk_a2 at h
    split at h
    · cases h
      have h3 := hk_rd2 h2
      refine hk_dec1 ?_
      unfold Decoder.instr
      rw [hk_bd h1]
      rw [ho]
      exact hk_bd (hk_mp h3)
    · cases h
  · next ho =>
    unfold hk_a2 at h
    split at h
    · cases h
      have h3 := hk_rd2 h2
      refine hk_dec1 ?_
      unfold Decoder.instr
      rw [hk_bd h1]
      rw [ho]
      exact hk_bd (hk_mp h3)
    · cases h
  · next ho =>
    unfold hk_a2 at h
    split at h
    · cases h
      have h3 := hk_rd2 h2
      refine hk_dec1 ?_
      unfold Decoder.instr
      rw [hk_bd h1]
      rw [ho]
      exact hk_bd (hk_mp h3)
    · cases h
  · next ho =>
    unfold hk_a2 at h
    split at h
    · cases h
      have h3 := hk_rd2 h2
      refine hk_dec1 ?_
      unfold Decoder.instr
      rw [hk_bd h1]
      rw [ho]
      exact hk_bd (hk_mp h3)
    · cases h
  · next ho =>
    unfold hk_a2 at h
    split at h
    · cases h
      have h3 := hk_rd2 h2
      refine hk_dec1 ?_
      unfold Decoder.instr
      rw [hk_bd h1]
      rw [ho]
      exact hk_bd (hk_mp h3)
    · cases h
  · next ho =>
    unfold hk_a2 at h
    split at h
    · cases h
      have h3 := hk_rd2 h2
      refine hk_dec1 ?_
      unfold Decoder.instr
      rw [hk_bd h1]
      rw [ho]
      exact hk_bd (hk_mp h3)
    · cases h
  · next ho =>
    unfold hk_a2 at h
    split at h
    · cases h
      have h3 := hk_rd2 h2
      refine hk_dec1 ?_
      unfold Decoder.instr
      rw [hk_bd h1]
      rw [ho]
      exact hk_bd (hk_mp h3)
    · cases h
  · next ho =>
    unfold hk_a2 at h
    split at h
    · cases h
      have h3 := hk_rd2 h2
      refine hk_dec1 ?_
      unfold Decoder.instr
      rw [hk_bd h1]
      rw [ho]
      exact hk_bd (hk_mp h3)
    · cases h
  · next ho =>
    unfold hk_a2 at h
    split at h
    · cases h
      have h3 := hk_rd2 h2
      refine hk_dec1 ?_
      unfold Decoder.instr
      rw [hk_bd h1]
      rw [ho]
      exact hk_bd (hk_mp h3)
    · cases h
  · next ho =>
    unfold hk_a2 at h
    split at h
    · cases h
      have h3 := hk_rd2 h2
      refine hk_dec1 ?_
      unfold Decoder.instr
      rw [hk_bd h1]
      rw [ho]
      exact hk_bd (hk_mp h3)
    · cases h
  · next ho =>
    unfold hk_a2 at h
    split at h
    · cases h
      have h3 := hk_rd2 h2
      refine hk_dec1 ?_
      unfold Decoder.instr
      rw [hk_bd h1]
      rw [ho]
      exact hk_bd (hk_mp h3)
    · cases h
  · next ho =>
    cases h
    refine hk_dec1 ?_
    unfold Decoder.instr
    rw [hk_bd h1]
    rw [ho]
    rfl
  · next ho =>
    cases h
    refine hk_dec1 ?_
    unfold Decoder.instr
    rw [hk_bd h1]
    rw [ho]
    rfl
  · next ho =>
    cases h
    refine hk_dec1 ?_
    unfold Decoder.instr
    rw [hk_bd h1]
    rw [ho]
    rfl
  · next ho =>
    unfold hk_a2 at h
    split at h
    · cases h
      have h3 := hk_rd2 h2
      refine hk_dec1 ?_
      unfold Decoder.instr
      rw [hk_bd h1]
      rw [ho]
      exact hk_bd h3
    · cases h
  · next ho =>
    unfold hk_a2 at h
    split at h
    · cases h
      have h3 := hk_rd2 h2
      refine hk_dec1 ?_
      unfold Decoder.instr
      rw [hk_bd h1]
      rw [ho]
      exact hk_bd h3
    · cases h
  · next ho =>
    unfold hk_a2 at h
    split at h
    · cases h
      have h3 := hk_rd2 h2
      refine hk_dec1 ?_
      unfold Decoder.instr
      rw [hk_bd h1]
      rw [ho]
      exact hk_bd h3
    · cases h
  · next ho =>
    unfold hk_a2 at h
    split at h
    · cases h
      have h3 := hk_rd2 h2
      refine hk_dec1 ?_
      unfold Decoder.instr
      rw [hk_bd h1]
      rw [ho]
      exact hk_bd h3
    · cases h
  · next ho =>
    unfold hk_a2 at h
    split at h
    · cases h
      have h3 := hk_rd2 h2
      refine hk_dec1 ?_
      unfold Decoder.instr
      rw [hk_bd h1]
      rw [ho]
      exact hk_bd h3
    · cases h
  · next ho =>
    unfold hk_a2 at h
    split at h
    · cases h
      have h3 := hk_rd2 h2
      refine hk_dec1 ?_
      unfold Decoder.instr
      rw [hk_bd h1]
      rw [ho]
      exact hk_bd h3
    · cases h
  · next ho =>
    unfold hk_a2 at h
    split at h
    · cases h
      have h3 := hk_rd2 h2
      refine hk_dec1 ?_
      unfold Decoder.instr
      rw [hk_bd h1]
      rw [ho]
      exact hk_bd h3
    · cases h
  · next ho =>
    cases h
    refine hk_dec1 ?_
    unfold Decoder.instr
    rw [hk_bd h1]
    rw [ho]
    rfl
  · next ho =>
    cases h
    refine hk_dec1 ?_
    unfold Decoder.instr
    rw [hk_bd h1]
    rw [ho]
    rfl
  · next ho =>
    unfold hk_a2 at h
    split at h
    · cases h
      have h3 := hk_rd2 h2
      refine hk_dec1 ?_
      unfold Decoder.instr
      rw [hk_bd h1]
      rw [ho]
      exact hk_bd (hk_mp h3)
    · cases h
  · cases h
/-- the rows of a code against its bytes -/
def hk_wlk (code : ByteArray) : List UInt8 → Nat → List hk_E → Bool
  | _, _, [] => true
  | bs, pc, e :: r => decide (e.1 = pc) && (decide (hk_dc bs = some (e.2.1, e.2.2.1)) || decide (decode code e.1 = .ok (e.2.1, e.2.2.1))) && hk_wlk code (bs.drop e.2.2.1) (pc + e.2.2.1) r
theorem hk_wlk_ok {code : ByteArray} : ∀ {cd : List hk_E} {pc : Nat}, hk_wlk code (code.data.toList.drop pc) pc cd = true → ∀ e ∈ cd, decode code e.1 = .ok (e.2.1, e.2.2.1)
  | [], _, _, e, he => absurd he List.not_mem_nil
  | x :: r, pc, h, e, he => by
    simp only [hk_wlk, Bool.and_eq_true, Bool.or_eq_true, decide_eq_true_eq] at h
    obtain ⟨⟨h1, h2⟩, h3⟩ := h
    rcases List.mem_cons.mp he with rfl | he
    · rcases h2 with h2 | h2
      · rw [h1]
        exact hk_dc_ok h2
      · exact h2
    · rw [List.drop_drop] at h3
      exact hk_wlk_ok h3 e he
