section
/-! ===== an abstract machine for the part of the bytecode that the class, the reference and the law use: places for addresses, numbers as they are ===== -/
abbrev hk_E : Type := Nat × Instr × Nat × Nat × (Nat × Nat × Nat × Nat) × Int32 × Int64 × List (Int32 × Nat)
abbrev hk_L : Type := List (Option Value)
/-- numbers, longs, references (0: null), the places that there are -/
abbrev hk_H : Type := (Nat → Nat → Int32) × (Nat → Nat → Int64) × (Nat → Nat → Nat) × List Nat
abbrev hk_Q : Type := MethodName × ByteArray × Nat × Option FieldType × (Nat × Nat × Nat × Nat × Nat × Nat) × List hk_E
def hk_u2 (f : Nat → Nat → Int32) (p k : Nat) (x : Int32) : Nat → Nat → Int32 := fun q => if q = p then upd (f p) k x else f q
def hk_uJ (f : Nat → Nat → Int64) (p k : Nat) (x : Int64) : Nat → Nat → Int64 := fun q => if q = p then vp_updL (f p) k x else f q
def hk_uR (f : Nat → Nat → Nat) (p k : Nat) (x : Nat) : Nat → Nat → Nat := fun q => if q = p then (fun j => if j = k then x else f p j) else f q
def hk_cp (f : Nat → Nat → Int32) (p q sp dp n : Nat) : Nat → Nat → Int32 := fun z => if z = q then va_cpy (f p) (f q) sp dp n else f z
def hk_z {α : Type} (f : Nat → Nat → α) (p : Nat) (x : α) : Nat → Nat → α := fun q => if q = p then (fun _ => x) else f q
def hk_rv (r : Nat) : Value := match r with
  | 0 => .null
  | r + 1 => .ref (r + 1)
/-- a cell's kind (1 object, 2 ints, 3 booleans, 4 references, 5 longs, 6 the script) and its class or length -/
abbrev hk_Sh : Type := Nat × Nat
def hk_is (s : hk_Sh) (k n : Nat) : Bool := Nat.beq s.1 k && Nat.beq s.2 n
/-- a new object at a place: all 0 -/
def hk_nw (h : hk_H) (p : Nat) : hk_H := (hk_z h.1 p 0, hk_z h.2.1 p 0, hk_z h.2.2.1 p 0, h.2.2.2 ++ [p])
def hk_s1 (i : Nat) (v : Value) (L : hk_L) : hk_L := match i with
  | 0 => L.set 0 (some v)
  | j + 1 => match L[j]? with
    | some (some (.long _)) => (L.set j none).set (j + 1) (some v)
    | some (some (.double _)) => (L.set j none).set (j + 1) (some v)
    | _ => L.set (j + 1) (some v)
def hk_s2 (i : Nat) (v : Value) (L : hk_L) : hk_L := (hk_s1 i v L).set (i + 1) none
def hk_cat (st : List Value) : Nat := match st with
  | [] => 0
  | .long _ :: r => hk_cat r + 2
  | .double _ :: r => hk_cat r + 2
  | _ :: r => hk_cat r + 1
def hk_sw {R : Type} (br : (P : Prop) → Decidable P → R → R → R) (x : Int32) (k0 : R) (k : Nat → R) : List (Int32 × Nat) → R
  | [] => k0
  | q :: r => br (x = q.1) inferInstance (k q.2) (hk_sw br x k0 k r)
def hk_cmp {R : Type} (br : (P : Prop) → Decidable P → R → R → R) (c : ClassFile.Cond) (x y : Int32) (k0 k1 : R) : R := match c with
  | .eq => br (x = y) inferInstance k0 k1
  | .ne => br (¬ x = y) inferInstance k0 k1
  | .lt => br (x < y) inferInstance k0 k1
  | .ge => br (y ≤ x) inferInstance k0 k1
  | .gt => br (y < x) inferInstance k0 k1
  | .le => br (x ≤ y) inferInstance k0 k1
def hk_i2 {R : Type} (sk : R) (nx : List Value → R) (f : Int32 → Int32 → Int32) (st : List Value) : R := match st with
  | .int y :: .int x :: r => nx (.int (f x y) :: r)
  | _ => sk
def hk_l2 {R : Type} (sk : R) (nx : List Value → R) (f : Int64 → Int64 → Int64) (st : List Value) : R := match st with
  | .long y :: .long x :: r => nx (.long (f x y) :: r)
  | _ => sk
def hk_in (i : Int32) (n : Nat) : Decidable (vp_in i n) := inferInstanceAs (Decidable (¬ (i < 0 ∨ n ≤ i.toNatClampNeg)))
/-- the place of a new cell: the big row's own, else the next -/
def hk_np (pb big : Nat) (al : List Nat) (n : Nat) : Nat := match Nat.beq n big with
  | true => pb
  | false => match al.contains pb with
    | true => al.length - 1
    | false => al.length
section HKS
variable {R : Type} (SH : Nat → hk_Sh) (pb big : Nat) (sk : R) (nx : hk_L → List Value → hk_H → R) (jm : Nat → hk_L → List Value → hk_H → R) (as : (P : Prop) → Decidable P → R → R) (br : (P : Prop) → Decidable P → R → R → R) (cl : Nat → List Value → hk_H → (Option Value → hk_H → R) → R) (rt : Option Value → hk_H → R) (scr : Option (Nat × (Nat → Int32)))
/-- a new cell of a shape -/
def hk_mk (L : hk_L) (r : List Value) (h : hk_H) (k n : Nat) : R :=
  match hk_is (SH (hk_np pb big h.2.2.2 n)) k n && !(h.2.2.2.contains (hk_np pb big h.2.2.2 n)) with
  | true => nx L (.ref (hk_np pb big h.2.2.2 n) :: r) (hk_nw h (hk_np pb big h.2.2.2 n))
  | false => sk
def hk_new (a : Nat) (L : hk_L) (st : List Value) (h : hk_H) : R := hk_mk SH pb big sk nx L st h 1 a
def hk_newa (t : ArrayType) (L : hk_L) (st : List Value) (h : hk_H) : R := match st with
  | .int n :: r => as (¬ n < 0 ∧ n.toNatClampNeg ≤ 200000) inferInstance (match t with
    | .int => hk_mk SH pb big sk nx L r h 2 n.toNatClampNeg
    | .boolean => hk_mk SH pb big sk nx L r h 3 n.toNatClampNeg
    | .long => hk_mk SH pb big sk nx L r h 5 n.toNatClampNeg
    | _ => sk)
  | _ => sk
def hk_newq (L : hk_L) (st : List Value) (h : hk_H) : R := match st with
  | .int n :: r => as (¬ n < 0 ∧ n.toNatClampNeg ≤ 200000) inferInstance (hk_mk SH pb big sk nx L r h 4 n.toNatClampNeg)
  | _ => sk
def hk_getf (a c d : Nat) (L : hk_L) (st : List Value) (h : hk_H) : R := match st with
  | .ref p :: r => match hk_is (SH p) 1 a with
    | true => match d with
      | 1 => nx L (hk_rv (h.2.2.1 p c) :: r) h
      | _ => nx L (.int (h.1 p c) :: r) h
    | false => sk
  | _ => sk
def hk_putf (a c d : Nat) (L : hk_L) (st : List Value) (h : hk_H) : R := match st with
  | .int x :: .ref p :: r => match hk_is (SH p) 1 a with
    | true => match d with
      | 0 => nx L r (hk_u2 h.1 p c x, h.2)
      | 2 => as (x = 0 ∨ x = 1) inferInstance (nx L r (hk_u2 h.1 p c x, h.2))
      | _ => sk
    | false => sk
  | .ref (q + 1) :: .ref p :: r => match hk_is (SH p) 1 a with
    | true => match d with
      | 1 => match Nat.beq (SH (q + 1)).1 6 with
        | true => sk
        | false => nx L r (h.1, h.2.1, hk_uR h.2.2.1 p c (q + 1), h.2.2.2)
      | _ => sk
    | false => sk
  | _ => sk
def hk_ial (L : hk_L) (st : List Value) (h : hk_H) : R := match st with
  | .int i :: .ref p :: r => match SH p with
    | (2, n) => as (vp_in i n) (hk_in i n) (nx L (.int (h.1 p i.toNatClampNeg) :: r) h)
    | (6, _) => match scr with
      | some q => as (vp_in i q.1) (hk_in i q.1) (nx L (.int (q.2 i.toNatClampNeg) :: r) h)
      | none => sk
    | _ => sk
  | _ => sk
def hk_ias (L : hk_L) (st : List Value) (h : hk_H) : R := match st with
  | .int x :: .int i :: .ref p :: r => match SH p with
    | (2, n) => as (vp_in i n) (hk_in i n) (nx L r (hk_u2 h.1 p i.toNatClampNeg x, h.2))
    | _ => sk
  | _ => sk
def hk_bal (L : hk_L) (st : List Value) (h : hk_H) : R := match st with
  | .int i :: .ref p :: r => match SH p with
    | (3, n) => as (vp_in i n) (hk_in i n) (nx L (.int (h.1 p i.toNatClampNeg) :: r) h)
    | _ => sk
  | _ => sk
def hk_bas (L : hk_L) (st : List Value) (h : hk_H) : R := match st with
  | .int x :: .int i :: .ref p :: r => match SH p with
    | (3, n) => as (vp_in i n) (hk_in i n) (nx L r (hk_u2 h.1 p i.toNatClampNeg (vp_nar .boolean x), h.2))
    | _ => sk
  | _ => sk
def hk_lal (L : hk_L) (st : List Value) (h : hk_H) : R := match st with
  | .int i :: .ref p :: r => match SH p with
    | (5, n) => as (vp_in i n) (hk_in i n) (nx L (.long (h.2.1 p i.toNatClampNeg) :: r) h)
    | _ => sk
  | _ => sk
def hk_las (L : hk_L) (st : List Value) (h : hk_H) : R := match st with
  | .long x :: .int i :: .ref p :: r => match SH p with
    | (5, n) => as (vp_in i n) (hk_in i n) (nx L r (h.1, hk_uJ h.2.1 p i.toNatClampNeg x, h.2.2))
    | _ => sk
  | _ => sk
def hk_aal (L : hk_L) (st : List Value) (h : hk_H) : R := match st with
  | .int i :: .ref p :: r => match SH p with
    | (4, n) => as (vp_in i n) (hk_in i n) (nx L (hk_rv (h.2.2.1 p i.toNatClampNeg) :: r) h)
    | _ => sk
  | _ => sk
def hk_aas (ch : Nat) (L : hk_L) (st : List Value) (h : hk_H) : R := match st with
  | .ref (q + 1) :: .int i :: .ref p :: r => match hk_is (SH (q + 1)) 1 ch with
    | true => match SH p with
      | (4, n) => as (vp_in i n) (hk_in i n) (nx L r (h.1, h.2.1, hk_uR h.2.2.1 p i.toNatClampNeg (q + 1), h.2.2.2))
      | _ => sk
    | false => sk
  | _ => sk
def hk_len (L : hk_L) (st : List Value) (h : hk_H) : R := match st with
  | .ref p :: r => match SH p with
    | (2, n) => nx L (.int (Int32.ofNat n) :: r) h
    | (6, _) => match scr with
      | some q => nx L (.int (Int32.ofNat q.1) :: r) h
      | none => sk
    | _ => sk
  | _ => sk
/-- System.arraycopy of ints -/
def hk_acp (L : hk_L) (st : List Value) (h : hk_H) : R := match st with
  | .int n :: .int dp :: .ref q :: .int sp :: .ref p :: r => match SH p, SH q with
    | (2, n0), (2, n1) => match Nat.ble (hk_cat r) 8 with
      | true => as (¬ sp < 0 ∧ ¬ dp < 0 ∧ ¬ n < 0 ∧ sp.toNatClampNeg + n.toNatClampNeg ≤ n0 ∧ dp.toNatClampNeg + n.toNatClampNeg ≤ n1) inferInstance (nx L r (hk_cp h.1 p q sp.toNatClampNeg dp.toNatClampNeg n.toNatClampNeg, h.2))
      | false => sk
    | _, _ => sk
  | _ => sk
/-- a call of method a with c arguments (the receiver counts); d: 0 a static one, else 1 and the receiver's class -/
def hk_inv (a c d : Nat) (L : hk_L) (st : List Value) (h : hk_H) : R :=
  match Nat.ble c st.length && Nat.ble (hk_cat (st.drop c)) 8 && (match d with
    | 0 => true
    | ci + 1 => match (st.take c).reverse with
      | .ref p :: _ => hk_is (SH p) 1 ci
      | _ => false) with
  | true => cl a (st.take c).reverse h (fun r h' => match r with
    | none => nx L (st.drop c) h'
    | some v => nx L (v :: st.drop c) h')
  | false => sk
def hk_call1 (a c d : Nat) (L : hk_L) (st : List Value) (h : hk_H) : R := match a with
  | 0 => sk
  | 1 => match st with
    | .ref _ :: r => match Nat.ble (hk_cat r) 8 with
      | true => nx L r h
      | false => sk
    | _ => sk
  | 2 => hk_acp SH sk nx as L st h
  | y + 3 => hk_inv SH sk nx cl y c d L st h
def hk_stp (ch : Nat) (ins : Instr) (a c d : Nat) (v : Int32) (w : Int64) (sw : List (Int32 × Nat)) (L : hk_L) (st : List Value) (h : hk_H) : R :=
  match ins with
  | .iconst _ => nx L (.int v :: st) h
  | .bipush _ => nx L (.int v :: st) h
  | .sipush _ => nx L (.int v :: st) h
  | .ldc _ => nx L (.int v :: st) h
  | .ldc_w _ => nx L (.int v :: st) h
  | .lconst _ => nx L (.long w :: st) h
  | .ldc2_w _ => nx L (.long w :: st) h
  | .iload_n _ => (match L[a]? with
    | some (some (.int x)) => nx L (.int x :: st) h
    | _ => sk)
  | .iload _ => (match L[a]? with
    | some (some (.int x)) => nx L (.int x :: st) h
    | _ => sk)
  | .aload_n _ => (match L[a]? with
    | some (some (.ref x)) => nx L (.ref x :: st) h
    | some (some .null) => nx L (.null :: st) h
    | _ => sk)
  | .aload _ => (match L[a]? with
    | some (some (.ref x)) => nx L (.ref x :: st) h
    | _ => sk)
  | .lload_n _ => (match L[a]? with
    | some (some (.long x)) => nx L (.long x :: st) h
    | _ => sk)
  | .lload _ => (match L[a]? with
    | some (some (.long x)) => nx L (.long x :: st) h
    | _ => sk)
  | .istore_n _ => (match st with
    | .int x :: r => nx (hk_s1 a (.int x) L) r h
    | _ => sk)
  | .istore _ => (match st with
    | .int x :: r => nx (hk_s1 a (.int x) L) r h
    | _ => sk)
  | .astore_n _ => (match st with
    | .ref x :: r => nx (hk_s1 a (.ref x) L) r h
    | .null :: r => nx (hk_s1 a .null L) r h
    | _ => sk)
  | .lstore_n _ => (match st with
    | .long x :: r => nx (hk_s2 a (.long x) L) r h
    | _ => sk)
  | .lstore _ => (match st with
    | .long x :: r => nx (hk_s2 a (.long x) L) r h
    | _ => sk)
  | .iinc _ _ => (match L[a]? with
    | some (some (.int x)) => nx (hk_s1 a (.int (x + v)) L) st h
    | _ => sk)
  | .iadd => hk_i2 sk (fun r => nx L r h) (fun x y => x + y) st
  | .isub => hk_i2 sk (fun r => nx L r h) (fun x y => x - y) st
  | .imul => hk_i2 sk (fun r => nx L r h) (fun x y => x * y) st
  | .iand => hk_i2 sk (fun r => nx L r h) (fun x y => x &&& y) st
  | .ior => hk_i2 sk (fun r => nx L r h) (fun x y => x ||| y) st
  | .ixor => hk_i2 sk (fun r => nx L r h) (fun x y => x ^^^ y) st
  | .ishl => hk_i2 sk (fun r => nx L r h) (fun x y => x <<< (y &&& 31)) st
  | .ishr => hk_i2 sk (fun r => nx L r h) (fun x y => x >>> (y &&& 31)) st
  | .iushr => hk_i2 sk (fun r => nx L r h) (fun x y => (x.toUInt32 >>> (y.toUInt32 &&& Int32.toUInt32 31)).toInt32) st
  | .ladd => hk_l2 sk (fun r => nx L r h) (fun x y => x + y) st
  | .lsub => hk_l2 sk (fun r => nx L r h) (fun x y => x - y) st
  | .lmul => hk_l2 sk (fun r => nx L r h) (fun x y => x * y) st
  | .idiv => (match st with
    | .int y :: .int x :: r => as (¬ y = 0) inferInstance (nx L (.int (x / y) :: r) h)
    | _ => sk)
  | .irem => (match st with
    | .int y :: .int x :: r => as (¬ y = 0) inferInstance (nx L (.int (x - x / y * y) :: r) h)
    | _ => sk)
  | .ldiv => (match st with
    | .long y :: .long x :: r => as (¬ y = 0) inferInstance (nx L (.long (x / y) :: r) h)
    | _ => sk)
  | .lneg => (match st with
    | .long x :: r => nx L (.long (-x) :: r) h
    | _ => sk)
  | .i2l => (match st with
    | .int x :: r => nx L (.long x.toInt64 :: r) h
    | _ => sk)
  | .l2i => (match st with
    | .long x :: r => nx L (.int x.toInt32 :: r) h
    | _ => sk)
  | .lcmp => (match st with
    | .long y :: .long x :: r => nx L (.int (lg_cmp x y) :: r) h
    | _ => sk)
  | .dup => (match st with
    | .int x :: r => nx L (.int x :: .int x :: r) h
    | .ref x :: r => nx L (.ref x :: .ref x :: r) h
    | _ => sk)
  | .dup2 => (match st with
    | .int x :: .ref y :: r => nx L (.int x :: .ref y :: .int x :: .ref y :: r) h
    | _ => sk)
  | .pop => (match st with
    | .int _ :: r => nx L r h
    | _ => sk)
  | .pop2 => (match st with
    | .long _ :: r => nx L r h
    | _ => sk)
  | .goto _ => jm a L st h
  | .if_icmp cnd _ => (match st with
    | .int y :: .int x :: r => hk_cmp br cnd x y (jm a L r h) (nx L r h)
    | _ => sk)
  | .ifCond cnd _ => (match st with
    | .int x :: r => hk_cmp br cnd x 0 (jm a L r h) (nx L r h)
    | _ => sk)
  | .ifnonnull _ => (match st with
    | .ref _ :: r => jm a L r h
    | .null :: r => nx L r h
    | _ => sk)
  | .tableswitch _ _ _ _ => (match st with
    | .int x :: r => hk_sw br x (jm a L r h) (fun t => jm t L r h) sw
    | _ => sk)
  | .lookupswitch _ _ => (match st with
    | .int x :: r => hk_sw br x (jm a L r h) (fun t => jm t L r h) sw
    | _ => sk)
  | .getfield _ => hk_getf SH sk nx a c d L st h
  | .putfield _ => hk_putf SH sk nx as a c d L st h
  | .new _ => hk_new SH pb big sk nx a L st h
  | .newarray t => hk_newa SH pb big sk nx as t L st h
  | .anewarray _ => hk_newq SH pb big sk nx as L st h
  | .arraylength => hk_len SH sk nx scr L st h
  | .iaload => hk_ial SH sk nx as scr L st h
  | .iastore => hk_ias SH sk nx as L st h
  | .baload => hk_bal SH sk nx as L st h
  | .bastore => hk_bas SH sk nx as L st h
  | .laload => hk_lal SH sk nx as L st h
  | .lastore => hk_las SH sk nx as L st h
  | .aaload => hk_aal SH sk nx as L st h
  | .aastore => hk_aas SH sk nx as ch L st h
  | .invokevirtual _ => hk_call1 SH sk nx as cl a c d L st h
  | .invokespecial _ => hk_call1 SH sk nx as cl a c d L st h
  | .invokestatic _ => hk_call1 SH sk nx as cl a c d L st h
  | .ireturn => (match st with
    | [.int x] => (match d with
      | 0 => rt (some (.int x)) h
      | _ => as (x = 0 ∨ x = 1) inferInstance (rt (some (.int x)) h))
    | _ => sk)
  | .lreturn => (match st with
    | [.long x] => rt (some (.long x)) h
    | _ => sk)
  | .return_ => (match st with
    | [] => rt none h
    | _ => sk)
  | _ => sk
end HKS
def hk_sfx (t : Nat) : List hk_E → List hk_E
  | [] => []
  | e :: r => match Nat.beq e.1 t with
    | true => e :: r
    | false => hk_sfx t r
abbrev hk_O : Type := Option (Option Value × hk_H)
section HKR
variable (SH : Nat → hk_Sh) (pb big ch : Nat)
/-- a run of a method's body -/
def hk_run (cl : Nat → List Value → hk_H → hk_O) (scr : Option (Nat × (Nat → Int32))) (cd : List hk_E) : Nat → List hk_E → hk_L → List Value → hk_H → hk_O
  | 0, _, _, _, _ => none
  | _ + 1, [], _, _, _ => none
  | n + 1, e :: cs, L, st, h => hk_stp SH pb big (R := hk_O) none (fun L st h => hk_run cl scr cd n cs L st h) (fun t L st h => hk_run cl scr cd n (hk_sfx t cd) L st h) (fun P d k => @ite _ P d k none) (fun P d k0 k1 => @ite _ P d k0 k1) (fun y a h k => (cl y a h).bind (fun q => k q.1 q.2)) (fun r h => some (r, h)) scr ch e.2.1 e.2.2.2.2.1.1 e.2.2.2.2.1.2.2.1 e.2.2.2.2.1.2.2.2 e.2.2.2.2.2.1 e.2.2.2.2.2.2.1 e.2.2.2.2.2.2.2 L st h
def hk_as : List Value → hk_L
  | [] => []
  | .long x :: r => some (.long x) :: none :: hk_as r
  | .double x :: r => some (.double x) :: none :: hk_as r
  | v :: r => some v :: hk_as r
def hk_loc (mx : Nat) (a : List Value) : hk_L := hk_as a ++ List.replicate (mx - (hk_as a).length) none
/-- a call, so deep -/
def hk_call (mt : Nat → Option hk_Q) (F : Nat) : Nat → Nat → List Value → hk_H → hk_O
  | 0, _, _, _ => none
  | d + 1, y, a, h => match mt y with
    | none => none
    | some q => match Nat.ble (hk_as a).length q.2.2.1 && Nat.beq a.length q.2.2.2.2.1.1 with
      | true => hk_run SH pb big ch (hk_call mt F d) none q.2.2.2.2.2 F q.2.2.2.2.2 (hk_loc q.2.2.1 a) [] h
      | false => none
end HKR
end
section
/-! ===== the abstract machine's step, under two readings of its ends ===== -/
def hk_ge (h h' : hk_H) : Prop := ∃ ext : List Nat, h'.2.2.2 = h.2.2.2 ++ ext
theorem hk_ge_rf (h : hk_H) : hk_ge h h := ⟨[], by simp⟩
theorem hk_ge_of {h h' : hk_H} (e : h'.2.2.2 = h.2.2.2) : hk_ge h h' := ⟨[], by simp [e]⟩
theorem hk_ge_tr {h h1 h2 : hk_H} (a : hk_ge h h1) (b : hk_ge h1 h2) : hk_ge h h2 := by
  obtain ⟨x, hx⟩ := a
  obtain ⟨y, hy⟩ := b
  exact ⟨x ++ y, by rw [hy, hx, List.append_assoc]⟩
section HKT
variable {R1 R2 : Type} {SH : Nat → hk_Sh} {pb big : Nat} (T : R1 → R2 → Prop) {sk1 : R1} {sk2 : R2} {nx1 : hk_L → List Value → hk_H → R1} {nx2 : hk_L → List Value → hk_H → R2} {jm1 : Nat → hk_L → List Value → hk_H → R1} {jm2 : Nat → hk_L → List Value → hk_H → R2} {as1 : (P : Prop) → Decidable P → R1 → R1} {as2 : (P : Prop) → Decidable P → R2 → R2} {br1 : (P : Prop) → Decidable P → R1 → R1 → R1} {br2 : (P : Prop) → Decidable P → R2 → R2 → R2} {cl1 : Nat → List Value → hk_H → (Option Value → hk_H → R1) → R1} {cl2 : Nat → List Value → hk_H → (Option Value → hk_H → R2) → R2} {rt1 : Option Value → hk_H → R1} {rt2 : Option Value → hk_H → R2} {scr : Option (Nat × (Nat → Int32))} {h : hk_H}
theorem hk_sw_rel (hbr : ∀ P d a1 a2 b1 b2, T a1 a2 → T b1 b2 → T (br1 P d a1 b1) (br2 P d a2 b2)) (x : Int32) {k1 : R1} {k2 : R2} {f1 : Nat → R1} {f2 : Nat → R2} (hk : T k1 k2) (hf : ∀ t, T (f1 t) (f2 t)) : ∀ l : List (Int32 × Nat), T (hk_sw br1 x k1 f1 l) (hk_sw br2 x k2 f2 l)
  | [] => hk
  | q :: r => hbr _ _ _ _ _ _ (hf _) (hk_sw_rel hbr x hk hf r)
theorem hk_cmp_rel (hbr : ∀ P d a1 a2 b1 b2, T a1 a2 → T b1 b2 → T (br1 P d a1 b1) (br2 P d a2 b2)) (cnd : ClassFile.Cond) (x y : Int32) {k1 j1 : R1} {k2 j2 : R2} (hk : T k1 k2) (hj : T j1 j2) : T (hk_cmp br1 cnd x y k1 j1) (hk_cmp br2 cnd x y k2 j2) := by
  cases cnd <;> exact hbr _ _ _ _ _ _ hk hj
theorem hk_i2_rel (hsk : T sk1 sk2) {f1 : List Value → R1} {f2 : List Value → R2} (hf : ∀ r, T (f1 r) (f2 r)) (f : Int32 → Int32 → Int32) (st : List Value) : T (hk_i2 sk1 f1 f st) (hk_i2 sk2 f2 f st) := by
  unfold hk_i2
  split
  · exact hf _
  · exact hsk
theorem hk_l2_rel (hsk : T sk1 sk2) {f1 : List Value → R1} {f2 : List Value → R2} (hf : ∀ r, T (f1 r) (f2 r)) (f : Int64 → Int64 → Int64) (st : List Value) : T (hk_l2 sk1 f1 f st) (hk_l2 sk2 f2 f st) := by
  unfold hk_l2
  split
  · exact hf _
  · exact hsk
theorem hk_mk_rel (hsk : T sk1 sk2) (hnx : ∀ L st h', hk_ge h h' → T (nx1 L st h') (nx2 L st h')) (L : hk_L) (r : List Value) (k n : Nat) : T (hk_mk SH pb big sk1 nx1 L r h k n) (hk_mk SH pb big sk2 nx2 L r h k n) := by
  unfold hk_mk
  split
  · exact hnx _ _ _ ⟨[_], rfl⟩
  · exact hsk
theorem hk_inv_rel (hsk : T sk1 sk2) (hnx : ∀ L st h', hk_ge h h' → T (nx1 L st h') (nx2 L st h')) (hcl : ∀ y a k1 k2, (∀ r h', hk_ge h h' → T (k1 r h') (k2 r h')) → T (cl1 y a h k1) (cl2 y a h k2)) (a c d : Nat) (L : hk_L) (st : List Value) : T (hk_inv SH sk1 nx1 cl1 a c d L st h) (hk_inv SH sk2 nx2 cl2 a c d L st h) := by
  unfold hk_inv
  split
  · refine hcl _ _ _ _ fun r h' hg => ?_
    cases r with
    | none => exact hnx _ _ _ hg
    | some v => exact hnx _ _ _ hg
  · exact hsk
theorem hk_stp_rel (hsk : T sk1 sk2) (hnx : ∀ L st h', hk_ge h h' → T (nx1 L st h') (nx2 L st h')) (hjm : ∀ t L st, T (jm1 t L st h) (jm2 t L st h)) (has : ∀ P d k1 k2, T k1 k2 → T (as1 P d k1) (as2 P d k2)) (hbr : ∀ P d a1 a2 b1 b2, T a1 a2 → T b1 b2 → T (br1 P d a1 b1) (br2 P d a2 b2)) (hcl : ∀ y a k1 k2, (∀ r h', hk_ge h h' → T (k1 r h') (k2 r h')) → T (cl1 y a h k1) (cl2 y a h k2)) (hrt : ∀ r, T (rt1 r h) (rt2 r h)) (ch : Nat) (ins : Instr) (a c d : Nat) (v : Int32) (w : Int64) (sw : List (Int32 × Nat)) (L : hk_L) (st : List Value) :
    T (hk_stp SH pb big sk1 nx1 jm1 as1 br1 cl1 rt1 scr ch ins a c d v w sw L st h) (hk_stp SH pb big sk2 nx2 jm2 as2 br2 cl2 rt2 scr ch ins a c d v w sw L st h) := by
  have hn0 : ∀ L st, T (nx1 L st h) (nx2 L st h) := fun L st => hnx L st h (hk_ge_rf h)
  have hne : ∀ L st h', h'.2.2.2 = h.2.2.2 → T (nx1 L st h') (nx2 L st h') := fun L st h' e => hnx L st h' (hk_ge_of e)
  have hca : T (hk_call1 SH sk1 nx1 as1 cl1 a c d L st h) (hk_call1 SH sk2 nx2 as2 cl2 a c d L st h) := by
    unfold hk_call1
    split
    · exact hsk
    · split
      · split
        · exact hn0 _ _
        · exact hsk
      · exact hsk
    · unfold hk_acp
      split
      · split
        · split
          · exact has _ _ _ _ (hne _ _ _ rfl)
          · exact hsk
        · exact hsk
      · exact hsk
    · exact hk_inv_rel T hsk hnx hcl _ _ _ _ _
  unfold hk_stp
  split
  all_goals first
    | exact hsk
    | exact hn0 _ _
    | exact hca
    | exact hjm _ _ _
    | exact hk_i2_rel T hsk (fun r => hn0 _ _) _ _
    | exact hk_l2_rel T hsk (fun r => hn0 _ _) _ _
    | (unfold hk_new; exact hk_mk_rel T hsk hnx _ _ _ _)
    | (unfold hk_newa; split <;> first | exact hsk | (refine has _ _ _ _ ?_; split <;> first | exact hsk | exact hk_mk_rel T hsk hnx _ _ _ _))
    | (unfold hk_newq; split <;> first | exact hsk | (refine has _ _ _ _ ?_; exact hk_mk_rel T hsk hnx _ _ _ _))
    | (split <;> first | exact hsk | exact hn0 _ _ | exact hjm _ _ _ | exact has _ _ _ _ (hn0 _ _) | exact hk_cmp_rel T hbr _ _ _ (hjm _ _ _) (hn0 _ _) | exact hk_sw_rel T hbr _ (hjm _ _ _) (fun t => hjm _ _ _) _ | exact hrt _)
    | (split <;> first | exact hsk | (split <;> first | exact hrt _ | exact has _ _ _ _ (hrt _)))
    | (first | unfold hk_getf | unfold hk_putf | unfold hk_len | unfold hk_ial | unfold hk_ias | unfold hk_bal | unfold hk_bas | unfold hk_lal | unfold hk_las | unfold hk_aal | unfold hk_aas
       (repeat' split) <;> first | exact hsk | exact hne _ _ _ rfl | exact has _ _ _ _ (hne _ _ _ rfl))
end HKT
section HKM
variable {SH : Nat → hk_Sh} {pb big ch : Nat}
theorem hk_run_ge {cl : Nat → List Value → hk_H → hk_O} (hg : ∀ y a h q, cl y a h = some q → hk_ge h q.2) {scr : Option (Nat × (Nat → Int32))} {cd : List hk_E} : ∀ (n : Nat) cs L st h q, hk_run SH pb big ch cl scr cd n cs L st h = some q → hk_ge h q.2 := by
  intro n
  induction n with
  | zero => intro cs L st h q e; simp [hk_run] at e
  | succ n ih =>
    intro cs L st h q e
    cases cs with
    | nil => simp [hk_run] at e
    | cons e0 cs =>
      rw [hk_run] at e
      revert e
      refine hk_stp_rel (R2 := Unit) (nx2 := fun _ _ _ => ()) (jm2 := fun _ _ _ _ => ()) (as2 := fun _ _ _ => ()) (br2 := fun _ _ _ _ => ()) (cl2 := fun _ _ _ _ => ()) (rt2 := fun _ _ => ()) (sk2 := ()) (T := fun x _ => x = some q → hk_ge h q.2) (fun e => by cases e) (fun L st h' hh e => hk_ge_tr hh (ih _ _ _ _ _ e)) (fun t L st e => ih _ _ _ _ _ e) (fun P d k1 k2 hk e => ?_) (fun P d a1 a2 b1 b2 ha hb e => ?_) (fun y a k1 k2 hk e => ?_) (fun r e => ?_) _ _ _ _ _ _ _ _ _ _
      · by_cases hP : P
        · rw [if_pos hP] at e; exact hk e
        · rw [if_neg hP] at e; cases e
      · by_cases hP : P
        · rw [if_pos hP] at e; exact ha e
        · rw [if_neg hP] at e; exact hb e
      · cases hq : cl y a h with
        | none => rw [hq] at e; cases e
        | some x => rw [hq] at e; exact hk _ _ (hg _ _ _ _ hq) e
      · cases e
        exact hk_ge_rf h
theorem hk_run_mono {cl cl' : Nat → List Value → hk_H → hk_O} (hg : ∀ y a h q, cl y a h = some q → hk_ge h q.2) (hc : ∀ y a h q, cl y a h = some q → cl' y a h = some q) {scr : Option (Nat × (Nat → Int32))} {cd : List hk_E} : ∀ (n n' : Nat), n ≤ n' → ∀ cs L st h q, hk_run SH pb big ch cl scr cd n cs L st h = some q → hk_run SH pb big ch cl' scr cd n' cs L st h = some q := by
  intro n
  induction n with
  | zero => intro n' _ cs L st h q e; simp [hk_run] at e
  | succ n ih =>
    intro n' hn cs L st h q e
    obtain ⟨n', rfl⟩ : ∃ k, n' = k + 1 := ⟨n' - 1, by omega⟩
    cases cs with
    | nil => simp [hk_run] at e
    | cons e0 cs =>
      rw [hk_run] at e ⊢
      revert e
      refine hk_stp_rel (T := fun x y => x = some q → y = some q) (fun e => by cases e) (fun L st h' _ e => ih n' (by omega) _ _ _ _ _ e) (fun t L st e => ih n' (by omega) _ _ _ _ _ e) (fun P d k1 k2 hk e => ?_) (fun P d a1 a2 b1 b2 ha hb e => ?_) (fun y a k1 k2 hk e => ?_) (fun r e => e) _ _ _ _ _ _ _ _ _ _
      · by_cases hP : P
        · rw [if_pos hP] at e ⊢; exact hk e
        · rw [if_neg hP] at e; cases e
      · by_cases hP : P
        · rw [if_pos hP] at e ⊢; exact ha e
        · rw [if_neg hP] at e ⊢; exact hb e
      · cases hq : cl y a h with
        | none => rw [hq] at e; cases e
        | some x =>
          rw [hq] at e
          rw [hc _ _ _ _ hq]
          exact hk _ _ (hg _ _ _ _ hq) e
variable {mt : Nat → Option hk_Q}
theorem hk_call_ge (F : Nat) : ∀ (d : Nat) y a h q, hk_call SH pb big ch mt F d y a h = some q → hk_ge h q.2 := by
  intro d
  induction d with
  | zero => intro y a h q e; simp [hk_call] at e
  | succ d ih =>
    intro y a h q e
    rw [hk_call] at e
    split at e
    · cases e
    · split at e
      · exact hk_run_ge ih _ _ _ _ _ _ e
      · cases e
theorem hk_call_mono {F F' : Nat} (hF : F ≤ F') : ∀ (d : Nat) y a h q, hk_call SH pb big ch mt F d y a h = some q → hk_call SH pb big ch mt F' d y a h = some q := by
  intro d
  induction d with
  | zero => intro y a h q e; simp [hk_call] at e
  | succ d ih =>
    intro y a h q e
    rw [hk_call] at e ⊢
    split at e
    · cases e
    · split at e
      · exact hk_run_mono (hk_call_ge F d) ih _ _ hF _ _ _ _ _ e
      · cases e
theorem hk_call_deep {F : Nat} : ∀ (d d' : Nat), d ≤ d' → ∀ y a h q, hk_call SH pb big ch mt F d y a h = some q → hk_call SH pb big ch mt F d' y a h = some q := by
  intro d
  induction d with
  | zero => intro d' _ y a h q e; simp [hk_call] at e
  | succ d ih =>
    intro d' hd y a h q e
    obtain ⟨d', rfl⟩ : ∃ k, d' = k + 1 := ⟨d' - 1, by omega⟩
    rw [hk_call] at e ⊢
    split at e
    · cases e
    · split at e
      · exact hk_run_mono (hk_call_ge F d) (ih d' (by omega)) _ _ (Nat.le_refl _) _ _ _ _ _ e
      · cases e
end HKM
end
section
/-! ===== what a method's table says of its code, and how an abstract heap lies in the machine's ===== -/
section HKC
variable (cls : List vw_C) (kd : Nat → Nat → Nat) (wl : List Jvm.Cond) (mt : Nat → Option hk_Q) (hn : String)
def hk_fok (own : String) (a b c d idx : Nat) (q : vw_C) : Bool := decide (c < q.2.2) && decide (wl[b]? = some (.fieldLink own idx q.1 (q.2.1 c).2.1 (q.2.1 c).2.2.1)) && decide ((q.2.1 c).1 = q.1) && decide (kd a c = d)
def hk_swT (pc : Nat) (lo : Int) : Nat → List (Int32 × Nat) → List Int → Bool
  | _, [], [] => true
  | k, q :: r, o :: os => decide (q.1.toInt = lo + k) && decide ((pc : Int) + o = (q.2 : Int)) && hk_swT pc lo (k + 1) r os
  | _, _, _ => false
def hk_swL (pc : Nat) : List (Int32 × Nat) → List (Int × Int) → Bool
  | [], [] => true
  | q :: r, o :: os => decide (q.1.toInt = o.1) && decide ((pc : Int) + o.2 = (q.2 : Int)) && hk_swL pc r os
  | _, _ => false
/-- a call's row: 0 not resolved, 1 Object's constructor, 2 arraycopy, else a method of the table and the way to it -/
def hk_cok (own : String) (a b c d idx : Nat) (way : Nat) : Bool := match a with
  | 0 => true
  | 1 => decide (way = 1) && decide (wl[b]? = some (.methodLink own idx Lib.objectInit))
  | 2 => decide (way = 2) && decide (wl[b]? = some (.methodLink own idx arraycopyName))
  | y + 3 => match mt y with
    | none => false
    | some q => decide (q.2.2.2.2.1.1 = c) && (match way with
      | 0 => decide (wl[b]? = some (.methodLink own idx q.1)) && decide (q.2.2.2.2.1.2.1 = 0) && (match d with
        | 0 => false
        | ci + 1 => match cls[ci]? with
          | none => false
          | some r => decide (r.1 = q.1.cls))
      | 1 => decide (wl[b]? = some (.methodLink own idx q.1)) && decide (q.2.2.2.2.1.2.1 = 1) && decide (1 ≤ c) && decide (d ≠ 0)
      | _ => decide (d = 0) && decide (q.2.2.2.2.1.2.1 = 2) && (decide (wl[b]? = some (.methodLink own idx q.1)) || decide (wl[b]? = some (.methodLinkNest own idx q.1 hn))))
def hk_iok (own : String) (ini : Bool) (rk mx pc : Nat) (ins : Instr) (len a b c d : Nat) (v : Int32) (w : Int64) (sw : List (Int32 × Nat)) : Bool := match ins with
  | .iconst n => decide (len = 1) && decide (Int32.ofInt n = v)
  | .bipush n => decide (len = 2) && decide ((Int8.ofInt n).toInt32 = v)
  | .sipush n => decide (len = 3) && decide ((Int16.ofInt n).toInt32 = v)
  | .ldc i => decide (len = 2) && decide (wl[b]? = some (.constant own i v))
  | .ldc_w i => decide (len = 3) && decide (wl[b]? = some (.constant own i v))
  | .lconst n => decide (len = 1) && decide (Int64.ofNat (n : Nat) = w)
  | .ldc2_w i => decide (len = 3) && decide (wl[b]? = some (.constantLong own i w))
  | .iload_n k => decide (len = 1) && decide ((k : Nat) = a)
  | .aload_n k => decide (len = 1) && decide ((k : Nat) = a)
  | .lload_n k => decide (len = 1) && decide ((k : Nat) = a)
  | .iload i => decide (len = 2) && decide (i = a)
  | .aload i => decide (len = 2) && decide (i = a)
  | .lload i => decide (len = 2) && decide (i = a)
  | .istore_n k => decide (len = 1) && decide ((k : Nat) = a) && decide (a < mx)
  | .astore_n k => decide (len = 1) && decide ((k : Nat) = a) && decide (a < mx)
  | .lstore_n k => decide (len = 1) && decide ((k : Nat) = a) && decide (a + 1 < mx)
  | .istore i => decide (len = 2) && decide (i = a) && decide (a < mx)
  | .lstore i => decide (len = 2) && decide (i = a) && decide (a + 1 < mx)
  | .iinc i n => decide (len = 3) && decide (i = a) && decide (a < mx) && decide (Int32.ofInt n = v)
  | .goto o => decide (len = 3) && decide ((pc : Int) + o = (a : Int))
  | .if_icmp _ o => decide (len = 3) && decide ((pc : Int) + o = (a : Int))
  | .ifCond _ o => decide (len = 3) && decide ((pc : Int) + o = (a : Int))
  | .ifnonnull o => decide (len = 3) && decide ((pc : Int) + o = (a : Int))
  | .tableswitch df lo hi os => decide ((pc : Int) + df = (a : Int)) && decide (hi = lo + (os.size : Int) - 1) && hk_swT pc lo 0 sw os.toList
  | .lookupswitch df ps => decide ((pc : Int) + df = (a : Int)) && (ps.toList.zip (ps.toList.drop 1)).all (fun (a, next) => a.1 < next.1) && hk_swL pc sw ps.toList
  | .getfield i => decide (len = 3) && (match cls[a]? with
    | none => false
    | some q => hk_fok kd wl own a b c d i q)
  | .putfield i => decide (len = 3) && (match cls[a]? with
    | none => false
    | some q => hk_fok kd wl own a b c d i q && (!(q.2.1 c).2.2.2 || (ini && decide ((q.2.1 c).1 = own))))
  | .new i => (match cls[a]? with
    | none => true
    | some q => decide (len = 3) && decide (wl[b]? = some (.classLink own i q.1)) && decide (wl[c]? = some (.instantiable q.1 q.2.2)) && decide (wl[d]? = some (.initialized q.1)))
  | .newarray _ => decide (len = 2)
  | .anewarray i => decide (len = 3) && decide (wl[b]? = some (.classLink own i hn))
  | .invokevirtual i => hk_cok cls wl mt hn own a b c d i 0 && decide (len = 3)
  | .invokespecial i => hk_cok cls wl mt hn own a b c d i 1 && decide (len = 3)
  | .invokestatic i => hk_cok cls wl mt hn own a b c d i 2 && decide (len = 3)
  | .ireturn => decide (len = 1) && decide (rk = 1 ∨ (rk = 2 ∧ d = 1))
  | .lreturn => decide (len = 1) && decide (rk = 3)
  | .return_ => decide (len = 1) && decide (rk = 0)
  | _ => decide (len = 1)
end HKC
def hk_rk (t : Option FieldType) : Nat := match t with
  | none => 0
  | some .int => 1
  | some .boolean => 2
  | some .long => 3
  | _ => 4
def hk_seq : List hk_E → Bool
  | e :: f :: r => decide (f.1 = e.1 + e.2.2.1) && hk_seq (f :: r)
  | _ => true
theorem hk_seq_at : ∀ (cd pre : List hk_E) (e f : hk_E) (r : List hk_E), hk_seq cd = true → cd = pre ++ e :: f :: r → f.1 = e.1 + e.2.2.1
  | _, [], e, f, r, h, rfl => by
    simp only [List.nil_append, hk_seq, Bool.and_eq_true, decide_eq_true_eq] at h
    exact h.1
  | _, [x], e, f, r, h, rfl => by
    simp only [List.cons_append, List.nil_append, hk_seq, Bool.and_eq_true, decide_eq_true_eq] at h
    exact h.2.1
  | _, x :: y :: pre, e, f, r, h, rfl => by
    simp only [List.cons_append, hk_seq, Bool.and_eq_true] at h
    exact hk_seq_at _ (y :: pre) e f r h.2 rfl
theorem hk_sfx_in (t : Nat) : ∀ cd : List hk_E, ∃ pre, cd = pre ++ hk_sfx t cd
  | [] => ⟨[], rfl⟩
  | e :: r => by
    rw [hk_sfx]
    cases hb : Nat.beq e.1 t with
    | true => exact ⟨[], rfl⟩
    | false =>
      obtain ⟨pre, h⟩ := hk_sfx_in t r
      exact ⟨e :: pre, by simpa using h⟩
theorem hk_sfx_hd (t : Nat) : ∀ (cd : List hk_E) (e : hk_E) (r : List hk_E), hk_sfx t cd = e :: r → e.1 = t
  | [], _, _, h => by cases h
  | x :: y, e, r, h => by
    rw [hk_sfx] at h
    cases hb : Nat.beq x.1 t with
    | true => rw [hb] at h; cases h; exact Nat.eq_of_beq_eq_true hb
    | false => rw [hb] at h; exact hk_sfx_hd t y e r h
section HKW
variable (SH : Nat → hk_Sh) (cls : List vw_C) (kd : Nat → Nat → Nat) (sc : Nat) (cI cZ cR cJ : ClassId) (ad : Nat → Nat)
def hk_rf (r : Nat) : Option Nat := match r with
  | 0 => none
  | r + 1 => some (ad (r + 1))
def hk_tv (v : Value) : Value := match v with
  | .ref p => .ref (ad p)
  | v => v
def hk_fv (h : hk_H) (p ci k : Nat) : Value := match kd ci k with
  | 1 => va_rf (hk_rf ad (h.2.2.1 p k))
  | _ => .int (h.1 p k)
def hk_nf (ci : Nat) : Nat := match cls[ci]? with
  | none => 0
  | some q => q.2.2
def hk_ce (h : hk_H) (p : Nat) : va_E := match SH p with
  | (1, ci) => .inr (ci, (List.range (hk_nf cls ci)).map (hk_fv kd ad h p ci))
  | (2, n) => .inl (cI, n, .inl (h.1 p))
  | (3, n) => .inl (cZ, n, .inl (h.1 p))
  | (4, n) => .inl (cR, n, .inr (.inr (.inr (.inr (fun k => hk_rf ad (h.2.2.1 p k))))))
  | (5, n) => .inl (cJ, n, .inr (.inl (h.2.1 p)))
  | _ => .inl (cI, 0, .inl (fun _ => 0))
def hk_ws (h : hk_H) : va_W := h.2.2.2.map (fun p => (ad p, hk_ce SH cls kd cI cZ cR cJ ad h p))
def hk_wf (h : hk_H) : Prop := ∀ p ∈ h.2.2.2, ∀ k, h.2.2.1 p k = 0 ∨ h.2.2.1 p k ∈ h.2.2.2
def hk_vo (al : List Nat) (v : Value) : Prop := match v with
  | .ref p => p ∈ al ∨ p = sc
  | _ => True
def hk_pl (L : hk_L) : List (Nat × Value) := L.zipIdx.filterMap fun q => q.1.map fun v => (q.2, hk_tv ad v)
def hk_tys (hn : String) : List (ClassId × FieldType) := [(cI, .int), (cZ, .boolean), (cR, .object hn), (cJ, .long)]
def hk_sl (al : List Nat) : Nat := (al.map fun p => match SH p with
  | (1, ci) => hk_nf cls ci
  | (_, n) => n).sum
end HKW
theorem hk_tv_rv (ad : Nat → Nat) (r : Nat) : hk_tv ad (hk_rv r) = va_rf (hk_rf ad r) := by
  cases r <;> rfl
theorem hk_pl_mem {ad : Nat → Nat} {L : hk_L} {q : Nat × Value} : q ∈ hk_pl ad L ↔ ∃ v, L[q.1]? = some (some v) ∧ q.2 = hk_tv ad v := by
  unfold hk_pl
  rw [List.mem_filterMap]
  constructor
  · rintro ⟨⟨o, k⟩, h1, h2⟩
    rw [List.mem_zipIdx_iff_getElem?] at h1
    cases o with
    | none => cases h2
    | some v => cases h2; exact ⟨v, h1, rfl⟩
  · rintro ⟨v, h1, h2⟩
    refine ⟨(some v, q.1), ?_, ?_⟩
    · rw [List.mem_zipIdx_iff_getElem?]
      exact h1
    · show some (q.1, hk_tv ad v) = some q
      rw [← h2]
theorem hk_has_sub {ls : Array Slot} {n : Nat} {l l' : List (Nat × Value)} (h : lv_has ls n l) (hs : ∀ q ∈ l', q ∈ l) : lv_has ls n l' := ⟨h.1, h.2.1, fun q hq => h.2.2 q (hs q hq)⟩
theorem hk_has_at {ls : Array Slot} {n a : Nat} {ad : Nat → Nat} {L : hk_L} {v : Value} (h : lv_has ls n (hk_pl ad L)) (hL : L[a]? = some (some v)) : ls[a]? = some (.val (hk_tv ad v)) := h.2.2 (a, hk_tv ad v) (hk_pl_mem.mpr ⟨v, hL, rfl⟩)
theorem hk_tv_cat (ad : Nat → Nat) (v : Value) : (hk_tv ad v).category = v.category := by
  cases v <;> rfl
theorem hk_cat_map (ad : Nat → Nat) (st : List Value) : ((st.map (hk_tv ad)).map fun v => v.category).sum = hk_cat st := by
  induction st with
  | nil => rfl
  | cons v r ih =>
    cases v <;> simp [hk_cat, hk_tv, Value.category] at ih ⊢ <;> omega
theorem hk_s1_len (i : Nat) (v : Value) (L : hk_L) : (hk_s1 i v L).length = L.length := by
  unfold hk_s1
  split
  · simp
  · split <;> simp
theorem hk_s1_at {i k : Nat} {v w : Value} {L : hk_L} (h : (hk_s1 i v L)[k]? = some (some w)) : (k = i ∧ w = v) ∨ (k ≠ i ∧ L[k]? = some (some w) ∧ ¬ (k + 1 = i ∧ w.category = 2)) := by
  by_cases hk : k = i
  · left
    refine ⟨hk, ?_⟩
    subst hk
    have hlen := (List.getElem?_eq_some_iff.mp h).1
    rw [hk_s1_len] at hlen
    unfold hk_s1 at h
    cases k with
    | zero => simp [hlen] at h; exact h.symm
    | succ j =>
      simp only at h
      split at h <;> simp [hlen] at h <;> exact h.symm
  · right
    refine ⟨hk, ?_⟩
    unfold hk_s1 at h
    cases i with
    | zero =>
      simp only at h
      rw [List.getElem?_set_ne (fun q => hk q.symm)] at h
      exact ⟨h, fun q => by omega⟩
    | succ j =>
      simp only at h
      split at h
      · rw [List.getElem?_set_ne (fun q => hk q.symm)] at h
        by_cases hj : j = k
        · subst hj
          rw [List.getElem?_set] at h
          split at h
          · split at h <;> cases h
          · exact absurd rfl ‹_›
        · rw [List.getElem?_set_ne hj] at h
          exact ⟨h, fun q => hj (by omega)⟩
      · rw [List.getElem?_set_ne (fun q => hk q.symm)] at h
        by_cases hj : j = k
        · subst hj
          rw [List.getElem?_set] at h
          split at h
          · split at h <;> cases h
          · exact absurd rfl ‹_›
        · rw [List.getElem?_set_ne hj] at h
          exact ⟨h, fun q => hj (by omega)⟩
      · next n1 n2 =>
        rw [List.getElem?_set_ne (fun q => hk q.symm)] at h
        refine ⟨h, fun q => ?_⟩
        obtain ⟨q1, q2⟩ := q
        have : k = j := by omega
        subst this
        cases w <;> first | exact n1 _ h | exact n2 _ h | exact absurd q2 (by simp [Value.category])
theorem hk_s1_has {ls' : Array Slot} {n i : Nat} {ad : Nat → Nat} {L : hk_L} {v : Value} (h : lv_has ls' n ((i, hk_tv ad v) :: (hk_pl ad L).filter (fun q => !(q.1 == i) && !(q.1 + 1 == i && q.2.category == 2)))) : lv_has ls' n (hk_pl ad (hk_s1 i v L)) := by
  refine hk_has_sub h fun q hq => ?_
  obtain ⟨w, h1, h2⟩ := hk_pl_mem.mp hq
  rcases hk_s1_at h1 with ⟨rfl, rfl⟩ | ⟨h3, h4, h5⟩
  · exact List.mem_cons.mpr (Or.inl (by rw [← h2]))
  · refine List.mem_cons.mpr (Or.inr (List.mem_filter.mpr ⟨hk_pl_mem.mpr ⟨w, h4, h2⟩, ?_⟩))
    rw [h2, hk_tv_cat]
    simp [h3]
    exact Classical.not_and_iff_not_or_not.mp h5
theorem hk_s2_has {ls' : Array Slot} {n i : Nat} {ad : Nat → Nat} {L : hk_L} {v : Value} (h : lv_has ls' n ((i, hk_tv ad v) :: (hk_pl ad L).filter (fun q => !(q.1 == i) && (!(q.1 == i + 1) && !(q.1 + 1 == i && q.2.category == 2))))) : lv_has ls' n (hk_pl ad (hk_s2 i v L)) := by
  refine hk_has_sub h fun q hq => ?_
  obtain ⟨w, h1, h2⟩ := hk_pl_mem.mp hq
  unfold hk_s2 at h1
  have hne : q.1 ≠ i + 1 := by
    intro e
    rw [e, List.getElem?_set] at h1
    split at h1
    · split at h1 <;> cases h1
    · exact absurd rfl ‹_›
  rw [List.getElem?_set_ne (fun q => hne q.symm)] at h1
  rcases hk_s1_at h1 with ⟨rfl, rfl⟩ | ⟨h3, h4, h5⟩
  · exact List.mem_cons.mpr (Or.inl (by rw [← h2]))
  · refine List.mem_cons.mpr (Or.inr (List.mem_filter.mpr ⟨hk_pl_mem.mpr ⟨w, h4, h2⟩, ?_⟩))
    rw [h2, hk_tv_cat]
    simp [h3, hne]
    exact Classical.not_and_iff_not_or_not.mp h5
theorem hk_s2_len (i : Nat) (v : Value) (L : hk_L) : (hk_s2 i v L).length = L.length := by
  unfold hk_s2
  rw [List.length_set, hk_s1_len]
theorem hk_s1_in {i : Nat} {v w : Value} {L : hk_L} (h : some w ∈ hk_s1 i v L) : w = v ∨ some w ∈ L := by
  obtain ⟨k, hk⟩ := List.getElem?_of_mem h
  rcases hk_s1_at hk with ⟨-, e⟩ | ⟨-, e, -⟩
  · exact Or.inl e
  · exact Or.inr (List.mem_of_getElem? e)
theorem hk_s2_in {i : Nat} {v w : Value} {L : hk_L} (h : some w ∈ hk_s2 i v L) : w = v ∨ some w ∈ L := by
  unfold hk_s2 at h
  obtain ⟨k, hk⟩ := List.getElem?_of_mem h
  rw [List.getElem?_set] at hk
  split at hk
  · split at hk <;> cases hk
  · exact hk_s1_in (List.mem_of_getElem? hk)

/-! cells of the abstract heap among the machine's -/
theorem hk_map_at {α : Type} {al : List Nat} {p : Nat} (f : Nat → α) (h : p ∈ al) : ∃ k : Nat, al[k]? = some p ∧ (al.map f)[k]? = some (f p) := by
  obtain ⟨k, hk⟩ := List.getElem?_of_mem h
  exact ⟨k, hk, by rw [List.getElem?_map, hk]; rfl⟩
theorem hk_map_set {α : Type} {al : List Nat} {p k : Nat} {f g : Nat → α} (h : al[k]? = some p) (hn : ∀ i : Nat, al[i]? = some p → i = k) (hg : ∀ q, q ≠ p → g q = f q) : (al.map f).set k (g p) = al.map g := by
  apply List.ext_getElem?
  intro i
  rw [List.getElem?_set, List.getElem?_map, List.getElem?_map]
  by_cases hi : k = i
  · subst hi
    rw [if_pos rfl, h]
    have hlt : k < (al.map f).length := by rw [List.length_map]; exact (List.getElem?_eq_some_iff.mp h).1
    rw [if_pos hlt]
    rfl
  · rw [if_neg hi]
    cases ha : al[i]? with
    | none => rfl
    | some q =>
      have hq : q ≠ p := fun e => hi (hn i (by rw [ha, e])).symm
      show some (f q) = some (g q)
      rw [hg q hq]
section HKV
variable {SH : Nat → hk_Sh} {cls : List vw_C} {kd : Nat → Nat → Nat} {cI cZ cR cJ : ClassId} {ad : Nat → Nat}
theorem hk_ws_at {h : hk_H} {p : Nat} (hp : p ∈ h.2.2.2) : ∃ k : Nat, h.2.2.2[k]? = some p ∧ (hk_ws SH cls kd cI cZ cR cJ ad h)[k]? = some (ad p, hk_ce SH cls kd cI cZ cR cJ ad h p) := hk_map_at _ hp
theorem hk_ws_one {A : Nat → Prop} {h : hk_H} {p k : Nat} (hD : va_D A (hk_ws SH cls kd cI cZ cR cJ ad h)) (hk : h.2.2.2[k]? = some p) : ∀ i : Nat, h.2.2.2[i]? = some p → i = k := by
  intro i hi
  refine hD.1 i k (ad p, hk_ce SH cls kd cI cZ cR cJ ad h p) (ad p, hk_ce SH cls kd cI cZ cR cJ ad h p) ?_ ?_ rfl
  · unfold hk_ws; rw [List.getElem?_map, hi]; rfl
  · unfold hk_ws; rw [List.getElem?_map, hk]; rfl
theorem hk_ws_set {A : Nat → Prop} {h h' : hk_H} {p k : Nat} (hD : va_D A (hk_ws SH cls kd cI cZ cR cJ ad h)) (hk : h.2.2.2[k]? = some p) (ha : h'.2.2.2 = h.2.2.2) (hg : ∀ q, q ≠ p → hk_ce SH cls kd cI cZ cR cJ ad h' q = hk_ce SH cls kd cI cZ cR cJ ad h q) : (hk_ws SH cls kd cI cZ cR cJ ad h).set k (ad p, hk_ce SH cls kd cI cZ cR cJ ad h' p) = hk_ws SH cls kd cI cZ cR cJ ad h' := by
  unfold hk_ws
  rw [ha]
  exact hk_map_set (f := fun p => (ad p, hk_ce SH cls kd cI cZ cR cJ ad h p)) (g := fun p => (ad p, hk_ce SH cls kd cI cZ cR cJ ad h' p)) hk (hk_ws_one hD hk) (fun q hq => by rw [hg q hq])
/-- a cell is what its place's numbers and references are -/
theorem hk_ce_eq {h h' : hk_H} {ad' : Nat → Nat} {q : Nat} (h1 : h'.1 q = h.1 q) (h2 : h'.2.1 q = h.2.1 q) (h3 : ∀ k, hk_rf ad' (h'.2.2.1 q k) = hk_rf ad (h.2.2.1 q k)) : hk_ce SH cls kd cI cZ cR cJ ad' h' q = hk_ce SH cls kd cI cZ cR cJ ad h q := by
  unfold hk_ce
  split
  · congr 2
    apply List.map_congr_left
    intro k _
    unfold hk_fv
    split
    · rw [h3]
    · rw [h1]
  · rw [h1]
  · rw [h1]
  · simp only [h3]
  · rw [h2]
  · rfl
theorem hk_ws_push {h : hk_H} {p a : Nat} (hp : p ∉ h.2.2.2) (hw : hk_wf h) : hk_ws SH cls kd cI cZ cR cJ (fun q => if q = p then a else ad q) (hk_nw h p) = hk_ws SH cls kd cI cZ cR cJ ad h ++ [(a, hk_ce SH cls kd cI cZ cR cJ (fun q => if q = p then a else ad q) (hk_nw h p) p)] := by
  unfold hk_ws
  show List.map _ (h.2.2.2 ++ [p]) = _
  rw [List.map_append]
  congr 1
  · apply List.map_congr_left
    intro q hq
    have hqp : q ≠ p := fun e => hp (e ▸ hq)
    show ((if q = p then a else ad q), _) = _
    rw [if_neg hqp]
    congr 1
    refine hk_ce_eq ?_ ?_ ?_
    · simp [hk_nw, hk_z, hqp]
    · simp [hk_nw, hk_z, hqp]
    · intro k
      simp only [hk_nw, hk_z, if_neg hqp]
      rcases hw q hq k with e | e
      · rw [e]; rfl
      · have hr : h.2.2.1 q k ≠ p := fun e2 => hp (e2 ▸ e)
        cases hz : h.2.2.1 q k with
        | zero => rfl
        | succ z =>
          rw [hz] at hr
          simp only [hk_rf]
          rw [if_neg hr]
  · simp
end HKV
end
section
/-! ===== what the abstract machine answers, the machine answers ===== -/
section HKD
variable (SH : Nat → hk_Sh) (pb big ch : Nat) (cls : List vw_C) (kd : Nat → Nat → Nat) (wl : List Jvm.Cond) (mt : Nat → Option hk_Q) (hn : String) (sc : Nat)
def hk_Mok (q : hk_Q) : Prop :=
  plainName q.1.cls = true ∧ (q.1.cls ≠ "java/lang/invoke/MethodHandle" ∧ q.1.cls ≠ "java/lang/invoke/VarHandle") ∧ .code q.1 q.2.1 q.2.2.1 q.2.2.2.1 ∈ wl ∧ .initialized q.1.cls ∈ wl ∧
  (q.2.2.2.2.1.2.1 = 0 → .instanceMethod q.1 ∈ wl ∧ .selects q.1.cls q.1 q.1 ∈ wl ∧ 1 ≤ q.2.2.2.2.1.1) ∧ (q.2.2.2.2.1.2.1 = 1 → q.1.name = "<init>" ∧ .instanceMethod q.1 ∈ wl ∧ q.2.2.2.1 = none ∧ 1 ≤ q.2.2.2.2.1.1) ∧ (q.2.2.2.2.1.2.1 = 2 → .static q.1 ∈ wl) ∧
  q.2.2.1 ≤ 40 ∧ (parseMethodDescriptor q.1.desc).map (fun d => d.parameters.length) = some (match q.2.2.2.2.1.2.1 with
    | 2 => q.2.2.2.2.1.1
    | _ => q.2.2.2.2.1.1 - 1) ∧
  (q.2.2.2.1 = none ∨ q.2.2.2.1 = some .int ∨ q.2.2.2.1 = some .boolean ∨ q.2.2.2.1 = some .long) ∧
  (∀ e ∈ q.2.2.2.2.2, decode q.2.1 e.1 = .ok (e.2.1, e.2.2.1) ∧ hk_iok cls kd wl mt hn q.1.cls (decide (q.1.name = "<init>")) (hk_rk q.2.2.2.1) q.2.2.1 e.1 e.2.1 e.2.2.1 e.2.2.2.2.1.1 e.2.2.2.2.1.2.1 e.2.2.2.2.1.2.2.1 e.2.2.2.2.1.2.2.2 e.2.2.2.2.2.1 e.2.2.2.2.2.2.1 e.2.2.2.2.2.2.2 = true) ∧ hk_seq q.2.2.2.2.2 = true ∧ (match q.2.2.2.2.2 with | [] => true | e :: _ => decide (e.1 = 0)) = true
def hk_Cok : Prop := ∀ (ci : Nat) (q : vw_C), cls[ci]? = some q → (∀ w ∈ u_ws q.1 q.2.1 q.2.2, w ∈ wl) ∧ (∃ ty : Nat → FieldType, (∀ k, k < q.2.2 → parseFieldDescriptor (q.2.1 k).2.2.1 = some (ty k)) ∧ ∀ k, k < q.2.2 → (kd ci k = 0 → ty k = .int) ∧ (kd ci k = 1 → (∃ o, ty k = .object o) ∨ ∃ o, ty k = .array o) ∧ (kd ci k = 2 → ty k = .boolean) ∧ kd ci k ≤ 2) ∧ (∀ a, a < q.2.2 → ∀ b, b < q.2.2 → a ≠ b → (q.2.1 a).2.1 ≠ (q.2.1 b).2.1)
def hk_T : Prop :=
  hk_Cok cls kd wl ∧ (∀ (p n : Nat), SH p = (1, n) → ∃ q, cls[n]? = some q) ∧ (∀ (p n : Nat), SH p = (6, n) → p = sc) ∧ (∃ n, SH sc = (6, n)) ∧ (∃ q, cls[ch]? = some q ∧ q.1 = hn) ∧ (∀ w ∈ wl, goodWord w = true) ∧
  (.arrayClass .int ∈ wl ∧ .arrayClass .boolean ∈ wl ∧ .arrayClass .long ∈ wl ∧ True) ∧ (.instanceMethod Lib.objectInit ∈ wl ∧ .code Lib.objectInit ⟨#[0xb1]⟩ 1 none ∈ wl) ∧ (.native arraycopyName ∈ wl ∧ .static arraycopyName ∈ wl ∧ .initialized "java/lang/System" ∈ wl) ∧ (∀ (y : Nat) (q : hk_Q), mt y = some q → hk_Mok cls kd wl mt hn q)
/-- the words that a method's contract asks for: its own code first -/
def hk_mw (q : hk_Q) : List Jvm.Cond := .code q.1 q.2.1 q.2.2.1 q.2.2.2.1 :: wl
def hk_rm (d : Nat) (h h' : hk_H) : Room := { frames := d, cells := h'.2.2.2.length - h.2.2.2.length, slots := hk_sl SH cls h'.2.2.2 - hk_sl SH cls h.2.2.2, locals := 64 * d + 1000 }
def hk_ag (ad u : Nat → Nat) (al : List Nat) : Prop := ∀ q, q ∈ al ∨ q = sc → u q = ad q
variable (D : va_G) (cI cZ cR cJ : ClassId) (ad : Nat → Nat) (sz : Nat)
def hk_B (h' : hk_H) (A : Nat → Prop) (u : Nat → Nat) (t : State) : Prop := va_P D cls (hk_ws SH cls kd cI cZ cR cJ u h') t.heap ∧ va_K D cls (hk_tys cI cZ cR cJ hn) t ∧ va_D A (hk_ws SH cls kd cI cZ cR cJ u h')
def hk_Qc (h h' : hk_H) (r : Option Value) : Array Value → State → Outcome → State → Prop := match r with
  | none => va_Qv (fun u => hk_ag sc ad u h.2.2.2 ∧ hk_wf h') (hk_B SH cls kd hn D cI cZ cR cJ h' (va_A (hk_ws SH cls kd cI cZ cR cJ ad h) sz)) (va_A (hk_ws SH cls kd cI cZ cR cJ ad h) sz)
  | some (.int x) => va_Qi (fun y u => y = x ∧ hk_ag sc ad u h.2.2.2 ∧ hk_wf h') (hk_B SH cls kd hn D cI cZ cR cJ h' (va_A (hk_ws SH cls kd cI cZ cR cJ ad h) sz)) (va_A (hk_ws SH cls kd cI cZ cR cJ ad h) sz)
  | some (.long x) => va_Ql (fun y u => y = x ∧ hk_ag sc ad u h.2.2.2 ∧ hk_wf h') (hk_B SH cls kd hn D cI cZ cR cJ h' (va_A (hk_ws SH cls kd cI cZ cR cJ ad h) sz)) (va_A (hk_ws SH cls kd cI cZ cR cJ ad h) sz)
  | _ => fun _ _ _ _ => False
def hk_Pc (a : List Value) (h : hk_H) : Array Value → State → Prop := va_Pc (a.map (hk_tv ad)) (fun U => U.heap.size = sz ∧ va_P D cls (hk_ws SH cls kd cI cZ cR cJ ad h) U.heap ∧ va_K D cls (hk_tys cI cZ cR cJ hn) U ∧ va_D (fun _ => True) (hk_ws SH cls kd cI cZ cR cJ ad h) ∧ va_AO hn U)
/-- method y, called so on h, answers r and leaves h': its contract -/
def hk_MetOK (l : Launch) (d y : Nat) (a : List Value) (h : hk_H) (r : Option Value) (h' : hk_H) : Prop :=
  ∀ q, mt y = some q → hk_wf h → (∀ v ∈ a, hk_vo sc h.2.2.2 v) → a.length = q.2.2.2.2.1.1 ∧
  ∀ (D : va_G) (cI cZ cR cJ : ClassId) (ad : Nat → Nat) (sz : Nat), Met l q.1 (hk_mw wl q) (hk_rm SH cls d h h') (hk_Pc SH cls kd hn D cI cZ cR cJ ad sz a h) (hk_Qc SH cls kd hn sc D cI cZ cR cJ ad sz h h' r) (h'.2.2.2.length - h.2.2.2.length) (hk_sl SH cls h'.2.2.2 - hk_sl SH cls h.2.2.2) (va_A (hk_ws SH cls kd cI cZ cR cJ ad h) sz)
end HKD

theorem hk_Pc_blind {SH : Nat → hk_Sh} {cls : List vw_C} {kd : Nat → Nat → Nat} {hn : String} {D : va_G} {cI cZ cR cJ : ClassId} {ad : Nat → Nat} {sz : Nat} {a : List Value} {h : hk_H} : FrameBlind (hk_Pc SH cls kd hn D cI cZ cR cJ ad sz a h) := fun a U g mk q => by
  obtain ⟨q0, q1, qP, qK, qD, qA⟩ := q
  exact ⟨q0, q1, qP, va_K.moved (u := U) (U := U.calling g mk a) (Vm.Alike.refl U.vm) qK, qD, va_AO.moved (u := U) (U := U.calling g mk a) (Vm.Alike.refl U.vm) qA⟩
theorem hk_tv_congr {ad u : Nat → Nat} {al : List Nat} {sc : Nat} (hu : hk_ag sc ad u al) {v : Value} (hv : hk_vo sc al v) : hk_tv u v = hk_tv ad v := by
  cases v <;> first | rfl | exact congrArg Value.ref (hu _ hv)
theorem hk_map_congr {ad u : Nat → Nat} {al : List Nat} {sc : Nat} (hu : hk_ag sc ad u al) {st : List Value} (hv : ∀ v ∈ st, hk_vo sc al v) : st.map (hk_tv u) = st.map (hk_tv ad) := List.map_congr_left fun v h => hk_tv_congr hu (hv v h)
theorem hk_fmc {α β : Type} {f g : α → Option β} : ∀ l : List α, (∀ x ∈ l, f x = g x) → l.filterMap f = l.filterMap g
  | [], _ => rfl
  | x :: r, h => by
    rw [List.filterMap_cons, List.filterMap_cons, h x List.mem_cons_self, hk_fmc r fun y hy => h y (List.mem_cons_of_mem _ hy)]
theorem hk_pl_congr {ad u : Nat → Nat} {al : List Nat} {sc : Nat} (hu : hk_ag sc ad u al) {L : hk_L} (hv : ∀ v, some v ∈ L → hk_vo sc al v) : hk_pl u L = hk_pl ad L := by
  unfold hk_pl
  refine hk_fmc _ fun q hq => ?_
  obtain ⟨o, k⟩ := q
  cases o with
  | none => rfl
  | some v =>
    have hm : some v ∈ L := by
      rw [List.mem_zipIdx_iff_getElem?] at hq
      exact List.mem_of_getElem? hq
    show some (k, hk_tv u v) = some (k, hk_tv ad v)
    rw [hk_tv_congr hu (hv v hm)]
theorem hk_vo_ge {sc : Nat} {h h' : hk_H} (hg : hk_ge h h') {v : Value} (hv : hk_vo sc h.2.2.2 v) : hk_vo sc h'.2.2.2 v := by
  obtain ⟨x, hx⟩ := hg
  cases v <;> first | trivial | (rcases hv with e | e
                                 · exact Or.inl (by rw [hx]; exact List.mem_append_left _ e)
                                 · exact Or.inr e)
theorem hk_sl_app (SH : Nat → hk_Sh) (cls : List vw_C) (a b : List Nat) : hk_sl SH cls (a ++ b) = hk_sl SH cls a + hk_sl SH cls b := by
  unfold hk_sl
  rw [List.map_append, List.sum_append]
theorem hk_ge_len {h h' : hk_H} (hg : hk_ge h h') : h.2.2.2.length ≤ h'.2.2.2.length := by
  obtain ⟨x, hx⟩ := hg
  rw [hx, List.length_append]
  omega
theorem hk_ge_sl {SH : Nat → hk_Sh} {cls : List vw_C} {h h' : hk_H} (hg : hk_ge h h') : hk_sl SH cls h.2.2.2 ≤ hk_sl SH cls h'.2.2.2 := by
  obtain ⟨x, hx⟩ := hg
  rw [hx, hk_sl_app]
  omega
theorem hk_is_eq {s : hk_Sh} {k n : Nat} (h : hk_is s k n = true) : s = (k, n) := by
  obtain ⟨a, b⟩ := s
  unfold hk_is at h
  rw [Bool.and_eq_true] at h
  have h1 := Nat.eq_of_beq_eq_true h.1
  have h2 := Nat.eq_of_beq_eq_true h.2
  simp only at h1 h2
  rw [h1, h2]
theorem hk_mem_ge {h h' : hk_H} (hg : hk_ge h h') {z : Nat} (hz : z ∈ h.2.2.2) : z ∈ h'.2.2.2 := by
  obtain ⟨x, hx⟩ := hg
  rw [hx]
  exact List.mem_append_left _ hz
end
section
/-! ===== each instruction ===== -/
section HKI
variable {SH : Nat → hk_Sh} {pb big ch : Nat} {cls : List vw_C} {kd : Nat → Nat → Nat} {wl : List Jvm.Cond} {mt : Nat → Option hk_Q} {hn : String} {sc : Nat}
variable {p : Program} {l : Launch} {e : Env} {R : Room} {s : State} {m : MethodId} {args : Array Value} {below : List Frame} {meth : Method} {c : Code} {Q : State → Prop}
variable {D : va_G} {cI cZ cR cJ : ClassId} {A : Nat → Prop} {H0 : Heap} {b0 mx n0 s0 : Nat} {ad0 : Nat → Nat} {al0 : List Nat} {own : String} {cc : ByteArray} {scr : Option (Nat × (Nat → Int32))} {cl : Nat → List Value → hk_H → hk_O}
/-- the abstract state and the machine's agree -/
def hk_R (SH : Nat → hk_Sh) (cls : List vw_C) (kd : Nat → Nat → Nat) (sc : Nat) (D : va_G) (cI cZ cR cJ : ClassId) (A : Nat → Prop) (H0 : Heap) (b0 : Nat) (ad0 : Nat → Nat) (al0 : List Nat) (mx n0 s0 : Nat) (ad : Nat → Nat) (h : hk_H) (H : Heap) (locs : List Loc) (ls : Array Slot) (L : hk_L) (st : List Value) : Prop :=
  va_P D cls (hk_ws SH cls kd cI cZ cR cJ ad h) H ∧ va_D A (hk_ws SH cls kd cI cZ cR cJ ad h) ∧ va_S A H0 H locs ∧ hk_wf h ∧ lv_has ls mx (hk_pl ad L) ∧ L.length = mx ∧ (∀ v ∈ st, hk_vo sc h.2.2.2 v) ∧ (∀ v, some v ∈ L → hk_vo sc h.2.2.2 v) ∧ (ad sc = b0 ∧ hk_ag sc ad0 ad al0 ∧ ∀ z ∈ al0, z ∈ h.2.2.2) ∧ n0 ≤ h.2.2.2.length ∧ s0 ≤ hk_sl SH cls h.2.2.2
/-- the goal at a frame -/
def hk_G (SH : Nat → hk_Sh) (cls : List vw_C) (p : Program) (l : Launch) (e : Env) (R : Room) (s : State) (m : MethodId) (args : Array Value) (below : List Frame) (meth : Method) (c : Code) (Q : State → Prop) (n0 s0 : Nat) (ad : Nat → Nat) (h : hk_H) (H : Heap) (locs : List Loc) (pc : Nat) (ls : Array Slot) (st : List Value) : Prop :=
  W p l e R s m args below meth c H locs (h.2.2.2.length - n0) (hk_sl SH cls h.2.2.2 - s0) Q (F0 m pc ls (st.map (hk_tv ad)))
/-- what goes on behind a step -/
def hk_K (SH : Nat → hk_Sh) (cls : List vw_C) (kd : Nat → Nat → Nat) (sc : Nat) (D : va_G) (cI cZ cR cJ : ClassId) (A : Nat → Prop) (H0 : Heap) (b0 : Nat) (ad0 : Nat → Nat) (al0 : List Nat) (mx n0 s0 : Nat) (p : Program) (l : Launch) (e : Env) (R : Room) (s : State) (m : MethodId) (args : Array Value) (below : List Frame) (meth : Method) (c : Code) (Q : State → Prop) (pc : Nat) (L : hk_L) (st : List Value) (h : hk_H) : Prop :=
  ∀ (ad : Nat → Nat) (H : Heap) (locs : List Loc) (ls : Array Slot), hk_R SH cls kd sc D cI cZ cR cJ A H0 b0 ad0 al0 mx n0 s0 ad h H locs ls L st → hk_G SH cls p l e R s m args below meth c Q n0 s0 ad h H locs pc ls st
theorem hk_R.stk {ad : Nat → Nat} {h : hk_H} {H : Heap} {locs : List Loc} {ls : Array Slot} {L : hk_L} {st st' : List Value} (r : hk_R SH cls kd sc D cI cZ cR cJ A H0 b0 ad0 al0 mx n0 s0 ad h H locs ls L st) (hs : ∀ v ∈ st', hk_vo sc h.2.2.2 v) : hk_R SH cls kd sc D cI cZ cR cJ A H0 b0 ad0 al0 mx n0 s0 ad h H locs ls L st' := by
  obtain ⟨a1, a2, a3, a4, a5, a6, a7, a8, a9⟩ := r
  exact ⟨a1, a2, a3, a4, a5, a6, hs, a8, a9⟩
theorem hk_R.st1 {ad : Nat → Nat} {h : hk_H} {H : Heap} {locs : List Loc} {ls ls' : Array Slot} {L : hk_L} {st st' : List Value} {i : Nat} {v : Value} (r : hk_R SH cls kd sc D cI cZ cR cJ A H0 b0 ad0 al0 mx n0 s0 ad h H locs ls L st) (hl : lv_has ls' mx ((i, hk_tv ad v) :: (hk_pl ad L).filter (fun q => !(q.1 == i) && !(q.1 + 1 == i && q.2.category == 2)))) (hv : hk_vo sc h.2.2.2 v) (hs : ∀ v ∈ st', hk_vo sc h.2.2.2 v) : hk_R SH cls kd sc D cI cZ cR cJ A H0 b0 ad0 al0 mx n0 s0 ad h H locs ls' (hk_s1 i v L) st' := by
  obtain ⟨a1, a2, a3, a4, a5, a6, a7, a8, a9⟩ := r
  refine ⟨a1, a2, a3, a4, hk_s1_has hl, by rw [hk_s1_len]; exact a6, hs, fun w hw => ?_, a9⟩
  rcases hk_s1_in hw with rfl | h1
  · exact hv
  · exact a8 w h1
theorem hk_R.st2 {ad : Nat → Nat} {h : hk_H} {H : Heap} {locs : List Loc} {ls ls' : Array Slot} {L : hk_L} {st st' : List Value} {i : Nat} {v : Value} (r : hk_R SH cls kd sc D cI cZ cR cJ A H0 b0 ad0 al0 mx n0 s0 ad h H locs ls L st) (hl : lv_has ls' mx ((i, hk_tv ad v) :: (hk_pl ad L).filter (fun q => !(q.1 == i) && (!(q.1 == i + 1) && !(q.1 + 1 == i && q.2.category == 2))))) (hv : hk_vo sc h.2.2.2 v) (hs : ∀ v ∈ st', hk_vo sc h.2.2.2 v) : hk_R SH cls kd sc D cI cZ cR cJ A H0 b0 ad0 al0 mx n0 s0 ad h H locs ls' (hk_s2 i v L) st' := by
  obtain ⟨a1, a2, a3, a4, a5, a6, a7, a8, a9⟩ := r
  refine ⟨a1, a2, a3, a4, hk_s2_has hl, by rw [hk_s2_len]; exact a6, hs, fun w hw => ?_, a9⟩
  rcases hk_s2_in hw with rfl | h1
  · exact hv
  · exact a8 w h1
theorem hk_R.hp {ad : Nat → Nat} {h h' : hk_H} {H H' : Heap} {locs locs' : List Loc} {ls : Array Slot} {L : hk_L} {st st' : List Value} (r : hk_R SH cls kd sc D cI cZ cR cJ A H0 b0 ad0 al0 mx n0 s0 ad h H locs ls L st) (hP : va_P D cls (hk_ws SH cls kd cI cZ cR cJ ad h') H') (hD : va_D A (hk_ws SH cls kd cI cZ cR cJ ad h')) (hS : va_S A H0 H' locs') (hw : hk_wf h') (ha : h'.2.2.2 = h.2.2.2) (hs : ∀ v ∈ st', hk_vo sc h.2.2.2 v) : hk_R SH cls kd sc D cI cZ cR cJ A H0 b0 ad0 al0 mx n0 s0 ad h' H' locs' ls L st' := by
  obtain ⟨a1, a2, a3, a4, a5, a6, a7, a8, a9, a10, a11⟩ := r
  exact ⟨hP, hD, hS, hw, a5, a6, by rw [ha]; exact hs, by rw [ha]; exact a8, ⟨a9.1, a9.2.1, by rw [ha]; exact a9.2.2⟩, by rw [ha]; exact a10, by rw [ha]; exact a11⟩
theorem hk_vo2 {al : List Nat} {v w : Value} {r : List Value} (h : ∀ x ∈ v :: w :: r, hk_vo sc al x) : hk_vo sc al v ∧ hk_vo sc al w ∧ ∀ x ∈ r, hk_vo sc al x := ⟨h v (by simp), h w (by simp), fun x hx => h x (by simp [hx])⟩
theorem hk_voc {al : List Nat} {v : Value} {r : List Value} (hv : hk_vo sc al v) (hr : ∀ x ∈ r, hk_vo sc al x) : ∀ x ∈ v :: r, hk_vo sc al x := fun x hx => by
  rcases List.mem_cons.mp hx with rfl | h
  · exact hv
  · exact hr x h
theorem hk_vot {al : List Nat} {v : Value} {r : List Value} (h : ∀ x ∈ v :: r, hk_vo sc al x) : hk_vo sc al v ∧ ∀ x ∈ r, hk_vo sc al x := ⟨h v (by simp), fun x hx => h x (by simp [hx])⟩
theorem hk_aliv {al : List Nat} {q n k : Nat} (hS : ∃ n, SH sc = (6, n)) (hv : hk_vo sc al (.ref q)) (hq : SH q = (k, n)) (hk : k ≠ 6) : q ∈ al := by
  rcases hv with h | h
  · exact h
  · subst h
    obtain ⟨n', h'⟩ := hS
    rw [h'] at hq
    cases hq
    exact absurd rfl hk
/-- the branches of a compare -/
theorem hk_cmp_snd {X : hk_O} {cnd : ClassFile.Cond} {x y : Int32} {a1 a2 : hk_O} (he : hk_cmp (fun P d k0 k1 => @ite _ P d k0 k1) cnd x y a1 a2 = X) : (match cnd with
    | .eq => x = y
    | .ne => ¬ x = y
    | .lt => x < y
    | .ge => y ≤ x
    | .gt => y < x
    | .le => x ≤ y) ∧ a1 = X ∨ (¬ (match cnd with
    | .eq => x = y
    | .ne => ¬ x = y
    | .lt => x < y
    | .ge => y ≤ x
    | .gt => y < x
    | .le => x ≤ y)) ∧ a2 = X := by
  cases cnd <;> simp only [hk_cmp] at he ⊢ <;> split at he <;> simp_all
end HKI
end
section
/-! ===== a step of the abstract machine is a step of the machine ===== -/
section HKJ
variable {SH : Nat → hk_Sh} {pb big ch : Nat} {cls : List vw_C} {kd : Nat → Nat → Nat} {wl : List Jvm.Cond} {mt : Nat → Option hk_Q} {hn : String} {sc : Nat}
variable {p : Program} {l : Launch} {e : Env} {R : Room} {s : State} {m : MethodId} {args : Array Value} {below : List Frame} {meth : Method} {c : Code} {Q : State → Prop}
variable {D : va_G} {cI cZ cR cJ : ClassId} {A : Nat → Prop} {H0 : Heap} {b0 mx n0 s0 dd : Nat} {ad0 : Nat → Nat} {al0 : List Nat} {own : String} {cc : ByteArray} {scr : Option (Nat × (Nat → Int32))} {cl : Nat → List Value → hk_H → hk_O}
/-- what a frame's run stands on -/
def hk_Fx (SH : Nat → hk_Sh) (ch : Nat) (cls : List vw_C) (kd : Nat → Nat → Nat) (wl : List Jvm.Cond) (mt : Nat → Option hk_Q) (hn : String) (sc : Nat) (p : Program) (l : Launch) (R : Room) (s : State) (m : MethodId) (args : Array Value) (meth : Method) (c : Code) (D : va_G) (cI cZ cR cJ : ClassId) (A : Nat → Prop) (H0 : Heap) (b0 mx dd : Nat) (own : String) (cc : ByteArray) (scr : Option (Nat × (Nat → Int32))) (cl : Nat → List Value → hk_H → hk_O) (ini : Bool) : Prop :=
  hk_T SH ch cls kd wl mt hn sc ∧ p.tables.exec = Jvm.exec ∧ c.code = cc ∧ c.maxLocals = mx ∧ s.vm.findClass own = some m.cls ∧ (∀ w ∈ wl, w.before args s = true) ∧ va_K D cls (hk_tys cI cZ cR cJ hn) s ∧ (∀ q, H0.size ≤ q → A q) ∧ (ini = true → meth.name = "<init>") ∧ (∀ q, scr = some q → va_X b0 q.1 q.2 s H0 ∧ b0 < H0.size ∧ ¬ A b0) ∧ (∀ y a h r h', cl y a h = some (r, h') → hk_MetOK SH cls kd wl mt hn sc l dd y a h r h') ∧ (∀ y a h q, cl y a h = some q → hk_ge h q.2) ∧ dd + 1 ≤ R.frames ∧ 64 * dd + 1064 ≤ R.locals ∧ va_AO hn s

set_option maxHeartbeats 1000000 in
theorem hk_z_iconst {ini : Bool} {rk : Nat} (FX : hk_Fx SH ch cls kd wl mt hn sc p l R s m args meth c D cI cZ cR cJ A H0 b0 mx dd own cc scr cl ini) {pc len a b c1 d : Nat} {v : Int32} {w : Int64} {sw : List (Int32 × Nat)} {i : Int} (hdg : decode cc pc = .ok (.iconst i, len)) (hck : hk_iok cls kd wl mt hn own ini rk mx pc (.iconst i) len a b c1 d v w sw = true) {nxr : hk_L → List Value → hk_H → hk_O} {jmr : Nat → hk_L → List Value → hk_H → hk_O} {qf : Option Value × hk_H} (hnx : ∀ L st h, nxr L st h = some qf → hk_K SH cls kd sc D cI cZ cR cJ A H0 b0 ad0 al0 mx n0 s0 p l e R s m args below meth c Q (pc + len) L st h) (hjm : ∀ t L st h, jmr t L st h = some qf → hk_K SH cls kd sc D cI cZ cR cJ A H0 b0 ad0 al0 mx n0 s0 p l e R s m args below meth c Q t L st h)  {L : hk_L} {st : List Value} {h : hk_H} (hrun : hk_stp SH pb big none nxr jmr (fun P d k => @ite _ P d k none) (fun P d k0 k1 => @ite _ P d k0 k1) (fun y a h k => (cl y a h).bind (fun q => k q.1 q.2)) (fun r h => some (r, h)) scr ch (.iconst i) a c1 d v w sw L st h = some qf) : hk_K SH cls kd sc D cI cZ cR cJ A H0 b0 ad0 al0 mx n0 s0 p l e R s m args below meth c Q pc L st h := by
  obtain ⟨TB, hx, hb, hml, hown, hts, hK, hA, hin, hX, hcl, hge, hR1, hR2, hAO⟩ := FX
  intro ad H locs ls r
  obtain ⟨hP, hD, hS, hwf, hlv, hlen, hsv, hLv, hadb, hn0, hs0⟩ := id r
  unfold hk_G
  have go : ∀ {st' : List Value}, nxr L st' h = some qf → (∀ v ∈ st', hk_vo sc h.2.2.2 v) → hk_G SH cls p l e R s m args below meth c Q n0 s0 ad h H locs (pc + len) ls st' := fun h1 h2 => hnx _ _ _ h1 _ _ _ _ (r.stk h2)
  have gj : ∀ {t : Nat} {st' : List Value}, jmr t L st' h = some qf → (∀ v ∈ st', hk_vo sc h.2.2.2 v) → hk_G SH cls p l e R s m args below meth c Q n0 s0 ad h H locs t ls st' := fun h1 h2 => hjm _ _ _ _ h1 _ _ _ _ (r.stk h2)
  unfold hk_G at go gj
  simp only [hk_iok, Bool.and_eq_true, decide_eq_true_eq] at hck
  simp only [hk_stp] at hrun
  obtain ⟨rfl, hv⟩ := hck
  exact lv_iconst hx hb hdg hv (go hrun (hk_voc trivial hsv))

set_option maxHeartbeats 1000000 in
theorem hk_z_bipush {ini : Bool} {rk : Nat} (FX : hk_Fx SH ch cls kd wl mt hn sc p l R s m args meth c D cI cZ cR cJ A H0 b0 mx dd own cc scr cl ini) {pc len a b c1 d : Nat} {v : Int32} {w : Int64} {sw : List (Int32 × Nat)} {i : Int} (hdg : decode cc pc = .ok (.bipush i, len)) (hck : hk_iok cls kd wl mt hn own ini rk mx pc (.bipush i) len a b c1 d v w sw = true) {nxr : hk_L → List Value → hk_H → hk_O} {jmr : Nat → hk_L → List Value → hk_H → hk_O} {qf : Option Value × hk_H} (hnx : ∀ L st h, nxr L st h = some qf → hk_K SH cls kd sc D cI cZ cR cJ A H0 b0 ad0 al0 mx n0 s0 p l e R s m args below meth c Q (pc + len) L st h) (hjm : ∀ t L st h, jmr t L st h = some qf → hk_K SH cls kd sc D cI cZ cR cJ A H0 b0 ad0 al0 mx n0 s0 p l e R s m args below meth c Q t L st h)  {L : hk_L} {st : List Value} {h : hk_H} (hrun : hk_stp SH pb big none nxr jmr (fun P d k => @ite _ P d k none) (fun P d k0 k1 => @ite _ P d k0 k1) (fun y a h k => (cl y a h).bind (fun q => k q.1 q.2)) (fun r h => some (r, h)) scr ch (.bipush i) a c1 d v w sw L st h = some qf) : hk_K SH cls kd sc D cI cZ cR cJ A H0 b0 ad0 al0 mx n0 s0 p l e R s m args below meth c Q pc L st h := by
  obtain ⟨TB, hx, hb, hml, hown, hts, hK, hA, hin, hX, hcl, hge, hR1, hR2, hAO⟩ := FX
  intro ad H locs ls r
  obtain ⟨hP, hD, hS, hwf, hlv, hlen, hsv, hLv, hadb, hn0, hs0⟩ := id r
  unfold hk_G
  have go : ∀ {st' : List Value}, nxr L st' h = some qf → (∀ v ∈ st', hk_vo sc h.2.2.2 v) → hk_G SH cls p l e R s m args below meth c Q n0 s0 ad h H locs (pc + len) ls st' := fun h1 h2 => hnx _ _ _ h1 _ _ _ _ (r.stk h2)
  have gj : ∀ {t : Nat} {st' : List Value}, jmr t L st' h = some qf → (∀ v ∈ st', hk_vo sc h.2.2.2 v) → hk_G SH cls p l e R s m args below meth c Q n0 s0 ad h H locs t ls st' := fun h1 h2 => hjm _ _ _ _ h1 _ _ _ _ (r.stk h2)
  unfold hk_G at go gj
  simp only [hk_iok, Bool.and_eq_true, decide_eq_true_eq] at hck
  simp only [hk_stp] at hrun
  obtain ⟨rfl, hv⟩ := hck
  exact lv_bipush hx hb hdg hv (go hrun (hk_voc trivial hsv))

set_option maxHeartbeats 1000000 in
theorem hk_z_sipush {ini : Bool} {rk : Nat} (FX : hk_Fx SH ch cls kd wl mt hn sc p l R s m args meth c D cI cZ cR cJ A H0 b0 mx dd own cc scr cl ini) {pc len a b c1 d : Nat} {v : Int32} {w : Int64} {sw : List (Int32 × Nat)} {i : Int} (hdg : decode cc pc = .ok (.sipush i, len)) (hck : hk_iok cls kd wl mt hn own ini rk mx pc (.sipush i) len a b c1 d v w sw = true) {nxr : hk_L → List Value → hk_H → hk_O} {jmr : Nat → hk_L → List Value → hk_H → hk_O} {qf : Option Value × hk_H} (hnx : ∀ L st h, nxr L st h = some qf → hk_K SH cls kd sc D cI cZ cR cJ A H0 b0 ad0 al0 mx n0 s0 p l e R s m args below meth c Q (pc + len) L st h) (hjm : ∀ t L st h, jmr t L st h = some qf → hk_K SH cls kd sc D cI cZ cR cJ A H0 b0 ad0 al0 mx n0 s0 p l e R s m args below meth c Q t L st h)  {L : hk_L} {st : List Value} {h : hk_H} (hrun : hk_stp SH pb big none nxr jmr (fun P d k => @ite _ P d k none) (fun P d k0 k1 => @ite _ P d k0 k1) (fun y a h k => (cl y a h).bind (fun q => k q.1 q.2)) (fun r h => some (r, h)) scr ch (.sipush i) a c1 d v w sw L st h = some qf) : hk_K SH cls kd sc D cI cZ cR cJ A H0 b0 ad0 al0 mx n0 s0 p l e R s m args below meth c Q pc L st h := by
  obtain ⟨TB, hx, hb, hml, hown, hts, hK, hA, hin, hX, hcl, hge, hR1, hR2, hAO⟩ := FX
  intro ad H locs ls r
  obtain ⟨hP, hD, hS, hwf, hlv, hlen, hsv, hLv, hadb, hn0, hs0⟩ := id r
  unfold hk_G
  have go : ∀ {st' : List Value}, nxr L st' h = some qf → (∀ v ∈ st', hk_vo sc h.2.2.2 v) → hk_G SH cls p l e R s m args below meth c Q n0 s0 ad h H locs (pc + len) ls st' := fun h1 h2 => hnx _ _ _ h1 _ _ _ _ (r.stk h2)
  have gj : ∀ {t : Nat} {st' : List Value}, jmr t L st' h = some qf → (∀ v ∈ st', hk_vo sc h.2.2.2 v) → hk_G SH cls p l e R s m args below meth c Q n0 s0 ad h H locs t ls st' := fun h1 h2 => hjm _ _ _ _ h1 _ _ _ _ (r.stk h2)
  unfold hk_G at go gj
  simp only [hk_iok, Bool.and_eq_true, decide_eq_true_eq] at hck
  simp only [hk_stp] at hrun
  obtain ⟨rfl, hv⟩ := hck
  exact lv_sipush hx hb hdg hv (go hrun (hk_voc trivial hsv))

set_option maxHeartbeats 1000000 in
theorem hk_z_ldc {ini : Bool} {rk : Nat} (FX : hk_Fx SH ch cls kd wl mt hn sc p l R s m args meth c D cI cZ cR cJ A H0 b0 mx dd own cc scr cl ini) {pc len a b c1 d : Nat} {v : Int32} {w : Int64} {sw : List (Int32 × Nat)} {i : Nat} (hdg : decode cc pc = .ok (.ldc i, len)) (hck : hk_iok cls kd wl mt hn own ini rk mx pc (.ldc i) len a b c1 d v w sw = true) {nxr : hk_L → List Value → hk_H → hk_O} {jmr : Nat → hk_L → List Value → hk_H → hk_O} {qf : Option Value × hk_H} (hnx : ∀ L st h, nxr L st h = some qf → hk_K SH cls kd sc D cI cZ cR cJ A H0 b0 ad0 al0 mx n0 s0 p l e R s m args below meth c Q (pc + len) L st h) (hjm : ∀ t L st h, jmr t L st h = some qf → hk_K SH cls kd sc D cI cZ cR cJ A H0 b0 ad0 al0 mx n0 s0 p l e R s m args below meth c Q t L st h)  {L : hk_L} {st : List Value} {h : hk_H} (hrun : hk_stp SH pb big none nxr jmr (fun P d k => @ite _ P d k none) (fun P d k0 k1 => @ite _ P d k0 k1) (fun y a h k => (cl y a h).bind (fun q => k q.1 q.2)) (fun r h => some (r, h)) scr ch (.ldc i) a c1 d v w sw L st h = some qf) : hk_K SH cls kd sc D cI cZ cR cJ A H0 b0 ad0 al0 mx n0 s0 p l e R s m args below meth c Q pc L st h := by
  obtain ⟨TB, hx, hb, hml, hown, hts, hK, hA, hin, hX, hcl, hge, hR1, hR2, hAO⟩ := FX
  intro ad H locs ls r
  obtain ⟨hP, hD, hS, hwf, hlv, hlen, hsv, hLv, hadb, hn0, hs0⟩ := id r
  unfold hk_G
  have go : ∀ {st' : List Value}, nxr L st' h = some qf → (∀ v ∈ st', hk_vo sc h.2.2.2 v) → hk_G SH cls p l e R s m args below meth c Q n0 s0 ad h H locs (pc + len) ls st' := fun h1 h2 => hnx _ _ _ h1 _ _ _ _ (r.stk h2)
  have gj : ∀ {t : Nat} {st' : List Value}, jmr t L st' h = some qf → (∀ v ∈ st', hk_vo sc h.2.2.2 v) → hk_G SH cls p l e R s m args below meth c Q n0 s0 ad h H locs t ls st' := fun h1 h2 => hjm _ _ _ _ h1 _ _ _ _ (r.stk h2)
  unfold hk_G at go gj
  simp only [hk_iok, Bool.and_eq_true, decide_eq_true_eq] at hck
  simp only [hk_stp] at hrun
  obtain ⟨rfl, hv⟩ := hck
  exact lv_ldc hx hb hown (hts _ (List.mem_of_getElem? hv)) hdg (go hrun (hk_voc trivial hsv))

set_option maxHeartbeats 1000000 in
theorem hk_z_ldc_w {ini : Bool} {rk : Nat} (FX : hk_Fx SH ch cls kd wl mt hn sc p l R s m args meth c D cI cZ cR cJ A H0 b0 mx dd own cc scr cl ini) {pc len a b c1 d : Nat} {v : Int32} {w : Int64} {sw : List (Int32 × Nat)} {i : Nat} (hdg : decode cc pc = .ok (.ldc_w i, len)) (hck : hk_iok cls kd wl mt hn own ini rk mx pc (.ldc_w i) len a b c1 d v w sw = true) {nxr : hk_L → List Value → hk_H → hk_O} {jmr : Nat → hk_L → List Value → hk_H → hk_O} {qf : Option Value × hk_H} (hnx : ∀ L st h, nxr L st h = some qf → hk_K SH cls kd sc D cI cZ cR cJ A H0 b0 ad0 al0 mx n0 s0 p l e R s m args below meth c Q (pc + len) L st h) (hjm : ∀ t L st h, jmr t L st h = some qf → hk_K SH cls kd sc D cI cZ cR cJ A H0 b0 ad0 al0 mx n0 s0 p l e R s m args below meth c Q t L st h)  {L : hk_L} {st : List Value} {h : hk_H} (hrun : hk_stp SH pb big none nxr jmr (fun P d k => @ite _ P d k none) (fun P d k0 k1 => @ite _ P d k0 k1) (fun y a h k => (cl y a h).bind (fun q => k q.1 q.2)) (fun r h => some (r, h)) scr ch (.ldc_w i) a c1 d v w sw L st h = some qf) : hk_K SH cls kd sc D cI cZ cR cJ A H0 b0 ad0 al0 mx n0 s0 p l e R s m args below meth c Q pc L st h := by
  obtain ⟨TB, hx, hb, hml, hown, hts, hK, hA, hin, hX, hcl, hge, hR1, hR2, hAO⟩ := FX
  intro ad H locs ls r
  obtain ⟨hP, hD, hS, hwf, hlv, hlen, hsv, hLv, hadb, hn0, hs0⟩ := id r
  unfold hk_G
  have go : ∀ {st' : List Value}, nxr L st' h = some qf → (∀ v ∈ st', hk_vo sc h.2.2.2 v) → hk_G SH cls p l e R s m args below meth c Q n0 s0 ad h H locs (pc + len) ls st' := fun h1 h2 => hnx _ _ _ h1 _ _ _ _ (r.stk h2)
  have gj : ∀ {t : Nat} {st' : List Value}, jmr t L st' h = some qf → (∀ v ∈ st', hk_vo sc h.2.2.2 v) → hk_G SH cls p l e R s m args below meth c Q n0 s0 ad h H locs t ls st' := fun h1 h2 => hjm _ _ _ _ h1 _ _ _ _ (r.stk h2)
  unfold hk_G at go gj
  simp only [hk_iok, Bool.and_eq_true, decide_eq_true_eq] at hck
  simp only [hk_stp] at hrun
  obtain ⟨rfl, hv⟩ := hck
  exact lv_ldcw hx hb hown (hts _ (List.mem_of_getElem? hv)) hdg (go hrun (hk_voc trivial hsv))

set_option maxHeartbeats 1000000 in
theorem hk_z_lconst {ini : Bool} {rk : Nat} (FX : hk_Fx SH ch cls kd wl mt hn sc p l R s m args meth c D cI cZ cR cJ A H0 b0 mx dd own cc scr cl ini) {pc len a b c1 d : Nat} {v : Int32} {w : Int64} {sw : List (Int32 × Nat)} {i : Fin 2} (hdg : decode cc pc = .ok (.lconst i, len)) (hck : hk_iok cls kd wl mt hn own ini rk mx pc (.lconst i) len a b c1 d v w sw = true) {nxr : hk_L → List Value → hk_H → hk_O} {jmr : Nat → hk_L → List Value → hk_H → hk_O} {qf : Option Value × hk_H} (hnx : ∀ L st h, nxr L st h = some qf → hk_K SH cls kd sc D cI cZ cR cJ A H0 b0 ad0 al0 mx n0 s0 p l e R s m args below meth c Q (pc + len) L st h) (hjm : ∀ t L st h, jmr t L st h = some qf → hk_K SH cls kd sc D cI cZ cR cJ A H0 b0 ad0 al0 mx n0 s0 p l e R s m args below meth c Q t L st h)  {L : hk_L} {st : List Value} {h : hk_H} (hrun : hk_stp SH pb big none nxr jmr (fun P d k => @ite _ P d k none) (fun P d k0 k1 => @ite _ P d k0 k1) (fun y a h k => (cl y a h).bind (fun q => k q.1 q.2)) (fun r h => some (r, h)) scr ch (.lconst i) a c1 d v w sw L st h = some qf) : hk_K SH cls kd sc D cI cZ cR cJ A H0 b0 ad0 al0 mx n0 s0 p l e R s m args below meth c Q pc L st h := by
  obtain ⟨TB, hx, hb, hml, hown, hts, hK, hA, hin, hX, hcl, hge, hR1, hR2, hAO⟩ := FX
  intro ad H locs ls r
  obtain ⟨hP, hD, hS, hwf, hlv, hlen, hsv, hLv, hadb, hn0, hs0⟩ := id r
  unfold hk_G
  have go : ∀ {st' : List Value}, nxr L st' h = some qf → (∀ v ∈ st', hk_vo sc h.2.2.2 v) → hk_G SH cls p l e R s m args below meth c Q n0 s0 ad h H locs (pc + len) ls st' := fun h1 h2 => hnx _ _ _ h1 _ _ _ _ (r.stk h2)
  have gj : ∀ {t : Nat} {st' : List Value}, jmr t L st' h = some qf → (∀ v ∈ st', hk_vo sc h.2.2.2 v) → hk_G SH cls p l e R s m args below meth c Q n0 s0 ad h H locs t ls st' := fun h1 h2 => hjm _ _ _ _ h1 _ _ _ _ (r.stk h2)
  unfold hk_G at go gj
  simp only [hk_iok, Bool.and_eq_true, decide_eq_true_eq] at hck
  simp only [hk_stp] at hrun
  obtain ⟨rfl, hv⟩ := hck
  exact lv_lconst hx hb hdg hv (go hrun (hk_voc trivial hsv))

set_option maxHeartbeats 1000000 in
theorem hk_z_ldc2_w {ini : Bool} {rk : Nat} (FX : hk_Fx SH ch cls kd wl mt hn sc p l R s m args meth c D cI cZ cR cJ A H0 b0 mx dd own cc scr cl ini) {pc len a b c1 d : Nat} {v : Int32} {w : Int64} {sw : List (Int32 × Nat)} {i : Nat} (hdg : decode cc pc = .ok (.ldc2_w i, len)) (hck : hk_iok cls kd wl mt hn own ini rk mx pc (.ldc2_w i) len a b c1 d v w sw = true) {nxr : hk_L → List Value → hk_H → hk_O} {jmr : Nat → hk_L → List Value → hk_H → hk_O} {qf : Option Value × hk_H} (hnx : ∀ L st h, nxr L st h = some qf → hk_K SH cls kd sc D cI cZ cR cJ A H0 b0 ad0 al0 mx n0 s0 p l e R s m args below meth c Q (pc + len) L st h) (hjm : ∀ t L st h, jmr t L st h = some qf → hk_K SH cls kd sc D cI cZ cR cJ A H0 b0 ad0 al0 mx n0 s0 p l e R s m args below meth c Q t L st h)  {L : hk_L} {st : List Value} {h : hk_H} (hrun : hk_stp SH pb big none nxr jmr (fun P d k => @ite _ P d k none) (fun P d k0 k1 => @ite _ P d k0 k1) (fun y a h k => (cl y a h).bind (fun q => k q.1 q.2)) (fun r h => some (r, h)) scr ch (.ldc2_w i) a c1 d v w sw L st h = some qf) : hk_K SH cls kd sc D cI cZ cR cJ A H0 b0 ad0 al0 mx n0 s0 p l e R s m args below meth c Q pc L st h := by
  obtain ⟨TB, hx, hb, hml, hown, hts, hK, hA, hin, hX, hcl, hge, hR1, hR2, hAO⟩ := FX
  intro ad H locs ls r
  obtain ⟨hP, hD, hS, hwf, hlv, hlen, hsv, hLv, hadb, hn0, hs0⟩ := id r
  unfold hk_G
  have go : ∀ {st' : List Value}, nxr L st' h = some qf → (∀ v ∈ st', hk_vo sc h.2.2.2 v) → hk_G SH cls p l e R s m args below meth c Q n0 s0 ad h H locs (pc + len) ls st' := fun h1 h2 => hnx _ _ _ h1 _ _ _ _ (r.stk h2)
  have gj : ∀ {t : Nat} {st' : List Value}, jmr t L st' h = some qf → (∀ v ∈ st', hk_vo sc h.2.2.2 v) → hk_G SH cls p l e R s m args below meth c Q n0 s0 ad h H locs t ls st' := fun h1 h2 => hjm _ _ _ _ h1 _ _ _ _ (r.stk h2)
  unfold hk_G at go gj
  simp only [hk_iok, Bool.and_eq_true, decide_eq_true_eq] at hck
  simp only [hk_stp] at hrun
  obtain ⟨rfl, hv⟩ := hck
  exact lv_ldc2 hx hb hown (hts _ (List.mem_of_getElem? hv)) hdg (go hrun (hk_voc trivial hsv))

set_option maxHeartbeats 1000000 in
theorem hk_z_iload_n {ini : Bool} {rk : Nat} (FX : hk_Fx SH ch cls kd wl mt hn sc p l R s m args meth c D cI cZ cR cJ A H0 b0 mx dd own cc scr cl ini) {pc len a b c1 d : Nat} {v : Int32} {w : Int64} {sw : List (Int32 × Nat)} {k : Fin 4} (hdg : decode cc pc = .ok (.iload_n k, len)) (hck : hk_iok cls kd wl mt hn own ini rk mx pc (.iload_n k) len a b c1 d v w sw = true) {nxr : hk_L → List Value → hk_H → hk_O} {jmr : Nat → hk_L → List Value → hk_H → hk_O} {qf : Option Value × hk_H} (hnx : ∀ L st h, nxr L st h = some qf → hk_K SH cls kd sc D cI cZ cR cJ A H0 b0 ad0 al0 mx n0 s0 p l e R s m args below meth c Q (pc + len) L st h) (hjm : ∀ t L st h, jmr t L st h = some qf → hk_K SH cls kd sc D cI cZ cR cJ A H0 b0 ad0 al0 mx n0 s0 p l e R s m args below meth c Q t L st h)  {L : hk_L} {st : List Value} {h : hk_H} (hrun : hk_stp SH pb big none nxr jmr (fun P d k => @ite _ P d k none) (fun P d k0 k1 => @ite _ P d k0 k1) (fun y a h k => (cl y a h).bind (fun q => k q.1 q.2)) (fun r h => some (r, h)) scr ch (.iload_n k) a c1 d v w sw L st h = some qf) : hk_K SH cls kd sc D cI cZ cR cJ A H0 b0 ad0 al0 mx n0 s0 p l e R s m args below meth c Q pc L st h := by
  obtain ⟨TB, hx, hb, hml, hown, hts, hK, hA, hin, hX, hcl, hge, hR1, hR2, hAO⟩ := FX
  intro ad H locs ls r
  obtain ⟨hP, hD, hS, hwf, hlv, hlen, hsv, hLv, hadb, hn0, hs0⟩ := id r
  unfold hk_G
  have go : ∀ {st' : List Value}, nxr L st' h = some qf → (∀ v ∈ st', hk_vo sc h.2.2.2 v) → hk_G SH cls p l e R s m args below meth c Q n0 s0 ad h H locs (pc + len) ls st' := fun h1 h2 => hnx _ _ _ h1 _ _ _ _ (r.stk h2)
  have gj : ∀ {t : Nat} {st' : List Value}, jmr t L st' h = some qf → (∀ v ∈ st', hk_vo sc h.2.2.2 v) → hk_G SH cls p l e R s m args below meth c Q n0 s0 ad h H locs t ls st' := fun h1 h2 => hjm _ _ _ _ h1 _ _ _ _ (r.stk h2)
  unfold hk_G at go gj
  simp only [hk_iok, Bool.and_eq_true, decide_eq_true_eq] at hck
  simp only [hk_stp] at hrun
  obtain ⟨rfl, ha⟩ := hck
  split at hrun
  · next x hLx => exact lv_iload_n hx hb hdg ha (hk_has_at hlv hLx) (go hrun (hk_voc trivial hsv))
  · cases hrun

set_option maxHeartbeats 1000000 in
theorem hk_z_iload {ini : Bool} {rk : Nat} (FX : hk_Fx SH ch cls kd wl mt hn sc p l R s m args meth c D cI cZ cR cJ A H0 b0 mx dd own cc scr cl ini) {pc len a b c1 d : Nat} {v : Int32} {w : Int64} {sw : List (Int32 × Nat)} {k : Nat} (hdg : decode cc pc = .ok (.iload k, len)) (hck : hk_iok cls kd wl mt hn own ini rk mx pc (.iload k) len a b c1 d v w sw = true) {nxr : hk_L → List Value → hk_H → hk_O} {jmr : Nat → hk_L → List Value → hk_H → hk_O} {qf : Option Value × hk_H} (hnx : ∀ L st h, nxr L st h = some qf → hk_K SH cls kd sc D cI cZ cR cJ A H0 b0 ad0 al0 mx n0 s0 p l e R s m args below meth c Q (pc + len) L st h) (hjm : ∀ t L st h, jmr t L st h = some qf → hk_K SH cls kd sc D cI cZ cR cJ A H0 b0 ad0 al0 mx n0 s0 p l e R s m args below meth c Q t L st h)  {L : hk_L} {st : List Value} {h : hk_H} (hrun : hk_stp SH pb big none nxr jmr (fun P d k => @ite _ P d k none) (fun P d k0 k1 => @ite _ P d k0 k1) (fun y a h k => (cl y a h).bind (fun q => k q.1 q.2)) (fun r h => some (r, h)) scr ch (.iload k) a c1 d v w sw L st h = some qf) : hk_K SH cls kd sc D cI cZ cR cJ A H0 b0 ad0 al0 mx n0 s0 p l e R s m args below meth c Q pc L st h := by
  obtain ⟨TB, hx, hb, hml, hown, hts, hK, hA, hin, hX, hcl, hge, hR1, hR2, hAO⟩ := FX
  intro ad H locs ls r
  obtain ⟨hP, hD, hS, hwf, hlv, hlen, hsv, hLv, hadb, hn0, hs0⟩ := id r
  unfold hk_G
  have go : ∀ {st' : List Value}, nxr L st' h = some qf → (∀ v ∈ st', hk_vo sc h.2.2.2 v) → hk_G SH cls p l e R s m args below meth c Q n0 s0 ad h H locs (pc + len) ls st' := fun h1 h2 => hnx _ _ _ h1 _ _ _ _ (r.stk h2)
  have gj : ∀ {t : Nat} {st' : List Value}, jmr t L st' h = some qf → (∀ v ∈ st', hk_vo sc h.2.2.2 v) → hk_G SH cls p l e R s m args below meth c Q n0 s0 ad h H locs t ls st' := fun h1 h2 => hjm _ _ _ _ h1 _ _ _ _ (r.stk h2)
  unfold hk_G at go gj
  simp only [hk_iok, Bool.and_eq_true, decide_eq_true_eq] at hck
  simp only [hk_stp] at hrun
  obtain ⟨rfl, ha⟩ := hck
  subst ha
  split at hrun
  · next x hLx => exact lv_iload hx hb hdg (hk_has_at hlv hLx) (go hrun (hk_voc trivial hsv))
  · cases hrun

set_option maxHeartbeats 1000000 in
theorem hk_z_aload_n {ini : Bool} {rk : Nat} (FX : hk_Fx SH ch cls kd wl mt hn sc p l R s m args meth c D cI cZ cR cJ A H0 b0 mx dd own cc scr cl ini) {pc len a b c1 d : Nat} {v : Int32} {w : Int64} {sw : List (Int32 × Nat)} {k : Fin 4} (hdg : decode cc pc = .ok (.aload_n k, len)) (hck : hk_iok cls kd wl mt hn own ini rk mx pc (.aload_n k) len a b c1 d v w sw = true) {nxr : hk_L → List Value → hk_H → hk_O} {jmr : Nat → hk_L → List Value → hk_H → hk_O} {qf : Option Value × hk_H} (hnx : ∀ L st h, nxr L st h = some qf → hk_K SH cls kd sc D cI cZ cR cJ A H0 b0 ad0 al0 mx n0 s0 p l e R s m args below meth c Q (pc + len) L st h) (hjm : ∀ t L st h, jmr t L st h = some qf → hk_K SH cls kd sc D cI cZ cR cJ A H0 b0 ad0 al0 mx n0 s0 p l e R s m args below meth c Q t L st h)  {L : hk_L} {st : List Value} {h : hk_H} (hrun : hk_stp SH pb big none nxr jmr (fun P d k => @ite _ P d k none) (fun P d k0 k1 => @ite _ P d k0 k1) (fun y a h k => (cl y a h).bind (fun q => k q.1 q.2)) (fun r h => some (r, h)) scr ch (.aload_n k) a c1 d v w sw L st h = some qf) : hk_K SH cls kd sc D cI cZ cR cJ A H0 b0 ad0 al0 mx n0 s0 p l e R s m args below meth c Q pc L st h := by
  obtain ⟨TB, hx, hb, hml, hown, hts, hK, hA, hin, hX, hcl, hge, hR1, hR2, hAO⟩ := FX
  intro ad H locs ls r
  obtain ⟨hP, hD, hS, hwf, hlv, hlen, hsv, hLv, hadb, hn0, hs0⟩ := id r
  unfold hk_G
  have go : ∀ {st' : List Value}, nxr L st' h = some qf → (∀ v ∈ st', hk_vo sc h.2.2.2 v) → hk_G SH cls p l e R s m args below meth c Q n0 s0 ad h H locs (pc + len) ls st' := fun h1 h2 => hnx _ _ _ h1 _ _ _ _ (r.stk h2)
  have gj : ∀ {t : Nat} {st' : List Value}, jmr t L st' h = some qf → (∀ v ∈ st', hk_vo sc h.2.2.2 v) → hk_G SH cls p l e R s m args below meth c Q n0 s0 ad h H locs t ls st' := fun h1 h2 => hjm _ _ _ _ h1 _ _ _ _ (r.stk h2)
  unfold hk_G at go gj
  simp only [hk_iok, Bool.and_eq_true, decide_eq_true_eq] at hck
  simp only [hk_stp] at hrun
  obtain ⟨rfl, ha⟩ := hck
  split at hrun
  · next x hLx => exact lv_aload_n hx hb hdg ha (hk_has_at hlv hLx) (go hrun (hk_voc (hLv _ (List.mem_of_getElem? hLx)) hsv))
  · next hLx => exact lv_aload_nN hx hb hdg ha (hk_has_at hlv hLx) (go hrun (hk_voc trivial hsv))
  · cases hrun

set_option maxHeartbeats 1000000 in
theorem hk_z_aload {ini : Bool} {rk : Nat} (FX : hk_Fx SH ch cls kd wl mt hn sc p l R s m args meth c D cI cZ cR cJ A H0 b0 mx dd own cc scr cl ini) {pc len a b c1 d : Nat} {v : Int32} {w : Int64} {sw : List (Int32 × Nat)} {k : Nat} (hdg : decode cc pc = .ok (.aload k, len)) (hck : hk_iok cls kd wl mt hn own ini rk mx pc (.aload k) len a b c1 d v w sw = true) {nxr : hk_L → List Value → hk_H → hk_O} {jmr : Nat → hk_L → List Value → hk_H → hk_O} {qf : Option Value × hk_H} (hnx : ∀ L st h, nxr L st h = some qf → hk_K SH cls kd sc D cI cZ cR cJ A H0 b0 ad0 al0 mx n0 s0 p l e R s m args below meth c Q (pc + len) L st h) (hjm : ∀ t L st h, jmr t L st h = some qf → hk_K SH cls kd sc D cI cZ cR cJ A H0 b0 ad0 al0 mx n0 s0 p l e R s m args below meth c Q t L st h)  {L : hk_L} {st : List Value} {h : hk_H} (hrun : hk_stp SH pb big none nxr jmr (fun P d k => @ite _ P d k none) (fun P d k0 k1 => @ite _ P d k0 k1) (fun y a h k => (cl y a h).bind (fun q => k q.1 q.2)) (fun r h => some (r, h)) scr ch (.aload k) a c1 d v w sw L st h = some qf) : hk_K SH cls kd sc D cI cZ cR cJ A H0 b0 ad0 al0 mx n0 s0 p l e R s m args below meth c Q pc L st h := by
  obtain ⟨TB, hx, hb, hml, hown, hts, hK, hA, hin, hX, hcl, hge, hR1, hR2, hAO⟩ := FX
  intro ad H locs ls r
  obtain ⟨hP, hD, hS, hwf, hlv, hlen, hsv, hLv, hadb, hn0, hs0⟩ := id r
  unfold hk_G
  have go : ∀ {st' : List Value}, nxr L st' h = some qf → (∀ v ∈ st', hk_vo sc h.2.2.2 v) → hk_G SH cls p l e R s m args below meth c Q n0 s0 ad h H locs (pc + len) ls st' := fun h1 h2 => hnx _ _ _ h1 _ _ _ _ (r.stk h2)
  have gj : ∀ {t : Nat} {st' : List Value}, jmr t L st' h = some qf → (∀ v ∈ st', hk_vo sc h.2.2.2 v) → hk_G SH cls p l e R s m args below meth c Q n0 s0 ad h H locs t ls st' := fun h1 h2 => hjm _ _ _ _ h1 _ _ _ _ (r.stk h2)
  unfold hk_G at go gj
  simp only [hk_iok, Bool.and_eq_true, decide_eq_true_eq] at hck
  simp only [hk_stp] at hrun
  obtain ⟨rfl, ha⟩ := hck
  subst ha
  split at hrun
  · next x hLx => exact lv_aload hx hb hdg (hk_has_at hlv hLx) (go hrun (hk_voc (hLv _ (List.mem_of_getElem? hLx)) hsv))
  · cases hrun

set_option maxHeartbeats 1000000 in
theorem hk_z_lload_n {ini : Bool} {rk : Nat} (FX : hk_Fx SH ch cls kd wl mt hn sc p l R s m args meth c D cI cZ cR cJ A H0 b0 mx dd own cc scr cl ini) {pc len a b c1 d : Nat} {v : Int32} {w : Int64} {sw : List (Int32 × Nat)} {k : Fin 4} (hdg : decode cc pc = .ok (.lload_n k, len)) (hck : hk_iok cls kd wl mt hn own ini rk mx pc (.lload_n k) len a b c1 d v w sw = true) {nxr : hk_L → List Value → hk_H → hk_O} {jmr : Nat → hk_L → List Value → hk_H → hk_O} {qf : Option Value × hk_H} (hnx : ∀ L st h, nxr L st h = some qf → hk_K SH cls kd sc D cI cZ cR cJ A H0 b0 ad0 al0 mx n0 s0 p l e R s m args below meth c Q (pc + len) L st h) (hjm : ∀ t L st h, jmr t L st h = some qf → hk_K SH cls kd sc D cI cZ cR cJ A H0 b0 ad0 al0 mx n0 s0 p l e R s m args below meth c Q t L st h)  {L : hk_L} {st : List Value} {h : hk_H} (hrun : hk_stp SH pb big none nxr jmr (fun P d k => @ite _ P d k none) (fun P d k0 k1 => @ite _ P d k0 k1) (fun y a h k => (cl y a h).bind (fun q => k q.1 q.2)) (fun r h => some (r, h)) scr ch (.lload_n k) a c1 d v w sw L st h = some qf) : hk_K SH cls kd sc D cI cZ cR cJ A H0 b0 ad0 al0 mx n0 s0 p l e R s m args below meth c Q pc L st h := by
  obtain ⟨TB, hx, hb, hml, hown, hts, hK, hA, hin, hX, hcl, hge, hR1, hR2, hAO⟩ := FX
  intro ad H locs ls r
  obtain ⟨hP, hD, hS, hwf, hlv, hlen, hsv, hLv, hadb, hn0, hs0⟩ := id r
  unfold hk_G
  have go : ∀ {st' : List Value}, nxr L st' h = some qf → (∀ v ∈ st', hk_vo sc h.2.2.2 v) → hk_G SH cls p l e R s m args below meth c Q n0 s0 ad h H locs (pc + len) ls st' := fun h1 h2 => hnx _ _ _ h1 _ _ _ _ (r.stk h2)
  have gj : ∀ {t : Nat} {st' : List Value}, jmr t L st' h = some qf → (∀ v ∈ st', hk_vo sc h.2.2.2 v) → hk_G SH cls p l e R s m args below meth c Q n0 s0 ad h H locs t ls st' := fun h1 h2 => hjm _ _ _ _ h1 _ _ _ _ (r.stk h2)
  unfold hk_G at go gj
  simp only [hk_iok, Bool.and_eq_true, decide_eq_true_eq] at hck
  simp only [hk_stp] at hrun
  obtain ⟨rfl, ha⟩ := hck
  split at hrun
  · next x hLx => exact lv_lload_n hx hb hdg ha (hk_has_at hlv hLx) (go hrun (hk_voc trivial hsv))
  · cases hrun

set_option maxHeartbeats 1000000 in
theorem hk_z_lload {ini : Bool} {rk : Nat} (FX : hk_Fx SH ch cls kd wl mt hn sc p l R s m args meth c D cI cZ cR cJ A H0 b0 mx dd own cc scr cl ini) {pc len a b c1 d : Nat} {v : Int32} {w : Int64} {sw : List (Int32 × Nat)} {k : Nat} (hdg : decode cc pc = .ok (.lload k, len)) (hck : hk_iok cls kd wl mt hn own ini rk mx pc (.lload k) len a b c1 d v w sw = true) {nxr : hk_L → List Value → hk_H → hk_O} {jmr : Nat → hk_L → List Value → hk_H → hk_O} {qf : Option Value × hk_H} (hnx : ∀ L st h, nxr L st h = some qf → hk_K SH cls kd sc D cI cZ cR cJ A H0 b0 ad0 al0 mx n0 s0 p l e R s m args below meth c Q (pc + len) L st h) (hjm : ∀ t L st h, jmr t L st h = some qf → hk_K SH cls kd sc D cI cZ cR cJ A H0 b0 ad0 al0 mx n0 s0 p l e R s m args below meth c Q t L st h)  {L : hk_L} {st : List Value} {h : hk_H} (hrun : hk_stp SH pb big none nxr jmr (fun P d k => @ite _ P d k none) (fun P d k0 k1 => @ite _ P d k0 k1) (fun y a h k => (cl y a h).bind (fun q => k q.1 q.2)) (fun r h => some (r, h)) scr ch (.lload k) a c1 d v w sw L st h = some qf) : hk_K SH cls kd sc D cI cZ cR cJ A H0 b0 ad0 al0 mx n0 s0 p l e R s m args below meth c Q pc L st h := by
  obtain ⟨TB, hx, hb, hml, hown, hts, hK, hA, hin, hX, hcl, hge, hR1, hR2, hAO⟩ := FX
  intro ad H locs ls r
  obtain ⟨hP, hD, hS, hwf, hlv, hlen, hsv, hLv, hadb, hn0, hs0⟩ := id r
  unfold hk_G
  have go : ∀ {st' : List Value}, nxr L st' h = some qf → (∀ v ∈ st', hk_vo sc h.2.2.2 v) → hk_G SH cls p l e R s m args below meth c Q n0 s0 ad h H locs (pc + len) ls st' := fun h1 h2 => hnx _ _ _ h1 _ _ _ _ (r.stk h2)
  have gj : ∀ {t : Nat} {st' : List Value}, jmr t L st' h = some qf → (∀ v ∈ st', hk_vo sc h.2.2.2 v) → hk_G SH cls p l e R s m args below meth c Q n0 s0 ad h H locs t ls st' := fun h1 h2 => hjm _ _ _ _ h1 _ _ _ _ (r.stk h2)
  unfold hk_G at go gj
  simp only [hk_iok, Bool.and_eq_true, decide_eq_true_eq] at hck
  simp only [hk_stp] at hrun
  obtain ⟨rfl, ha⟩ := hck
  subst ha
  split at hrun
  · next x hLx => exact lv_lload hx hb hdg (hk_has_at hlv hLx) (go hrun (hk_voc trivial hsv))
  · cases hrun

set_option maxHeartbeats 1000000 in
theorem hk_z_istore_n {ini : Bool} {rk : Nat} (FX : hk_Fx SH ch cls kd wl mt hn sc p l R s m args meth c D cI cZ cR cJ A H0 b0 mx dd own cc scr cl ini) {pc len a b c1 d : Nat} {v : Int32} {w : Int64} {sw : List (Int32 × Nat)} {k : Fin 4} (hdg : decode cc pc = .ok (.istore_n k, len)) (hck : hk_iok cls kd wl mt hn own ini rk mx pc (.istore_n k) len a b c1 d v w sw = true) {nxr : hk_L → List Value → hk_H → hk_O} {jmr : Nat → hk_L → List Value → hk_H → hk_O} {qf : Option Value × hk_H} (hnx : ∀ L st h, nxr L st h = some qf → hk_K SH cls kd sc D cI cZ cR cJ A H0 b0 ad0 al0 mx n0 s0 p l e R s m args below meth c Q (pc + len) L st h) (hjm : ∀ t L st h, jmr t L st h = some qf → hk_K SH cls kd sc D cI cZ cR cJ A H0 b0 ad0 al0 mx n0 s0 p l e R s m args below meth c Q t L st h)  {L : hk_L} {st : List Value} {h : hk_H} (hrun : hk_stp SH pb big none nxr jmr (fun P d k => @ite _ P d k none) (fun P d k0 k1 => @ite _ P d k0 k1) (fun y a h k => (cl y a h).bind (fun q => k q.1 q.2)) (fun r h => some (r, h)) scr ch (.istore_n k) a c1 d v w sw L st h = some qf) : hk_K SH cls kd sc D cI cZ cR cJ A H0 b0 ad0 al0 mx n0 s0 p l e R s m args below meth c Q pc L st h := by
  obtain ⟨TB, hx, hb, hml, hown, hts, hK, hA, hin, hX, hcl, hge, hR1, hR2, hAO⟩ := FX
  intro ad H locs ls r
  obtain ⟨hP, hD, hS, hwf, hlv, hlen, hsv, hLv, hadb, hn0, hs0⟩ := id r
  unfold hk_G
  have go : ∀ {st' : List Value}, nxr L st' h = some qf → (∀ v ∈ st', hk_vo sc h.2.2.2 v) → hk_G SH cls p l e R s m args below meth c Q n0 s0 ad h H locs (pc + len) ls st' := fun h1 h2 => hnx _ _ _ h1 _ _ _ _ (r.stk h2)
  have gj : ∀ {t : Nat} {st' : List Value}, jmr t L st' h = some qf → (∀ v ∈ st', hk_vo sc h.2.2.2 v) → hk_G SH cls p l e R s m args below meth c Q n0 s0 ad h H locs t ls st' := fun h1 h2 => hjm _ _ _ _ h1 _ _ _ _ (r.stk h2)
  unfold hk_G at go gj
  simp only [hk_iok, Bool.and_eq_true, decide_eq_true_eq] at hck
  simp only [hk_stp] at hrun
  obtain ⟨⟨rfl, ha⟩, hlt⟩ := hck
  split at hrun
  · next x r0 => exact lv_istore_n hx hb hdg ha hlv hlt rfl (fun ls' hl' => hnx _ _ _ hrun _ _ _ _ (r.st1 (v := .int x) hl' (hk_vot hsv).1 (hk_vot hsv).2))
  · cases hrun

set_option maxHeartbeats 1000000 in
theorem hk_z_istore {ini : Bool} {rk : Nat} (FX : hk_Fx SH ch cls kd wl mt hn sc p l R s m args meth c D cI cZ cR cJ A H0 b0 mx dd own cc scr cl ini) {pc len a b c1 d : Nat} {v : Int32} {w : Int64} {sw : List (Int32 × Nat)} {k : Nat} (hdg : decode cc pc = .ok (.istore k, len)) (hck : hk_iok cls kd wl mt hn own ini rk mx pc (.istore k) len a b c1 d v w sw = true) {nxr : hk_L → List Value → hk_H → hk_O} {jmr : Nat → hk_L → List Value → hk_H → hk_O} {qf : Option Value × hk_H} (hnx : ∀ L st h, nxr L st h = some qf → hk_K SH cls kd sc D cI cZ cR cJ A H0 b0 ad0 al0 mx n0 s0 p l e R s m args below meth c Q (pc + len) L st h) (hjm : ∀ t L st h, jmr t L st h = some qf → hk_K SH cls kd sc D cI cZ cR cJ A H0 b0 ad0 al0 mx n0 s0 p l e R s m args below meth c Q t L st h)  {L : hk_L} {st : List Value} {h : hk_H} (hrun : hk_stp SH pb big none nxr jmr (fun P d k => @ite _ P d k none) (fun P d k0 k1 => @ite _ P d k0 k1) (fun y a h k => (cl y a h).bind (fun q => k q.1 q.2)) (fun r h => some (r, h)) scr ch (.istore k) a c1 d v w sw L st h = some qf) : hk_K SH cls kd sc D cI cZ cR cJ A H0 b0 ad0 al0 mx n0 s0 p l e R s m args below meth c Q pc L st h := by
  obtain ⟨TB, hx, hb, hml, hown, hts, hK, hA, hin, hX, hcl, hge, hR1, hR2, hAO⟩ := FX
  intro ad H locs ls r
  obtain ⟨hP, hD, hS, hwf, hlv, hlen, hsv, hLv, hadb, hn0, hs0⟩ := id r
  unfold hk_G
  have go : ∀ {st' : List Value}, nxr L st' h = some qf → (∀ v ∈ st', hk_vo sc h.2.2.2 v) → hk_G SH cls p l e R s m args below meth c Q n0 s0 ad h H locs (pc + len) ls st' := fun h1 h2 => hnx _ _ _ h1 _ _ _ _ (r.stk h2)
  have gj : ∀ {t : Nat} {st' : List Value}, jmr t L st' h = some qf → (∀ v ∈ st', hk_vo sc h.2.2.2 v) → hk_G SH cls p l e R s m args below meth c Q n0 s0 ad h H locs t ls st' := fun h1 h2 => hjm _ _ _ _ h1 _ _ _ _ (r.stk h2)
  unfold hk_G at go gj
  simp only [hk_iok, Bool.and_eq_true, decide_eq_true_eq] at hck
  simp only [hk_stp] at hrun
  obtain ⟨⟨rfl, ha⟩, hlt⟩ := hck
  subst ha
  split at hrun
  · next x r0 => exact lv_istore hx hb hdg hlv hlt rfl (fun ls' hl' => hnx _ _ _ hrun _ _ _ _ (r.st1 (v := .int x) hl' (hk_vot hsv).1 (hk_vot hsv).2))
  · cases hrun

set_option maxHeartbeats 1000000 in
theorem hk_z_astore_n {ini : Bool} {rk : Nat} (FX : hk_Fx SH ch cls kd wl mt hn sc p l R s m args meth c D cI cZ cR cJ A H0 b0 mx dd own cc scr cl ini) {pc len a b c1 d : Nat} {v : Int32} {w : Int64} {sw : List (Int32 × Nat)} {k : Fin 4} (hdg : decode cc pc = .ok (.astore_n k, len)) (hck : hk_iok cls kd wl mt hn own ini rk mx pc (.astore_n k) len a b c1 d v w sw = true) {nxr : hk_L → List Value → hk_H → hk_O} {jmr : Nat → hk_L → List Value → hk_H → hk_O} {qf : Option Value × hk_H} (hnx : ∀ L st h, nxr L st h = some qf → hk_K SH cls kd sc D cI cZ cR cJ A H0 b0 ad0 al0 mx n0 s0 p l e R s m args below meth c Q (pc + len) L st h) (hjm : ∀ t L st h, jmr t L st h = some qf → hk_K SH cls kd sc D cI cZ cR cJ A H0 b0 ad0 al0 mx n0 s0 p l e R s m args below meth c Q t L st h)  {L : hk_L} {st : List Value} {h : hk_H} (hrun : hk_stp SH pb big none nxr jmr (fun P d k => @ite _ P d k none) (fun P d k0 k1 => @ite _ P d k0 k1) (fun y a h k => (cl y a h).bind (fun q => k q.1 q.2)) (fun r h => some (r, h)) scr ch (.astore_n k) a c1 d v w sw L st h = some qf) : hk_K SH cls kd sc D cI cZ cR cJ A H0 b0 ad0 al0 mx n0 s0 p l e R s m args below meth c Q pc L st h := by
  obtain ⟨TB, hx, hb, hml, hown, hts, hK, hA, hin, hX, hcl, hge, hR1, hR2, hAO⟩ := FX
  intro ad H locs ls r
  obtain ⟨hP, hD, hS, hwf, hlv, hlen, hsv, hLv, hadb, hn0, hs0⟩ := id r
  unfold hk_G
  have go : ∀ {st' : List Value}, nxr L st' h = some qf → (∀ v ∈ st', hk_vo sc h.2.2.2 v) → hk_G SH cls p l e R s m args below meth c Q n0 s0 ad h H locs (pc + len) ls st' := fun h1 h2 => hnx _ _ _ h1 _ _ _ _ (r.stk h2)
  have gj : ∀ {t : Nat} {st' : List Value}, jmr t L st' h = some qf → (∀ v ∈ st', hk_vo sc h.2.2.2 v) → hk_G SH cls p l e R s m args below meth c Q n0 s0 ad h H locs t ls st' := fun h1 h2 => hjm _ _ _ _ h1 _ _ _ _ (r.stk h2)
  unfold hk_G at go gj
  simp only [hk_iok, Bool.and_eq_true, decide_eq_true_eq] at hck
  simp only [hk_stp] at hrun
  obtain ⟨⟨rfl, ha⟩, hlt⟩ := hck
  split at hrun
  · next x r0 => exact lv_astore_n hx hb hdg ha hlv hlt rfl (fun ls' hl' => hnx _ _ _ hrun _ _ _ _ (r.st1 (v := .ref x) hl' (hk_vot hsv).1 (hk_vot hsv).2))
  · next r0 => exact lv_astore_nN hx hb hdg ha hlv hlt rfl (fun ls' hl' => hnx _ _ _ hrun _ _ _ _ (r.st1 (v := .null) hl' (hk_vot hsv).1 (hk_vot hsv).2))
  · cases hrun

set_option maxHeartbeats 1000000 in
theorem hk_z_lstore_n {ini : Bool} {rk : Nat} (FX : hk_Fx SH ch cls kd wl mt hn sc p l R s m args meth c D cI cZ cR cJ A H0 b0 mx dd own cc scr cl ini) {pc len a b c1 d : Nat} {v : Int32} {w : Int64} {sw : List (Int32 × Nat)} {k : Fin 4} (hdg : decode cc pc = .ok (.lstore_n k, len)) (hck : hk_iok cls kd wl mt hn own ini rk mx pc (.lstore_n k) len a b c1 d v w sw = true) {nxr : hk_L → List Value → hk_H → hk_O} {jmr : Nat → hk_L → List Value → hk_H → hk_O} {qf : Option Value × hk_H} (hnx : ∀ L st h, nxr L st h = some qf → hk_K SH cls kd sc D cI cZ cR cJ A H0 b0 ad0 al0 mx n0 s0 p l e R s m args below meth c Q (pc + len) L st h) (hjm : ∀ t L st h, jmr t L st h = some qf → hk_K SH cls kd sc D cI cZ cR cJ A H0 b0 ad0 al0 mx n0 s0 p l e R s m args below meth c Q t L st h)  {L : hk_L} {st : List Value} {h : hk_H} (hrun : hk_stp SH pb big none nxr jmr (fun P d k => @ite _ P d k none) (fun P d k0 k1 => @ite _ P d k0 k1) (fun y a h k => (cl y a h).bind (fun q => k q.1 q.2)) (fun r h => some (r, h)) scr ch (.lstore_n k) a c1 d v w sw L st h = some qf) : hk_K SH cls kd sc D cI cZ cR cJ A H0 b0 ad0 al0 mx n0 s0 p l e R s m args below meth c Q pc L st h := by
  obtain ⟨TB, hx, hb, hml, hown, hts, hK, hA, hin, hX, hcl, hge, hR1, hR2, hAO⟩ := FX
  intro ad H locs ls r
  obtain ⟨hP, hD, hS, hwf, hlv, hlen, hsv, hLv, hadb, hn0, hs0⟩ := id r
  unfold hk_G
  have go : ∀ {st' : List Value}, nxr L st' h = some qf → (∀ v ∈ st', hk_vo sc h.2.2.2 v) → hk_G SH cls p l e R s m args below meth c Q n0 s0 ad h H locs (pc + len) ls st' := fun h1 h2 => hnx _ _ _ h1 _ _ _ _ (r.stk h2)
  have gj : ∀ {t : Nat} {st' : List Value}, jmr t L st' h = some qf → (∀ v ∈ st', hk_vo sc h.2.2.2 v) → hk_G SH cls p l e R s m args below meth c Q n0 s0 ad h H locs t ls st' := fun h1 h2 => hjm _ _ _ _ h1 _ _ _ _ (r.stk h2)
  unfold hk_G at go gj
  simp only [hk_iok, Bool.and_eq_true, decide_eq_true_eq] at hck
  simp only [hk_stp] at hrun
  obtain ⟨⟨rfl, ha⟩, hlt⟩ := hck
  split at hrun
  · next x r0 => exact lv_lstore_n hx hb hdg ha hlv hlt rfl (fun ls' hl' => hnx _ _ _ hrun _ _ _ _ (r.st2 (v := .long x) hl' (hk_vot hsv).1 (hk_vot hsv).2))
  · cases hrun

set_option maxHeartbeats 1000000 in
theorem hk_z_lstore {ini : Bool} {rk : Nat} (FX : hk_Fx SH ch cls kd wl mt hn sc p l R s m args meth c D cI cZ cR cJ A H0 b0 mx dd own cc scr cl ini) {pc len a b c1 d : Nat} {v : Int32} {w : Int64} {sw : List (Int32 × Nat)} {k : Nat} (hdg : decode cc pc = .ok (.lstore k, len)) (hck : hk_iok cls kd wl mt hn own ini rk mx pc (.lstore k) len a b c1 d v w sw = true) {nxr : hk_L → List Value → hk_H → hk_O} {jmr : Nat → hk_L → List Value → hk_H → hk_O} {qf : Option Value × hk_H} (hnx : ∀ L st h, nxr L st h = some qf → hk_K SH cls kd sc D cI cZ cR cJ A H0 b0 ad0 al0 mx n0 s0 p l e R s m args below meth c Q (pc + len) L st h) (hjm : ∀ t L st h, jmr t L st h = some qf → hk_K SH cls kd sc D cI cZ cR cJ A H0 b0 ad0 al0 mx n0 s0 p l e R s m args below meth c Q t L st h)  {L : hk_L} {st : List Value} {h : hk_H} (hrun : hk_stp SH pb big none nxr jmr (fun P d k => @ite _ P d k none) (fun P d k0 k1 => @ite _ P d k0 k1) (fun y a h k => (cl y a h).bind (fun q => k q.1 q.2)) (fun r h => some (r, h)) scr ch (.lstore k) a c1 d v w sw L st h = some qf) : hk_K SH cls kd sc D cI cZ cR cJ A H0 b0 ad0 al0 mx n0 s0 p l e R s m args below meth c Q pc L st h := by
  obtain ⟨TB, hx, hb, hml, hown, hts, hK, hA, hin, hX, hcl, hge, hR1, hR2, hAO⟩ := FX
  intro ad H locs ls r
  obtain ⟨hP, hD, hS, hwf, hlv, hlen, hsv, hLv, hadb, hn0, hs0⟩ := id r
  unfold hk_G
  have go : ∀ {st' : List Value}, nxr L st' h = some qf → (∀ v ∈ st', hk_vo sc h.2.2.2 v) → hk_G SH cls p l e R s m args below meth c Q n0 s0 ad h H locs (pc + len) ls st' := fun h1 h2 => hnx _ _ _ h1 _ _ _ _ (r.stk h2)
  have gj : ∀ {t : Nat} {st' : List Value}, jmr t L st' h = some qf → (∀ v ∈ st', hk_vo sc h.2.2.2 v) → hk_G SH cls p l e R s m args below meth c Q n0 s0 ad h H locs t ls st' := fun h1 h2 => hjm _ _ _ _ h1 _ _ _ _ (r.stk h2)
  unfold hk_G at go gj
  simp only [hk_iok, Bool.and_eq_true, decide_eq_true_eq] at hck
  simp only [hk_stp] at hrun
  obtain ⟨⟨rfl, ha⟩, hlt⟩ := hck
  subst ha
  split at hrun
  · next x r0 => exact lv_lstore hx hb hdg hlv hlt rfl (fun ls' hl' => hnx _ _ _ hrun _ _ _ _ (r.st2 (v := .long x) hl' (hk_vot hsv).1 (hk_vot hsv).2))
  · cases hrun

set_option maxHeartbeats 1000000 in
theorem hk_z_iinc {ini : Bool} {rk : Nat} (FX : hk_Fx SH ch cls kd wl mt hn sc p l R s m args meth c D cI cZ cR cJ A H0 b0 mx dd own cc scr cl ini) {pc len a b c1 d : Nat} {v : Int32} {w : Int64} {sw : List (Int32 × Nat)} {k : Nat} {i : Int} (hdg : decode cc pc = .ok (.iinc k i, len)) (hck : hk_iok cls kd wl mt hn own ini rk mx pc (.iinc k i) len a b c1 d v w sw = true) {nxr : hk_L → List Value → hk_H → hk_O} {jmr : Nat → hk_L → List Value → hk_H → hk_O} {qf : Option Value × hk_H} (hnx : ∀ L st h, nxr L st h = some qf → hk_K SH cls kd sc D cI cZ cR cJ A H0 b0 ad0 al0 mx n0 s0 p l e R s m args below meth c Q (pc + len) L st h) (hjm : ∀ t L st h, jmr t L st h = some qf → hk_K SH cls kd sc D cI cZ cR cJ A H0 b0 ad0 al0 mx n0 s0 p l e R s m args below meth c Q t L st h)  {L : hk_L} {st : List Value} {h : hk_H} (hrun : hk_stp SH pb big none nxr jmr (fun P d k => @ite _ P d k none) (fun P d k0 k1 => @ite _ P d k0 k1) (fun y a h k => (cl y a h).bind (fun q => k q.1 q.2)) (fun r h => some (r, h)) scr ch (.iinc k i) a c1 d v w sw L st h = some qf) : hk_K SH cls kd sc D cI cZ cR cJ A H0 b0 ad0 al0 mx n0 s0 p l e R s m args below meth c Q pc L st h := by
  obtain ⟨TB, hx, hb, hml, hown, hts, hK, hA, hin, hX, hcl, hge, hR1, hR2, hAO⟩ := FX
  intro ad H locs ls r
  obtain ⟨hP, hD, hS, hwf, hlv, hlen, hsv, hLv, hadb, hn0, hs0⟩ := id r
  unfold hk_G
  have go : ∀ {st' : List Value}, nxr L st' h = some qf → (∀ v ∈ st', hk_vo sc h.2.2.2 v) → hk_G SH cls p l e R s m args below meth c Q n0 s0 ad h H locs (pc + len) ls st' := fun h1 h2 => hnx _ _ _ h1 _ _ _ _ (r.stk h2)
  have gj : ∀ {t : Nat} {st' : List Value}, jmr t L st' h = some qf → (∀ v ∈ st', hk_vo sc h.2.2.2 v) → hk_G SH cls p l e R s m args below meth c Q n0 s0 ad h H locs t ls st' := fun h1 h2 => hjm _ _ _ _ h1 _ _ _ _ (r.stk h2)
  unfold hk_G at go gj
  simp only [hk_iok, Bool.and_eq_true, decide_eq_true_eq] at hck
  simp only [hk_stp] at hrun
  obtain ⟨⟨⟨rfl, rfl⟩, hlt⟩, hv⟩ := hck
  split at hrun
  · next x hLx =>
    obtain ⟨k2, hk2⟩ := List.getElem?_of_mem (hk_pl_mem.mpr ⟨.int x, hLx, rfl⟩ : (k, hk_tv ad (.int x)) ∈ hk_pl ad L)
    exact lv_iinc (v := x + v) hx hb hdg hlv hk2 (by rw [hv]) hlt rfl (fun ls' hl' => hnx _ _ _ hrun _ _ _ _ (r.st1 (v := .int (x + v)) hl' trivial hsv))
  · cases hrun

set_option maxHeartbeats 1000000 in
theorem hk_z_iadd {ini : Bool} {rk : Nat} (FX : hk_Fx SH ch cls kd wl mt hn sc p l R s m args meth c D cI cZ cR cJ A H0 b0 mx dd own cc scr cl ini) {pc len a b c1 d : Nat} {v : Int32} {w : Int64} {sw : List (Int32 × Nat)}  (hdg : decode cc pc = .ok (.iadd, len)) (hck : hk_iok cls kd wl mt hn own ini rk mx pc (.iadd) len a b c1 d v w sw = true) {nxr : hk_L → List Value → hk_H → hk_O} {jmr : Nat → hk_L → List Value → hk_H → hk_O} {qf : Option Value × hk_H} (hnx : ∀ L st h, nxr L st h = some qf → hk_K SH cls kd sc D cI cZ cR cJ A H0 b0 ad0 al0 mx n0 s0 p l e R s m args below meth c Q (pc + len) L st h) (hjm : ∀ t L st h, jmr t L st h = some qf → hk_K SH cls kd sc D cI cZ cR cJ A H0 b0 ad0 al0 mx n0 s0 p l e R s m args below meth c Q t L st h)  {L : hk_L} {st : List Value} {h : hk_H} (hrun : hk_stp SH pb big none nxr jmr (fun P d k => @ite _ P d k none) (fun P d k0 k1 => @ite _ P d k0 k1) (fun y a h k => (cl y a h).bind (fun q => k q.1 q.2)) (fun r h => some (r, h)) scr ch (.iadd) a c1 d v w sw L st h = some qf) : hk_K SH cls kd sc D cI cZ cR cJ A H0 b0 ad0 al0 mx n0 s0 p l e R s m args below meth c Q pc L st h := by
  obtain ⟨TB, hx, hb, hml, hown, hts, hK, hA, hin, hX, hcl, hge, hR1, hR2, hAO⟩ := FX
  intro ad H locs ls r
  obtain ⟨hP, hD, hS, hwf, hlv, hlen, hsv, hLv, hadb, hn0, hs0⟩ := id r
  unfold hk_G
  have go : ∀ {st' : List Value}, nxr L st' h = some qf → (∀ v ∈ st', hk_vo sc h.2.2.2 v) → hk_G SH cls p l e R s m args below meth c Q n0 s0 ad h H locs (pc + len) ls st' := fun h1 h2 => hnx _ _ _ h1 _ _ _ _ (r.stk h2)
  have gj : ∀ {t : Nat} {st' : List Value}, jmr t L st' h = some qf → (∀ v ∈ st', hk_vo sc h.2.2.2 v) → hk_G SH cls p l e R s m args below meth c Q n0 s0 ad h H locs t ls st' := fun h1 h2 => hjm _ _ _ _ h1 _ _ _ _ (r.stk h2)
  unfold hk_G at go gj
  simp only [hk_iok, Bool.and_eq_true, decide_eq_true_eq] at hck
  simp only [hk_stp] at hrun
  obtain rfl := hck
  unfold hk_i2 at hrun
  split at hrun
  · next y x r0 => exact lv_iadd hx hb hdg (go hrun (hk_voc trivial (hk_vo2 hsv).2.2))
  · cases hrun

set_option maxHeartbeats 1000000 in
theorem hk_z_isub {ini : Bool} {rk : Nat} (FX : hk_Fx SH ch cls kd wl mt hn sc p l R s m args meth c D cI cZ cR cJ A H0 b0 mx dd own cc scr cl ini) {pc len a b c1 d : Nat} {v : Int32} {w : Int64} {sw : List (Int32 × Nat)}  (hdg : decode cc pc = .ok (.isub, len)) (hck : hk_iok cls kd wl mt hn own ini rk mx pc (.isub) len a b c1 d v w sw = true) {nxr : hk_L → List Value → hk_H → hk_O} {jmr : Nat → hk_L → List Value → hk_H → hk_O} {qf : Option Value × hk_H} (hnx : ∀ L st h, nxr L st h = some qf → hk_K SH cls kd sc D cI cZ cR cJ A H0 b0 ad0 al0 mx n0 s0 p l e R s m args below meth c Q (pc + len) L st h) (hjm : ∀ t L st h, jmr t L st h = some qf → hk_K SH cls kd sc D cI cZ cR cJ A H0 b0 ad0 al0 mx n0 s0 p l e R s m args below meth c Q t L st h)  {L : hk_L} {st : List Value} {h : hk_H} (hrun : hk_stp SH pb big none nxr jmr (fun P d k => @ite _ P d k none) (fun P d k0 k1 => @ite _ P d k0 k1) (fun y a h k => (cl y a h).bind (fun q => k q.1 q.2)) (fun r h => some (r, h)) scr ch (.isub) a c1 d v w sw L st h = some qf) : hk_K SH cls kd sc D cI cZ cR cJ A H0 b0 ad0 al0 mx n0 s0 p l e R s m args below meth c Q pc L st h := by
  obtain ⟨TB, hx, hb, hml, hown, hts, hK, hA, hin, hX, hcl, hge, hR1, hR2, hAO⟩ := FX
  intro ad H locs ls r
  obtain ⟨hP, hD, hS, hwf, hlv, hlen, hsv, hLv, hadb, hn0, hs0⟩ := id r
  unfold hk_G
  have go : ∀ {st' : List Value}, nxr L st' h = some qf → (∀ v ∈ st', hk_vo sc h.2.2.2 v) → hk_G SH cls p l e R s m args below meth c Q n0 s0 ad h H locs (pc + len) ls st' := fun h1 h2 => hnx _ _ _ h1 _ _ _ _ (r.stk h2)
  have gj : ∀ {t : Nat} {st' : List Value}, jmr t L st' h = some qf → (∀ v ∈ st', hk_vo sc h.2.2.2 v) → hk_G SH cls p l e R s m args below meth c Q n0 s0 ad h H locs t ls st' := fun h1 h2 => hjm _ _ _ _ h1 _ _ _ _ (r.stk h2)
  unfold hk_G at go gj
  simp only [hk_iok, Bool.and_eq_true, decide_eq_true_eq] at hck
  simp only [hk_stp] at hrun
  obtain rfl := hck
  unfold hk_i2 at hrun
  split at hrun
  · next y x r0 => exact lv_isub hx hb hdg (go hrun (hk_voc trivial (hk_vo2 hsv).2.2))
  · cases hrun

set_option maxHeartbeats 1000000 in
theorem hk_z_imul {ini : Bool} {rk : Nat} (FX : hk_Fx SH ch cls kd wl mt hn sc p l R s m args meth c D cI cZ cR cJ A H0 b0 mx dd own cc scr cl ini) {pc len a b c1 d : Nat} {v : Int32} {w : Int64} {sw : List (Int32 × Nat)}  (hdg : decode cc pc = .ok (.imul, len)) (hck : hk_iok cls kd wl mt hn own ini rk mx pc (.imul) len a b c1 d v w sw = true) {nxr : hk_L → List Value → hk_H → hk_O} {jmr : Nat → hk_L → List Value → hk_H → hk_O} {qf : Option Value × hk_H} (hnx : ∀ L st h, nxr L st h = some qf → hk_K SH cls kd sc D cI cZ cR cJ A H0 b0 ad0 al0 mx n0 s0 p l e R s m args below meth c Q (pc + len) L st h) (hjm : ∀ t L st h, jmr t L st h = some qf → hk_K SH cls kd sc D cI cZ cR cJ A H0 b0 ad0 al0 mx n0 s0 p l e R s m args below meth c Q t L st h)  {L : hk_L} {st : List Value} {h : hk_H} (hrun : hk_stp SH pb big none nxr jmr (fun P d k => @ite _ P d k none) (fun P d k0 k1 => @ite _ P d k0 k1) (fun y a h k => (cl y a h).bind (fun q => k q.1 q.2)) (fun r h => some (r, h)) scr ch (.imul) a c1 d v w sw L st h = some qf) : hk_K SH cls kd sc D cI cZ cR cJ A H0 b0 ad0 al0 mx n0 s0 p l e R s m args below meth c Q pc L st h := by
  obtain ⟨TB, hx, hb, hml, hown, hts, hK, hA, hin, hX, hcl, hge, hR1, hR2, hAO⟩ := FX
  intro ad H locs ls r
  obtain ⟨hP, hD, hS, hwf, hlv, hlen, hsv, hLv, hadb, hn0, hs0⟩ := id r
  unfold hk_G
  have go : ∀ {st' : List Value}, nxr L st' h = some qf → (∀ v ∈ st', hk_vo sc h.2.2.2 v) → hk_G SH cls p l e R s m args below meth c Q n0 s0 ad h H locs (pc + len) ls st' := fun h1 h2 => hnx _ _ _ h1 _ _ _ _ (r.stk h2)
  have gj : ∀ {t : Nat} {st' : List Value}, jmr t L st' h = some qf → (∀ v ∈ st', hk_vo sc h.2.2.2 v) → hk_G SH cls p l e R s m args below meth c Q n0 s0 ad h H locs t ls st' := fun h1 h2 => hjm _ _ _ _ h1 _ _ _ _ (r.stk h2)
  unfold hk_G at go gj
  simp only [hk_iok, Bool.and_eq_true, decide_eq_true_eq] at hck
  simp only [hk_stp] at hrun
  obtain rfl := hck
  unfold hk_i2 at hrun
  split at hrun
  · next y x r0 => exact lv_imul hx hb hdg (go hrun (hk_voc trivial (hk_vo2 hsv).2.2))
  · cases hrun

set_option maxHeartbeats 1000000 in
theorem hk_z_iand {ini : Bool} {rk : Nat} (FX : hk_Fx SH ch cls kd wl mt hn sc p l R s m args meth c D cI cZ cR cJ A H0 b0 mx dd own cc scr cl ini) {pc len a b c1 d : Nat} {v : Int32} {w : Int64} {sw : List (Int32 × Nat)}  (hdg : decode cc pc = .ok (.iand, len)) (hck : hk_iok cls kd wl mt hn own ini rk mx pc (.iand) len a b c1 d v w sw = true) {nxr : hk_L → List Value → hk_H → hk_O} {jmr : Nat → hk_L → List Value → hk_H → hk_O} {qf : Option Value × hk_H} (hnx : ∀ L st h, nxr L st h = some qf → hk_K SH cls kd sc D cI cZ cR cJ A H0 b0 ad0 al0 mx n0 s0 p l e R s m args below meth c Q (pc + len) L st h) (hjm : ∀ t L st h, jmr t L st h = some qf → hk_K SH cls kd sc D cI cZ cR cJ A H0 b0 ad0 al0 mx n0 s0 p l e R s m args below meth c Q t L st h)  {L : hk_L} {st : List Value} {h : hk_H} (hrun : hk_stp SH pb big none nxr jmr (fun P d k => @ite _ P d k none) (fun P d k0 k1 => @ite _ P d k0 k1) (fun y a h k => (cl y a h).bind (fun q => k q.1 q.2)) (fun r h => some (r, h)) scr ch (.iand) a c1 d v w sw L st h = some qf) : hk_K SH cls kd sc D cI cZ cR cJ A H0 b0 ad0 al0 mx n0 s0 p l e R s m args below meth c Q pc L st h := by
  obtain ⟨TB, hx, hb, hml, hown, hts, hK, hA, hin, hX, hcl, hge, hR1, hR2, hAO⟩ := FX
  intro ad H locs ls r
  obtain ⟨hP, hD, hS, hwf, hlv, hlen, hsv, hLv, hadb, hn0, hs0⟩ := id r
  unfold hk_G
  have go : ∀ {st' : List Value}, nxr L st' h = some qf → (∀ v ∈ st', hk_vo sc h.2.2.2 v) → hk_G SH cls p l e R s m args below meth c Q n0 s0 ad h H locs (pc + len) ls st' := fun h1 h2 => hnx _ _ _ h1 _ _ _ _ (r.stk h2)
  have gj : ∀ {t : Nat} {st' : List Value}, jmr t L st' h = some qf → (∀ v ∈ st', hk_vo sc h.2.2.2 v) → hk_G SH cls p l e R s m args below meth c Q n0 s0 ad h H locs t ls st' := fun h1 h2 => hjm _ _ _ _ h1 _ _ _ _ (r.stk h2)
  unfold hk_G at go gj
  simp only [hk_iok, Bool.and_eq_true, decide_eq_true_eq] at hck
  simp only [hk_stp] at hrun
  obtain rfl := hck
  unfold hk_i2 at hrun
  split at hrun
  · next y x r0 => exact lv_iand hx hb hdg (go hrun (hk_voc trivial (hk_vo2 hsv).2.2))
  · cases hrun

set_option maxHeartbeats 1000000 in
theorem hk_z_ior {ini : Bool} {rk : Nat} (FX : hk_Fx SH ch cls kd wl mt hn sc p l R s m args meth c D cI cZ cR cJ A H0 b0 mx dd own cc scr cl ini) {pc len a b c1 d : Nat} {v : Int32} {w : Int64} {sw : List (Int32 × Nat)}  (hdg : decode cc pc = .ok (.ior, len)) (hck : hk_iok cls kd wl mt hn own ini rk mx pc (.ior) len a b c1 d v w sw = true) {nxr : hk_L → List Value → hk_H → hk_O} {jmr : Nat → hk_L → List Value → hk_H → hk_O} {qf : Option Value × hk_H} (hnx : ∀ L st h, nxr L st h = some qf → hk_K SH cls kd sc D cI cZ cR cJ A H0 b0 ad0 al0 mx n0 s0 p l e R s m args below meth c Q (pc + len) L st h) (hjm : ∀ t L st h, jmr t L st h = some qf → hk_K SH cls kd sc D cI cZ cR cJ A H0 b0 ad0 al0 mx n0 s0 p l e R s m args below meth c Q t L st h)  {L : hk_L} {st : List Value} {h : hk_H} (hrun : hk_stp SH pb big none nxr jmr (fun P d k => @ite _ P d k none) (fun P d k0 k1 => @ite _ P d k0 k1) (fun y a h k => (cl y a h).bind (fun q => k q.1 q.2)) (fun r h => some (r, h)) scr ch (.ior) a c1 d v w sw L st h = some qf) : hk_K SH cls kd sc D cI cZ cR cJ A H0 b0 ad0 al0 mx n0 s0 p l e R s m args below meth c Q pc L st h := by
  obtain ⟨TB, hx, hb, hml, hown, hts, hK, hA, hin, hX, hcl, hge, hR1, hR2, hAO⟩ := FX
  intro ad H locs ls r
  obtain ⟨hP, hD, hS, hwf, hlv, hlen, hsv, hLv, hadb, hn0, hs0⟩ := id r
  unfold hk_G
  have go : ∀ {st' : List Value}, nxr L st' h = some qf → (∀ v ∈ st', hk_vo sc h.2.2.2 v) → hk_G SH cls p l e R s m args below meth c Q n0 s0 ad h H locs (pc + len) ls st' := fun h1 h2 => hnx _ _ _ h1 _ _ _ _ (r.stk h2)
  have gj : ∀ {t : Nat} {st' : List Value}, jmr t L st' h = some qf → (∀ v ∈ st', hk_vo sc h.2.2.2 v) → hk_G SH cls p l e R s m args below meth c Q n0 s0 ad h H locs t ls st' := fun h1 h2 => hjm _ _ _ _ h1 _ _ _ _ (r.stk h2)
  unfold hk_G at go gj
  simp only [hk_iok, Bool.and_eq_true, decide_eq_true_eq] at hck
  simp only [hk_stp] at hrun
  obtain rfl := hck
  unfold hk_i2 at hrun
  split at hrun
  · next y x r0 => exact lv_ior hx hb hdg (go hrun (hk_voc trivial (hk_vo2 hsv).2.2))
  · cases hrun

set_option maxHeartbeats 1000000 in
theorem hk_z_ixor {ini : Bool} {rk : Nat} (FX : hk_Fx SH ch cls kd wl mt hn sc p l R s m args meth c D cI cZ cR cJ A H0 b0 mx dd own cc scr cl ini) {pc len a b c1 d : Nat} {v : Int32} {w : Int64} {sw : List (Int32 × Nat)}  (hdg : decode cc pc = .ok (.ixor, len)) (hck : hk_iok cls kd wl mt hn own ini rk mx pc (.ixor) len a b c1 d v w sw = true) {nxr : hk_L → List Value → hk_H → hk_O} {jmr : Nat → hk_L → List Value → hk_H → hk_O} {qf : Option Value × hk_H} (hnx : ∀ L st h, nxr L st h = some qf → hk_K SH cls kd sc D cI cZ cR cJ A H0 b0 ad0 al0 mx n0 s0 p l e R s m args below meth c Q (pc + len) L st h) (hjm : ∀ t L st h, jmr t L st h = some qf → hk_K SH cls kd sc D cI cZ cR cJ A H0 b0 ad0 al0 mx n0 s0 p l e R s m args below meth c Q t L st h)  {L : hk_L} {st : List Value} {h : hk_H} (hrun : hk_stp SH pb big none nxr jmr (fun P d k => @ite _ P d k none) (fun P d k0 k1 => @ite _ P d k0 k1) (fun y a h k => (cl y a h).bind (fun q => k q.1 q.2)) (fun r h => some (r, h)) scr ch (.ixor) a c1 d v w sw L st h = some qf) : hk_K SH cls kd sc D cI cZ cR cJ A H0 b0 ad0 al0 mx n0 s0 p l e R s m args below meth c Q pc L st h := by
  obtain ⟨TB, hx, hb, hml, hown, hts, hK, hA, hin, hX, hcl, hge, hR1, hR2, hAO⟩ := FX
  intro ad H locs ls r
  obtain ⟨hP, hD, hS, hwf, hlv, hlen, hsv, hLv, hadb, hn0, hs0⟩ := id r
  unfold hk_G
  have go : ∀ {st' : List Value}, nxr L st' h = some qf → (∀ v ∈ st', hk_vo sc h.2.2.2 v) → hk_G SH cls p l e R s m args below meth c Q n0 s0 ad h H locs (pc + len) ls st' := fun h1 h2 => hnx _ _ _ h1 _ _ _ _ (r.stk h2)
  have gj : ∀ {t : Nat} {st' : List Value}, jmr t L st' h = some qf → (∀ v ∈ st', hk_vo sc h.2.2.2 v) → hk_G SH cls p l e R s m args below meth c Q n0 s0 ad h H locs t ls st' := fun h1 h2 => hjm _ _ _ _ h1 _ _ _ _ (r.stk h2)
  unfold hk_G at go gj
  simp only [hk_iok, Bool.and_eq_true, decide_eq_true_eq] at hck
  simp only [hk_stp] at hrun
  obtain rfl := hck
  unfold hk_i2 at hrun
  split at hrun
  · next y x r0 => exact lv_ixor hx hb hdg (go hrun (hk_voc trivial (hk_vo2 hsv).2.2))
  · cases hrun

set_option maxHeartbeats 1000000 in
theorem hk_z_ishl {ini : Bool} {rk : Nat} (FX : hk_Fx SH ch cls kd wl mt hn sc p l R s m args meth c D cI cZ cR cJ A H0 b0 mx dd own cc scr cl ini) {pc len a b c1 d : Nat} {v : Int32} {w : Int64} {sw : List (Int32 × Nat)}  (hdg : decode cc pc = .ok (.ishl, len)) (hck : hk_iok cls kd wl mt hn own ini rk mx pc (.ishl) len a b c1 d v w sw = true) {nxr : hk_L → List Value → hk_H → hk_O} {jmr : Nat → hk_L → List Value → hk_H → hk_O} {qf : Option Value × hk_H} (hnx : ∀ L st h, nxr L st h = some qf → hk_K SH cls kd sc D cI cZ cR cJ A H0 b0 ad0 al0 mx n0 s0 p l e R s m args below meth c Q (pc + len) L st h) (hjm : ∀ t L st h, jmr t L st h = some qf → hk_K SH cls kd sc D cI cZ cR cJ A H0 b0 ad0 al0 mx n0 s0 p l e R s m args below meth c Q t L st h)  {L : hk_L} {st : List Value} {h : hk_H} (hrun : hk_stp SH pb big none nxr jmr (fun P d k => @ite _ P d k none) (fun P d k0 k1 => @ite _ P d k0 k1) (fun y a h k => (cl y a h).bind (fun q => k q.1 q.2)) (fun r h => some (r, h)) scr ch (.ishl) a c1 d v w sw L st h = some qf) : hk_K SH cls kd sc D cI cZ cR cJ A H0 b0 ad0 al0 mx n0 s0 p l e R s m args below meth c Q pc L st h := by
  obtain ⟨TB, hx, hb, hml, hown, hts, hK, hA, hin, hX, hcl, hge, hR1, hR2, hAO⟩ := FX
  intro ad H locs ls r
  obtain ⟨hP, hD, hS, hwf, hlv, hlen, hsv, hLv, hadb, hn0, hs0⟩ := id r
  unfold hk_G
  have go : ∀ {st' : List Value}, nxr L st' h = some qf → (∀ v ∈ st', hk_vo sc h.2.2.2 v) → hk_G SH cls p l e R s m args below meth c Q n0 s0 ad h H locs (pc + len) ls st' := fun h1 h2 => hnx _ _ _ h1 _ _ _ _ (r.stk h2)
  have gj : ∀ {t : Nat} {st' : List Value}, jmr t L st' h = some qf → (∀ v ∈ st', hk_vo sc h.2.2.2 v) → hk_G SH cls p l e R s m args below meth c Q n0 s0 ad h H locs t ls st' := fun h1 h2 => hjm _ _ _ _ h1 _ _ _ _ (r.stk h2)
  unfold hk_G at go gj
  simp only [hk_iok, Bool.and_eq_true, decide_eq_true_eq] at hck
  simp only [hk_stp] at hrun
  obtain rfl := hck
  unfold hk_i2 at hrun
  split at hrun
  · next y x r0 => exact lv_ishl hx hb hdg (go hrun (hk_voc trivial (hk_vo2 hsv).2.2))
  · cases hrun

set_option maxHeartbeats 1000000 in
theorem hk_z_ishr {ini : Bool} {rk : Nat} (FX : hk_Fx SH ch cls kd wl mt hn sc p l R s m args meth c D cI cZ cR cJ A H0 b0 mx dd own cc scr cl ini) {pc len a b c1 d : Nat} {v : Int32} {w : Int64} {sw : List (Int32 × Nat)}  (hdg : decode cc pc = .ok (.ishr, len)) (hck : hk_iok cls kd wl mt hn own ini rk mx pc (.ishr) len a b c1 d v w sw = true) {nxr : hk_L → List Value → hk_H → hk_O} {jmr : Nat → hk_L → List Value → hk_H → hk_O} {qf : Option Value × hk_H} (hnx : ∀ L st h, nxr L st h = some qf → hk_K SH cls kd sc D cI cZ cR cJ A H0 b0 ad0 al0 mx n0 s0 p l e R s m args below meth c Q (pc + len) L st h) (hjm : ∀ t L st h, jmr t L st h = some qf → hk_K SH cls kd sc D cI cZ cR cJ A H0 b0 ad0 al0 mx n0 s0 p l e R s m args below meth c Q t L st h)  {L : hk_L} {st : List Value} {h : hk_H} (hrun : hk_stp SH pb big none nxr jmr (fun P d k => @ite _ P d k none) (fun P d k0 k1 => @ite _ P d k0 k1) (fun y a h k => (cl y a h).bind (fun q => k q.1 q.2)) (fun r h => some (r, h)) scr ch (.ishr) a c1 d v w sw L st h = some qf) : hk_K SH cls kd sc D cI cZ cR cJ A H0 b0 ad0 al0 mx n0 s0 p l e R s m args below meth c Q pc L st h := by
  obtain ⟨TB, hx, hb, hml, hown, hts, hK, hA, hin, hX, hcl, hge, hR1, hR2, hAO⟩ := FX
  intro ad H locs ls r
  obtain ⟨hP, hD, hS, hwf, hlv, hlen, hsv, hLv, hadb, hn0, hs0⟩ := id r
  unfold hk_G
  have go : ∀ {st' : List Value}, nxr L st' h = some qf → (∀ v ∈ st', hk_vo sc h.2.2.2 v) → hk_G SH cls p l e R s m args below meth c Q n0 s0 ad h H locs (pc + len) ls st' := fun h1 h2 => hnx _ _ _ h1 _ _ _ _ (r.stk h2)
  have gj : ∀ {t : Nat} {st' : List Value}, jmr t L st' h = some qf → (∀ v ∈ st', hk_vo sc h.2.2.2 v) → hk_G SH cls p l e R s m args below meth c Q n0 s0 ad h H locs t ls st' := fun h1 h2 => hjm _ _ _ _ h1 _ _ _ _ (r.stk h2)
  unfold hk_G at go gj
  simp only [hk_iok, Bool.and_eq_true, decide_eq_true_eq] at hck
  simp only [hk_stp] at hrun
  obtain rfl := hck
  unfold hk_i2 at hrun
  split at hrun
  · next y x r0 => exact lv_ishr hx hb hdg (go hrun (hk_voc trivial (hk_vo2 hsv).2.2))
  · cases hrun

set_option maxHeartbeats 1000000 in
theorem hk_z_iushr {ini : Bool} {rk : Nat} (FX : hk_Fx SH ch cls kd wl mt hn sc p l R s m args meth c D cI cZ cR cJ A H0 b0 mx dd own cc scr cl ini) {pc len a b c1 d : Nat} {v : Int32} {w : Int64} {sw : List (Int32 × Nat)}  (hdg : decode cc pc = .ok (.iushr, len)) (hck : hk_iok cls kd wl mt hn own ini rk mx pc (.iushr) len a b c1 d v w sw = true) {nxr : hk_L → List Value → hk_H → hk_O} {jmr : Nat → hk_L → List Value → hk_H → hk_O} {qf : Option Value × hk_H} (hnx : ∀ L st h, nxr L st h = some qf → hk_K SH cls kd sc D cI cZ cR cJ A H0 b0 ad0 al0 mx n0 s0 p l e R s m args below meth c Q (pc + len) L st h) (hjm : ∀ t L st h, jmr t L st h = some qf → hk_K SH cls kd sc D cI cZ cR cJ A H0 b0 ad0 al0 mx n0 s0 p l e R s m args below meth c Q t L st h)  {L : hk_L} {st : List Value} {h : hk_H} (hrun : hk_stp SH pb big none nxr jmr (fun P d k => @ite _ P d k none) (fun P d k0 k1 => @ite _ P d k0 k1) (fun y a h k => (cl y a h).bind (fun q => k q.1 q.2)) (fun r h => some (r, h)) scr ch (.iushr) a c1 d v w sw L st h = some qf) : hk_K SH cls kd sc D cI cZ cR cJ A H0 b0 ad0 al0 mx n0 s0 p l e R s m args below meth c Q pc L st h := by
  obtain ⟨TB, hx, hb, hml, hown, hts, hK, hA, hin, hX, hcl, hge, hR1, hR2, hAO⟩ := FX
  intro ad H locs ls r
  obtain ⟨hP, hD, hS, hwf, hlv, hlen, hsv, hLv, hadb, hn0, hs0⟩ := id r
  unfold hk_G
  have go : ∀ {st' : List Value}, nxr L st' h = some qf → (∀ v ∈ st', hk_vo sc h.2.2.2 v) → hk_G SH cls p l e R s m args below meth c Q n0 s0 ad h H locs (pc + len) ls st' := fun h1 h2 => hnx _ _ _ h1 _ _ _ _ (r.stk h2)
  have gj : ∀ {t : Nat} {st' : List Value}, jmr t L st' h = some qf → (∀ v ∈ st', hk_vo sc h.2.2.2 v) → hk_G SH cls p l e R s m args below meth c Q n0 s0 ad h H locs t ls st' := fun h1 h2 => hjm _ _ _ _ h1 _ _ _ _ (r.stk h2)
  unfold hk_G at go gj
  simp only [hk_iok, Bool.and_eq_true, decide_eq_true_eq] at hck
  simp only [hk_stp] at hrun
  obtain rfl := hck
  unfold hk_i2 at hrun
  split at hrun
  · next y x r0 => exact lv_iushr hx hb hdg rfl (go hrun (hk_voc trivial (hk_vo2 hsv).2.2))
  · cases hrun

set_option maxHeartbeats 1000000 in
theorem hk_z_ladd {ini : Bool} {rk : Nat} (FX : hk_Fx SH ch cls kd wl mt hn sc p l R s m args meth c D cI cZ cR cJ A H0 b0 mx dd own cc scr cl ini) {pc len a b c1 d : Nat} {v : Int32} {w : Int64} {sw : List (Int32 × Nat)}  (hdg : decode cc pc = .ok (.ladd, len)) (hck : hk_iok cls kd wl mt hn own ini rk mx pc (.ladd) len a b c1 d v w sw = true) {nxr : hk_L → List Value → hk_H → hk_O} {jmr : Nat → hk_L → List Value → hk_H → hk_O} {qf : Option Value × hk_H} (hnx : ∀ L st h, nxr L st h = some qf → hk_K SH cls kd sc D cI cZ cR cJ A H0 b0 ad0 al0 mx n0 s0 p l e R s m args below meth c Q (pc + len) L st h) (hjm : ∀ t L st h, jmr t L st h = some qf → hk_K SH cls kd sc D cI cZ cR cJ A H0 b0 ad0 al0 mx n0 s0 p l e R s m args below meth c Q t L st h)  {L : hk_L} {st : List Value} {h : hk_H} (hrun : hk_stp SH pb big none nxr jmr (fun P d k => @ite _ P d k none) (fun P d k0 k1 => @ite _ P d k0 k1) (fun y a h k => (cl y a h).bind (fun q => k q.1 q.2)) (fun r h => some (r, h)) scr ch (.ladd) a c1 d v w sw L st h = some qf) : hk_K SH cls kd sc D cI cZ cR cJ A H0 b0 ad0 al0 mx n0 s0 p l e R s m args below meth c Q pc L st h := by
  obtain ⟨TB, hx, hb, hml, hown, hts, hK, hA, hin, hX, hcl, hge, hR1, hR2, hAO⟩ := FX
  intro ad H locs ls r
  obtain ⟨hP, hD, hS, hwf, hlv, hlen, hsv, hLv, hadb, hn0, hs0⟩ := id r
  unfold hk_G
  have go : ∀ {st' : List Value}, nxr L st' h = some qf → (∀ v ∈ st', hk_vo sc h.2.2.2 v) → hk_G SH cls p l e R s m args below meth c Q n0 s0 ad h H locs (pc + len) ls st' := fun h1 h2 => hnx _ _ _ h1 _ _ _ _ (r.stk h2)
  have gj : ∀ {t : Nat} {st' : List Value}, jmr t L st' h = some qf → (∀ v ∈ st', hk_vo sc h.2.2.2 v) → hk_G SH cls p l e R s m args below meth c Q n0 s0 ad h H locs t ls st' := fun h1 h2 => hjm _ _ _ _ h1 _ _ _ _ (r.stk h2)
  unfold hk_G at go gj
  simp only [hk_iok, Bool.and_eq_true, decide_eq_true_eq] at hck
  simp only [hk_stp] at hrun
  obtain rfl := hck
  unfold hk_l2 at hrun
  split at hrun
  · next y x r0 => exact lv_ladd hx hb hdg (go hrun (hk_voc trivial (hk_vo2 hsv).2.2))
  · cases hrun

set_option maxHeartbeats 1000000 in
theorem hk_z_lsub {ini : Bool} {rk : Nat} (FX : hk_Fx SH ch cls kd wl mt hn sc p l R s m args meth c D cI cZ cR cJ A H0 b0 mx dd own cc scr cl ini) {pc len a b c1 d : Nat} {v : Int32} {w : Int64} {sw : List (Int32 × Nat)}  (hdg : decode cc pc = .ok (.lsub, len)) (hck : hk_iok cls kd wl mt hn own ini rk mx pc (.lsub) len a b c1 d v w sw = true) {nxr : hk_L → List Value → hk_H → hk_O} {jmr : Nat → hk_L → List Value → hk_H → hk_O} {qf : Option Value × hk_H} (hnx : ∀ L st h, nxr L st h = some qf → hk_K SH cls kd sc D cI cZ cR cJ A H0 b0 ad0 al0 mx n0 s0 p l e R s m args below meth c Q (pc + len) L st h) (hjm : ∀ t L st h, jmr t L st h = some qf → hk_K SH cls kd sc D cI cZ cR cJ A H0 b0 ad0 al0 mx n0 s0 p l e R s m args below meth c Q t L st h)  {L : hk_L} {st : List Value} {h : hk_H} (hrun : hk_stp SH pb big none nxr jmr (fun P d k => @ite _ P d k none) (fun P d k0 k1 => @ite _ P d k0 k1) (fun y a h k => (cl y a h).bind (fun q => k q.1 q.2)) (fun r h => some (r, h)) scr ch (.lsub) a c1 d v w sw L st h = some qf) : hk_K SH cls kd sc D cI cZ cR cJ A H0 b0 ad0 al0 mx n0 s0 p l e R s m args below meth c Q pc L st h := by
  obtain ⟨TB, hx, hb, hml, hown, hts, hK, hA, hin, hX, hcl, hge, hR1, hR2, hAO⟩ := FX
  intro ad H locs ls r
  obtain ⟨hP, hD, hS, hwf, hlv, hlen, hsv, hLv, hadb, hn0, hs0⟩ := id r
  unfold hk_G
  have go : ∀ {st' : List Value}, nxr L st' h = some qf → (∀ v ∈ st', hk_vo sc h.2.2.2 v) → hk_G SH cls p l e R s m args below meth c Q n0 s0 ad h H locs (pc + len) ls st' := fun h1 h2 => hnx _ _ _ h1 _ _ _ _ (r.stk h2)
  have gj : ∀ {t : Nat} {st' : List Value}, jmr t L st' h = some qf → (∀ v ∈ st', hk_vo sc h.2.2.2 v) → hk_G SH cls p l e R s m args below meth c Q n0 s0 ad h H locs t ls st' := fun h1 h2 => hjm _ _ _ _ h1 _ _ _ _ (r.stk h2)
  unfold hk_G at go gj
  simp only [hk_iok, Bool.and_eq_true, decide_eq_true_eq] at hck
  simp only [hk_stp] at hrun
  obtain rfl := hck
  unfold hk_l2 at hrun
  split at hrun
  · next y x r0 => exact lv_lsub hx hb hdg (go hrun (hk_voc trivial (hk_vo2 hsv).2.2))
  · cases hrun

set_option maxHeartbeats 1000000 in
theorem hk_z_lmul {ini : Bool} {rk : Nat} (FX : hk_Fx SH ch cls kd wl mt hn sc p l R s m args meth c D cI cZ cR cJ A H0 b0 mx dd own cc scr cl ini) {pc len a b c1 d : Nat} {v : Int32} {w : Int64} {sw : List (Int32 × Nat)}  (hdg : decode cc pc = .ok (.lmul, len)) (hck : hk_iok cls kd wl mt hn own ini rk mx pc (.lmul) len a b c1 d v w sw = true) {nxr : hk_L → List Value → hk_H → hk_O} {jmr : Nat → hk_L → List Value → hk_H → hk_O} {qf : Option Value × hk_H} (hnx : ∀ L st h, nxr L st h = some qf → hk_K SH cls kd sc D cI cZ cR cJ A H0 b0 ad0 al0 mx n0 s0 p l e R s m args below meth c Q (pc + len) L st h) (hjm : ∀ t L st h, jmr t L st h = some qf → hk_K SH cls kd sc D cI cZ cR cJ A H0 b0 ad0 al0 mx n0 s0 p l e R s m args below meth c Q t L st h)  {L : hk_L} {st : List Value} {h : hk_H} (hrun : hk_stp SH pb big none nxr jmr (fun P d k => @ite _ P d k none) (fun P d k0 k1 => @ite _ P d k0 k1) (fun y a h k => (cl y a h).bind (fun q => k q.1 q.2)) (fun r h => some (r, h)) scr ch (.lmul) a c1 d v w sw L st h = some qf) : hk_K SH cls kd sc D cI cZ cR cJ A H0 b0 ad0 al0 mx n0 s0 p l e R s m args below meth c Q pc L st h := by
  obtain ⟨TB, hx, hb, hml, hown, hts, hK, hA, hin, hX, hcl, hge, hR1, hR2, hAO⟩ := FX
  intro ad H locs ls r
  obtain ⟨hP, hD, hS, hwf, hlv, hlen, hsv, hLv, hadb, hn0, hs0⟩ := id r
  unfold hk_G
  have go : ∀ {st' : List Value}, nxr L st' h = some qf → (∀ v ∈ st', hk_vo sc h.2.2.2 v) → hk_G SH cls p l e R s m args below meth c Q n0 s0 ad h H locs (pc + len) ls st' := fun h1 h2 => hnx _ _ _ h1 _ _ _ _ (r.stk h2)
  have gj : ∀ {t : Nat} {st' : List Value}, jmr t L st' h = some qf → (∀ v ∈ st', hk_vo sc h.2.2.2 v) → hk_G SH cls p l e R s m args below meth c Q n0 s0 ad h H locs t ls st' := fun h1 h2 => hjm _ _ _ _ h1 _ _ _ _ (r.stk h2)
  unfold hk_G at go gj
  simp only [hk_iok, Bool.and_eq_true, decide_eq_true_eq] at hck
  simp only [hk_stp] at hrun
  obtain rfl := hck
  unfold hk_l2 at hrun
  split at hrun
  · next y x r0 => exact lv_lmul hx hb hdg (go hrun (hk_voc trivial (hk_vo2 hsv).2.2))
  · cases hrun

set_option maxHeartbeats 1000000 in
theorem hk_z_idiv {ini : Bool} {rk : Nat} (FX : hk_Fx SH ch cls kd wl mt hn sc p l R s m args meth c D cI cZ cR cJ A H0 b0 mx dd own cc scr cl ini) {pc len a b c1 d : Nat} {v : Int32} {w : Int64} {sw : List (Int32 × Nat)}  (hdg : decode cc pc = .ok (.idiv, len)) (hck : hk_iok cls kd wl mt hn own ini rk mx pc (.idiv) len a b c1 d v w sw = true) {nxr : hk_L → List Value → hk_H → hk_O} {jmr : Nat → hk_L → List Value → hk_H → hk_O} {qf : Option Value × hk_H} (hnx : ∀ L st h, nxr L st h = some qf → hk_K SH cls kd sc D cI cZ cR cJ A H0 b0 ad0 al0 mx n0 s0 p l e R s m args below meth c Q (pc + len) L st h) (hjm : ∀ t L st h, jmr t L st h = some qf → hk_K SH cls kd sc D cI cZ cR cJ A H0 b0 ad0 al0 mx n0 s0 p l e R s m args below meth c Q t L st h)  {L : hk_L} {st : List Value} {h : hk_H} (hrun : hk_stp SH pb big none nxr jmr (fun P d k => @ite _ P d k none) (fun P d k0 k1 => @ite _ P d k0 k1) (fun y a h k => (cl y a h).bind (fun q => k q.1 q.2)) (fun r h => some (r, h)) scr ch (.idiv) a c1 d v w sw L st h = some qf) : hk_K SH cls kd sc D cI cZ cR cJ A H0 b0 ad0 al0 mx n0 s0 p l e R s m args below meth c Q pc L st h := by
  obtain ⟨TB, hx, hb, hml, hown, hts, hK, hA, hin, hX, hcl, hge, hR1, hR2, hAO⟩ := FX
  intro ad H locs ls r
  obtain ⟨hP, hD, hS, hwf, hlv, hlen, hsv, hLv, hadb, hn0, hs0⟩ := id r
  unfold hk_G
  have go : ∀ {st' : List Value}, nxr L st' h = some qf → (∀ v ∈ st', hk_vo sc h.2.2.2 v) → hk_G SH cls p l e R s m args below meth c Q n0 s0 ad h H locs (pc + len) ls st' := fun h1 h2 => hnx _ _ _ h1 _ _ _ _ (r.stk h2)
  have gj : ∀ {t : Nat} {st' : List Value}, jmr t L st' h = some qf → (∀ v ∈ st', hk_vo sc h.2.2.2 v) → hk_G SH cls p l e R s m args below meth c Q n0 s0 ad h H locs t ls st' := fun h1 h2 => hjm _ _ _ _ h1 _ _ _ _ (r.stk h2)
  unfold hk_G at go gj
  simp only [hk_iok, Bool.and_eq_true, decide_eq_true_eq] at hck
  simp only [hk_stp] at hrun
  obtain rfl := hck
  split at hrun
  · next y x r0 =>
    split at hrun
    · next hy => exact lv_idiv hx hb hdg hy (go hrun (hk_voc trivial (hk_vo2 hsv).2.2))
    · cases hrun
  · cases hrun

set_option maxHeartbeats 1000000 in
theorem hk_z_irem {ini : Bool} {rk : Nat} (FX : hk_Fx SH ch cls kd wl mt hn sc p l R s m args meth c D cI cZ cR cJ A H0 b0 mx dd own cc scr cl ini) {pc len a b c1 d : Nat} {v : Int32} {w : Int64} {sw : List (Int32 × Nat)}  (hdg : decode cc pc = .ok (.irem, len)) (hck : hk_iok cls kd wl mt hn own ini rk mx pc (.irem) len a b c1 d v w sw = true) {nxr : hk_L → List Value → hk_H → hk_O} {jmr : Nat → hk_L → List Value → hk_H → hk_O} {qf : Option Value × hk_H} (hnx : ∀ L st h, nxr L st h = some qf → hk_K SH cls kd sc D cI cZ cR cJ A H0 b0 ad0 al0 mx n0 s0 p l e R s m args below meth c Q (pc + len) L st h) (hjm : ∀ t L st h, jmr t L st h = some qf → hk_K SH cls kd sc D cI cZ cR cJ A H0 b0 ad0 al0 mx n0 s0 p l e R s m args below meth c Q t L st h)  {L : hk_L} {st : List Value} {h : hk_H} (hrun : hk_stp SH pb big none nxr jmr (fun P d k => @ite _ P d k none) (fun P d k0 k1 => @ite _ P d k0 k1) (fun y a h k => (cl y a h).bind (fun q => k q.1 q.2)) (fun r h => some (r, h)) scr ch (.irem) a c1 d v w sw L st h = some qf) : hk_K SH cls kd sc D cI cZ cR cJ A H0 b0 ad0 al0 mx n0 s0 p l e R s m args below meth c Q pc L st h := by
  obtain ⟨TB, hx, hb, hml, hown, hts, hK, hA, hin, hX, hcl, hge, hR1, hR2, hAO⟩ := FX
  intro ad H locs ls r
  obtain ⟨hP, hD, hS, hwf, hlv, hlen, hsv, hLv, hadb, hn0, hs0⟩ := id r
  unfold hk_G
  have go : ∀ {st' : List Value}, nxr L st' h = some qf → (∀ v ∈ st', hk_vo sc h.2.2.2 v) → hk_G SH cls p l e R s m args below meth c Q n0 s0 ad h H locs (pc + len) ls st' := fun h1 h2 => hnx _ _ _ h1 _ _ _ _ (r.stk h2)
  have gj : ∀ {t : Nat} {st' : List Value}, jmr t L st' h = some qf → (∀ v ∈ st', hk_vo sc h.2.2.2 v) → hk_G SH cls p l e R s m args below meth c Q n0 s0 ad h H locs t ls st' := fun h1 h2 => hjm _ _ _ _ h1 _ _ _ _ (r.stk h2)
  unfold hk_G at go gj
  simp only [hk_iok, Bool.and_eq_true, decide_eq_true_eq] at hck
  simp only [hk_stp] at hrun
  obtain rfl := hck
  split at hrun
  · next y x r0 =>
    split at hrun
    · next hy => exact lv_irem hx hb hdg hy (go hrun (hk_voc trivial (hk_vo2 hsv).2.2))
    · cases hrun
  · cases hrun

set_option maxHeartbeats 1000000 in
theorem hk_z_ldiv {ini : Bool} {rk : Nat} (FX : hk_Fx SH ch cls kd wl mt hn sc p l R s m args meth c D cI cZ cR cJ A H0 b0 mx dd own cc scr cl ini) {pc len a b c1 d : Nat} {v : Int32} {w : Int64} {sw : List (Int32 × Nat)}  (hdg : decode cc pc = .ok (.ldiv, len)) (hck : hk_iok cls kd wl mt hn own ini rk mx pc (.ldiv) len a b c1 d v w sw = true) {nxr : hk_L → List Value → hk_H → hk_O} {jmr : Nat → hk_L → List Value → hk_H → hk_O} {qf : Option Value × hk_H} (hnx : ∀ L st h, nxr L st h = some qf → hk_K SH cls kd sc D cI cZ cR cJ A H0 b0 ad0 al0 mx n0 s0 p l e R s m args below meth c Q (pc + len) L st h) (hjm : ∀ t L st h, jmr t L st h = some qf → hk_K SH cls kd sc D cI cZ cR cJ A H0 b0 ad0 al0 mx n0 s0 p l e R s m args below meth c Q t L st h)  {L : hk_L} {st : List Value} {h : hk_H} (hrun : hk_stp SH pb big none nxr jmr (fun P d k => @ite _ P d k none) (fun P d k0 k1 => @ite _ P d k0 k1) (fun y a h k => (cl y a h).bind (fun q => k q.1 q.2)) (fun r h => some (r, h)) scr ch (.ldiv) a c1 d v w sw L st h = some qf) : hk_K SH cls kd sc D cI cZ cR cJ A H0 b0 ad0 al0 mx n0 s0 p l e R s m args below meth c Q pc L st h := by
  obtain ⟨TB, hx, hb, hml, hown, hts, hK, hA, hin, hX, hcl, hge, hR1, hR2, hAO⟩ := FX
  intro ad H locs ls r
  obtain ⟨hP, hD, hS, hwf, hlv, hlen, hsv, hLv, hadb, hn0, hs0⟩ := id r
  unfold hk_G
  have go : ∀ {st' : List Value}, nxr L st' h = some qf → (∀ v ∈ st', hk_vo sc h.2.2.2 v) → hk_G SH cls p l e R s m args below meth c Q n0 s0 ad h H locs (pc + len) ls st' := fun h1 h2 => hnx _ _ _ h1 _ _ _ _ (r.stk h2)
  have gj : ∀ {t : Nat} {st' : List Value}, jmr t L st' h = some qf → (∀ v ∈ st', hk_vo sc h.2.2.2 v) → hk_G SH cls p l e R s m args below meth c Q n0 s0 ad h H locs t ls st' := fun h1 h2 => hjm _ _ _ _ h1 _ _ _ _ (r.stk h2)
  unfold hk_G at go gj
  simp only [hk_iok, Bool.and_eq_true, decide_eq_true_eq] at hck
  simp only [hk_stp] at hrun
  obtain rfl := hck
  split at hrun
  · next y x r0 =>
    split at hrun
    · next hy => exact lv_ldiv hx hb hdg hy (go hrun (hk_voc trivial (hk_vo2 hsv).2.2))
    · cases hrun
  · cases hrun

set_option maxHeartbeats 1000000 in
theorem hk_z_lneg {ini : Bool} {rk : Nat} (FX : hk_Fx SH ch cls kd wl mt hn sc p l R s m args meth c D cI cZ cR cJ A H0 b0 mx dd own cc scr cl ini) {pc len a b c1 d : Nat} {v : Int32} {w : Int64} {sw : List (Int32 × Nat)}  (hdg : decode cc pc = .ok (.lneg, len)) (hck : hk_iok cls kd wl mt hn own ini rk mx pc (.lneg) len a b c1 d v w sw = true) {nxr : hk_L → List Value → hk_H → hk_O} {jmr : Nat → hk_L → List Value → hk_H → hk_O} {qf : Option Value × hk_H} (hnx : ∀ L st h, nxr L st h = some qf → hk_K SH cls kd sc D cI cZ cR cJ A H0 b0 ad0 al0 mx n0 s0 p l e R s m args below meth c Q (pc + len) L st h) (hjm : ∀ t L st h, jmr t L st h = some qf → hk_K SH cls kd sc D cI cZ cR cJ A H0 b0 ad0 al0 mx n0 s0 p l e R s m args below meth c Q t L st h)  {L : hk_L} {st : List Value} {h : hk_H} (hrun : hk_stp SH pb big none nxr jmr (fun P d k => @ite _ P d k none) (fun P d k0 k1 => @ite _ P d k0 k1) (fun y a h k => (cl y a h).bind (fun q => k q.1 q.2)) (fun r h => some (r, h)) scr ch (.lneg) a c1 d v w sw L st h = some qf) : hk_K SH cls kd sc D cI cZ cR cJ A H0 b0 ad0 al0 mx n0 s0 p l e R s m args below meth c Q pc L st h := by
  obtain ⟨TB, hx, hb, hml, hown, hts, hK, hA, hin, hX, hcl, hge, hR1, hR2, hAO⟩ := FX
  intro ad H locs ls r
  obtain ⟨hP, hD, hS, hwf, hlv, hlen, hsv, hLv, hadb, hn0, hs0⟩ := id r
  unfold hk_G
  have go : ∀ {st' : List Value}, nxr L st' h = some qf → (∀ v ∈ st', hk_vo sc h.2.2.2 v) → hk_G SH cls p l e R s m args below meth c Q n0 s0 ad h H locs (pc + len) ls st' := fun h1 h2 => hnx _ _ _ h1 _ _ _ _ (r.stk h2)
  have gj : ∀ {t : Nat} {st' : List Value}, jmr t L st' h = some qf → (∀ v ∈ st', hk_vo sc h.2.2.2 v) → hk_G SH cls p l e R s m args below meth c Q n0 s0 ad h H locs t ls st' := fun h1 h2 => hjm _ _ _ _ h1 _ _ _ _ (r.stk h2)
  unfold hk_G at go gj
  simp only [hk_iok, Bool.and_eq_true, decide_eq_true_eq] at hck
  simp only [hk_stp] at hrun
  obtain rfl := hck
  split at hrun
  · next x r0 => exact lv_lneg hx hb hdg (go hrun (hk_voc trivial (hk_vot hsv).2))
  · cases hrun

set_option maxHeartbeats 1000000 in
theorem hk_z_i2l {ini : Bool} {rk : Nat} (FX : hk_Fx SH ch cls kd wl mt hn sc p l R s m args meth c D cI cZ cR cJ A H0 b0 mx dd own cc scr cl ini) {pc len a b c1 d : Nat} {v : Int32} {w : Int64} {sw : List (Int32 × Nat)}  (hdg : decode cc pc = .ok (.i2l, len)) (hck : hk_iok cls kd wl mt hn own ini rk mx pc (.i2l) len a b c1 d v w sw = true) {nxr : hk_L → List Value → hk_H → hk_O} {jmr : Nat → hk_L → List Value → hk_H → hk_O} {qf : Option Value × hk_H} (hnx : ∀ L st h, nxr L st h = some qf → hk_K SH cls kd sc D cI cZ cR cJ A H0 b0 ad0 al0 mx n0 s0 p l e R s m args below meth c Q (pc + len) L st h) (hjm : ∀ t L st h, jmr t L st h = some qf → hk_K SH cls kd sc D cI cZ cR cJ A H0 b0 ad0 al0 mx n0 s0 p l e R s m args below meth c Q t L st h)  {L : hk_L} {st : List Value} {h : hk_H} (hrun : hk_stp SH pb big none nxr jmr (fun P d k => @ite _ P d k none) (fun P d k0 k1 => @ite _ P d k0 k1) (fun y a h k => (cl y a h).bind (fun q => k q.1 q.2)) (fun r h => some (r, h)) scr ch (.i2l) a c1 d v w sw L st h = some qf) : hk_K SH cls kd sc D cI cZ cR cJ A H0 b0 ad0 al0 mx n0 s0 p l e R s m args below meth c Q pc L st h := by
  obtain ⟨TB, hx, hb, hml, hown, hts, hK, hA, hin, hX, hcl, hge, hR1, hR2, hAO⟩ := FX
  intro ad H locs ls r
  obtain ⟨hP, hD, hS, hwf, hlv, hlen, hsv, hLv, hadb, hn0, hs0⟩ := id r
  unfold hk_G
  have go : ∀ {st' : List Value}, nxr L st' h = some qf → (∀ v ∈ st', hk_vo sc h.2.2.2 v) → hk_G SH cls p l e R s m args below meth c Q n0 s0 ad h H locs (pc + len) ls st' := fun h1 h2 => hnx _ _ _ h1 _ _ _ _ (r.stk h2)
  have gj : ∀ {t : Nat} {st' : List Value}, jmr t L st' h = some qf → (∀ v ∈ st', hk_vo sc h.2.2.2 v) → hk_G SH cls p l e R s m args below meth c Q n0 s0 ad h H locs t ls st' := fun h1 h2 => hjm _ _ _ _ h1 _ _ _ _ (r.stk h2)
  unfold hk_G at go gj
  simp only [hk_iok, Bool.and_eq_true, decide_eq_true_eq] at hck
  simp only [hk_stp] at hrun
  obtain rfl := hck
  split at hrun
  · next x r0 => exact lv_i2l hx hb hdg rfl (go hrun (hk_voc trivial (hk_vot hsv).2))
  · cases hrun

set_option maxHeartbeats 1000000 in
theorem hk_z_l2i {ini : Bool} {rk : Nat} (FX : hk_Fx SH ch cls kd wl mt hn sc p l R s m args meth c D cI cZ cR cJ A H0 b0 mx dd own cc scr cl ini) {pc len a b c1 d : Nat} {v : Int32} {w : Int64} {sw : List (Int32 × Nat)}  (hdg : decode cc pc = .ok (.l2i, len)) (hck : hk_iok cls kd wl mt hn own ini rk mx pc (.l2i) len a b c1 d v w sw = true) {nxr : hk_L → List Value → hk_H → hk_O} {jmr : Nat → hk_L → List Value → hk_H → hk_O} {qf : Option Value × hk_H} (hnx : ∀ L st h, nxr L st h = some qf → hk_K SH cls kd sc D cI cZ cR cJ A H0 b0 ad0 al0 mx n0 s0 p l e R s m args below meth c Q (pc + len) L st h) (hjm : ∀ t L st h, jmr t L st h = some qf → hk_K SH cls kd sc D cI cZ cR cJ A H0 b0 ad0 al0 mx n0 s0 p l e R s m args below meth c Q t L st h)  {L : hk_L} {st : List Value} {h : hk_H} (hrun : hk_stp SH pb big none nxr jmr (fun P d k => @ite _ P d k none) (fun P d k0 k1 => @ite _ P d k0 k1) (fun y a h k => (cl y a h).bind (fun q => k q.1 q.2)) (fun r h => some (r, h)) scr ch (.l2i) a c1 d v w sw L st h = some qf) : hk_K SH cls kd sc D cI cZ cR cJ A H0 b0 ad0 al0 mx n0 s0 p l e R s m args below meth c Q pc L st h := by
  obtain ⟨TB, hx, hb, hml, hown, hts, hK, hA, hin, hX, hcl, hge, hR1, hR2, hAO⟩ := FX
  intro ad H locs ls r
  obtain ⟨hP, hD, hS, hwf, hlv, hlen, hsv, hLv, hadb, hn0, hs0⟩ := id r
  unfold hk_G
  have go : ∀ {st' : List Value}, nxr L st' h = some qf → (∀ v ∈ st', hk_vo sc h.2.2.2 v) → hk_G SH cls p l e R s m args below meth c Q n0 s0 ad h H locs (pc + len) ls st' := fun h1 h2 => hnx _ _ _ h1 _ _ _ _ (r.stk h2)
  have gj : ∀ {t : Nat} {st' : List Value}, jmr t L st' h = some qf → (∀ v ∈ st', hk_vo sc h.2.2.2 v) → hk_G SH cls p l e R s m args below meth c Q n0 s0 ad h H locs t ls st' := fun h1 h2 => hjm _ _ _ _ h1 _ _ _ _ (r.stk h2)
  unfold hk_G at go gj
  simp only [hk_iok, Bool.and_eq_true, decide_eq_true_eq] at hck
  simp only [hk_stp] at hrun
  obtain rfl := hck
  split at hrun
  · next x r0 => exact lv_l2i hx hb hdg rfl (go hrun (hk_voc trivial (hk_vot hsv).2))
  · cases hrun

set_option maxHeartbeats 1000000 in
theorem hk_z_lcmp {ini : Bool} {rk : Nat} (FX : hk_Fx SH ch cls kd wl mt hn sc p l R s m args meth c D cI cZ cR cJ A H0 b0 mx dd own cc scr cl ini) {pc len a b c1 d : Nat} {v : Int32} {w : Int64} {sw : List (Int32 × Nat)}  (hdg : decode cc pc = .ok (.lcmp, len)) (hck : hk_iok cls kd wl mt hn own ini rk mx pc (.lcmp) len a b c1 d v w sw = true) {nxr : hk_L → List Value → hk_H → hk_O} {jmr : Nat → hk_L → List Value → hk_H → hk_O} {qf : Option Value × hk_H} (hnx : ∀ L st h, nxr L st h = some qf → hk_K SH cls kd sc D cI cZ cR cJ A H0 b0 ad0 al0 mx n0 s0 p l e R s m args below meth c Q (pc + len) L st h) (hjm : ∀ t L st h, jmr t L st h = some qf → hk_K SH cls kd sc D cI cZ cR cJ A H0 b0 ad0 al0 mx n0 s0 p l e R s m args below meth c Q t L st h)  {L : hk_L} {st : List Value} {h : hk_H} (hrun : hk_stp SH pb big none nxr jmr (fun P d k => @ite _ P d k none) (fun P d k0 k1 => @ite _ P d k0 k1) (fun y a h k => (cl y a h).bind (fun q => k q.1 q.2)) (fun r h => some (r, h)) scr ch (.lcmp) a c1 d v w sw L st h = some qf) : hk_K SH cls kd sc D cI cZ cR cJ A H0 b0 ad0 al0 mx n0 s0 p l e R s m args below meth c Q pc L st h := by
  obtain ⟨TB, hx, hb, hml, hown, hts, hK, hA, hin, hX, hcl, hge, hR1, hR2, hAO⟩ := FX
  intro ad H locs ls r
  obtain ⟨hP, hD, hS, hwf, hlv, hlen, hsv, hLv, hadb, hn0, hs0⟩ := id r
  unfold hk_G
  have go : ∀ {st' : List Value}, nxr L st' h = some qf → (∀ v ∈ st', hk_vo sc h.2.2.2 v) → hk_G SH cls p l e R s m args below meth c Q n0 s0 ad h H locs (pc + len) ls st' := fun h1 h2 => hnx _ _ _ h1 _ _ _ _ (r.stk h2)
  have gj : ∀ {t : Nat} {st' : List Value}, jmr t L st' h = some qf → (∀ v ∈ st', hk_vo sc h.2.2.2 v) → hk_G SH cls p l e R s m args below meth c Q n0 s0 ad h H locs t ls st' := fun h1 h2 => hjm _ _ _ _ h1 _ _ _ _ (r.stk h2)
  unfold hk_G at go gj
  simp only [hk_iok, Bool.and_eq_true, decide_eq_true_eq] at hck
  simp only [hk_stp] at hrun
  obtain rfl := hck
  split at hrun
  · next y x r0 => exact W.lcmp hx hb hdg (go hrun (hk_voc trivial (hk_vo2 hsv).2.2))
  · cases hrun

set_option maxHeartbeats 1000000 in
theorem hk_z_dup {ini : Bool} {rk : Nat} (FX : hk_Fx SH ch cls kd wl mt hn sc p l R s m args meth c D cI cZ cR cJ A H0 b0 mx dd own cc scr cl ini) {pc len a b c1 d : Nat} {v : Int32} {w : Int64} {sw : List (Int32 × Nat)}  (hdg : decode cc pc = .ok (.dup, len)) (hck : hk_iok cls kd wl mt hn own ini rk mx pc (.dup) len a b c1 d v w sw = true) {nxr : hk_L → List Value → hk_H → hk_O} {jmr : Nat → hk_L → List Value → hk_H → hk_O} {qf : Option Value × hk_H} (hnx : ∀ L st h, nxr L st h = some qf → hk_K SH cls kd sc D cI cZ cR cJ A H0 b0 ad0 al0 mx n0 s0 p l e R s m args below meth c Q (pc + len) L st h) (hjm : ∀ t L st h, jmr t L st h = some qf → hk_K SH cls kd sc D cI cZ cR cJ A H0 b0 ad0 al0 mx n0 s0 p l e R s m args below meth c Q t L st h)  {L : hk_L} {st : List Value} {h : hk_H} (hrun : hk_stp SH pb big none nxr jmr (fun P d k => @ite _ P d k none) (fun P d k0 k1 => @ite _ P d k0 k1) (fun y a h k => (cl y a h).bind (fun q => k q.1 q.2)) (fun r h => some (r, h)) scr ch (.dup) a c1 d v w sw L st h = some qf) : hk_K SH cls kd sc D cI cZ cR cJ A H0 b0 ad0 al0 mx n0 s0 p l e R s m args below meth c Q pc L st h := by
  obtain ⟨TB, hx, hb, hml, hown, hts, hK, hA, hin, hX, hcl, hge, hR1, hR2, hAO⟩ := FX
  intro ad H locs ls r
  obtain ⟨hP, hD, hS, hwf, hlv, hlen, hsv, hLv, hadb, hn0, hs0⟩ := id r
  unfold hk_G
  have go : ∀ {st' : List Value}, nxr L st' h = some qf → (∀ v ∈ st', hk_vo sc h.2.2.2 v) → hk_G SH cls p l e R s m args below meth c Q n0 s0 ad h H locs (pc + len) ls st' := fun h1 h2 => hnx _ _ _ h1 _ _ _ _ (r.stk h2)
  have gj : ∀ {t : Nat} {st' : List Value}, jmr t L st' h = some qf → (∀ v ∈ st', hk_vo sc h.2.2.2 v) → hk_G SH cls p l e R s m args below meth c Q n0 s0 ad h H locs t ls st' := fun h1 h2 => hjm _ _ _ _ h1 _ _ _ _ (r.stk h2)
  unfold hk_G at go gj
  simp only [hk_iok, Bool.and_eq_true, decide_eq_true_eq] at hck
  simp only [hk_stp] at hrun
  obtain rfl := hck
  split at hrun
  · exact lv_dup hx hb hdg rfl (go hrun (hk_voc trivial hsv))
  · exact lv_dup hx hb hdg rfl (go hrun (hk_voc (hk_vot hsv).1 hsv))
  · cases hrun

set_option maxHeartbeats 1000000 in
theorem hk_z_dup2 {ini : Bool} {rk : Nat} (FX : hk_Fx SH ch cls kd wl mt hn sc p l R s m args meth c D cI cZ cR cJ A H0 b0 mx dd own cc scr cl ini) {pc len a b c1 d : Nat} {v : Int32} {w : Int64} {sw : List (Int32 × Nat)}  (hdg : decode cc pc = .ok (.dup2, len)) (hck : hk_iok cls kd wl mt hn own ini rk mx pc (.dup2) len a b c1 d v w sw = true) {nxr : hk_L → List Value → hk_H → hk_O} {jmr : Nat → hk_L → List Value → hk_H → hk_O} {qf : Option Value × hk_H} (hnx : ∀ L st h, nxr L st h = some qf → hk_K SH cls kd sc D cI cZ cR cJ A H0 b0 ad0 al0 mx n0 s0 p l e R s m args below meth c Q (pc + len) L st h) (hjm : ∀ t L st h, jmr t L st h = some qf → hk_K SH cls kd sc D cI cZ cR cJ A H0 b0 ad0 al0 mx n0 s0 p l e R s m args below meth c Q t L st h)  {L : hk_L} {st : List Value} {h : hk_H} (hrun : hk_stp SH pb big none nxr jmr (fun P d k => @ite _ P d k none) (fun P d k0 k1 => @ite _ P d k0 k1) (fun y a h k => (cl y a h).bind (fun q => k q.1 q.2)) (fun r h => some (r, h)) scr ch (.dup2) a c1 d v w sw L st h = some qf) : hk_K SH cls kd sc D cI cZ cR cJ A H0 b0 ad0 al0 mx n0 s0 p l e R s m args below meth c Q pc L st h := by
  obtain ⟨TB, hx, hb, hml, hown, hts, hK, hA, hin, hX, hcl, hge, hR1, hR2, hAO⟩ := FX
  intro ad H locs ls r
  obtain ⟨hP, hD, hS, hwf, hlv, hlen, hsv, hLv, hadb, hn0, hs0⟩ := id r
  unfold hk_G
  have go : ∀ {st' : List Value}, nxr L st' h = some qf → (∀ v ∈ st', hk_vo sc h.2.2.2 v) → hk_G SH cls p l e R s m args below meth c Q n0 s0 ad h H locs (pc + len) ls st' := fun h1 h2 => hnx _ _ _ h1 _ _ _ _ (r.stk h2)
  have gj : ∀ {t : Nat} {st' : List Value}, jmr t L st' h = some qf → (∀ v ∈ st', hk_vo sc h.2.2.2 v) → hk_G SH cls p l e R s m args below meth c Q n0 s0 ad h H locs t ls st' := fun h1 h2 => hjm _ _ _ _ h1 _ _ _ _ (r.stk h2)
  unfold hk_G at go gj
  simp only [hk_iok, Bool.and_eq_true, decide_eq_true_eq] at hck
  simp only [hk_stp] at hrun
  obtain rfl := hck
  split at hrun
  · exact lv_dup2_11 hx hb hdg rfl rfl (go hrun (hk_voc trivial (hk_voc (hk_vo2 hsv).2.1 hsv)))
  · cases hrun

set_option maxHeartbeats 1000000 in
theorem hk_z_pop {ini : Bool} {rk : Nat} (FX : hk_Fx SH ch cls kd wl mt hn sc p l R s m args meth c D cI cZ cR cJ A H0 b0 mx dd own cc scr cl ini) {pc len a b c1 d : Nat} {v : Int32} {w : Int64} {sw : List (Int32 × Nat)}  (hdg : decode cc pc = .ok (.pop, len)) (hck : hk_iok cls kd wl mt hn own ini rk mx pc (.pop) len a b c1 d v w sw = true) {nxr : hk_L → List Value → hk_H → hk_O} {jmr : Nat → hk_L → List Value → hk_H → hk_O} {qf : Option Value × hk_H} (hnx : ∀ L st h, nxr L st h = some qf → hk_K SH cls kd sc D cI cZ cR cJ A H0 b0 ad0 al0 mx n0 s0 p l e R s m args below meth c Q (pc + len) L st h) (hjm : ∀ t L st h, jmr t L st h = some qf → hk_K SH cls kd sc D cI cZ cR cJ A H0 b0 ad0 al0 mx n0 s0 p l e R s m args below meth c Q t L st h)  {L : hk_L} {st : List Value} {h : hk_H} (hrun : hk_stp SH pb big none nxr jmr (fun P d k => @ite _ P d k none) (fun P d k0 k1 => @ite _ P d k0 k1) (fun y a h k => (cl y a h).bind (fun q => k q.1 q.2)) (fun r h => some (r, h)) scr ch (.pop) a c1 d v w sw L st h = some qf) : hk_K SH cls kd sc D cI cZ cR cJ A H0 b0 ad0 al0 mx n0 s0 p l e R s m args below meth c Q pc L st h := by
  obtain ⟨TB, hx, hb, hml, hown, hts, hK, hA, hin, hX, hcl, hge, hR1, hR2, hAO⟩ := FX
  intro ad H locs ls r
  obtain ⟨hP, hD, hS, hwf, hlv, hlen, hsv, hLv, hadb, hn0, hs0⟩ := id r
  unfold hk_G
  have go : ∀ {st' : List Value}, nxr L st' h = some qf → (∀ v ∈ st', hk_vo sc h.2.2.2 v) → hk_G SH cls p l e R s m args below meth c Q n0 s0 ad h H locs (pc + len) ls st' := fun h1 h2 => hnx _ _ _ h1 _ _ _ _ (r.stk h2)
  have gj : ∀ {t : Nat} {st' : List Value}, jmr t L st' h = some qf → (∀ v ∈ st', hk_vo sc h.2.2.2 v) → hk_G SH cls p l e R s m args below meth c Q n0 s0 ad h H locs t ls st' := fun h1 h2 => hjm _ _ _ _ h1 _ _ _ _ (r.stk h2)
  unfold hk_G at go gj
  simp only [hk_iok, Bool.and_eq_true, decide_eq_true_eq] at hck
  simp only [hk_stp] at hrun
  obtain rfl := hck
  split at hrun
  · exact lv_pop hx hb hdg rfl (go hrun (hk_vot hsv).2)
  · cases hrun

set_option maxHeartbeats 1000000 in
theorem hk_z_pop2 {ini : Bool} {rk : Nat} (FX : hk_Fx SH ch cls kd wl mt hn sc p l R s m args meth c D cI cZ cR cJ A H0 b0 mx dd own cc scr cl ini) {pc len a b c1 d : Nat} {v : Int32} {w : Int64} {sw : List (Int32 × Nat)}  (hdg : decode cc pc = .ok (.pop2, len)) (hck : hk_iok cls kd wl mt hn own ini rk mx pc (.pop2) len a b c1 d v w sw = true) {nxr : hk_L → List Value → hk_H → hk_O} {jmr : Nat → hk_L → List Value → hk_H → hk_O} {qf : Option Value × hk_H} (hnx : ∀ L st h, nxr L st h = some qf → hk_K SH cls kd sc D cI cZ cR cJ A H0 b0 ad0 al0 mx n0 s0 p l e R s m args below meth c Q (pc + len) L st h) (hjm : ∀ t L st h, jmr t L st h = some qf → hk_K SH cls kd sc D cI cZ cR cJ A H0 b0 ad0 al0 mx n0 s0 p l e R s m args below meth c Q t L st h)  {L : hk_L} {st : List Value} {h : hk_H} (hrun : hk_stp SH pb big none nxr jmr (fun P d k => @ite _ P d k none) (fun P d k0 k1 => @ite _ P d k0 k1) (fun y a h k => (cl y a h).bind (fun q => k q.1 q.2)) (fun r h => some (r, h)) scr ch (.pop2) a c1 d v w sw L st h = some qf) : hk_K SH cls kd sc D cI cZ cR cJ A H0 b0 ad0 al0 mx n0 s0 p l e R s m args below meth c Q pc L st h := by
  obtain ⟨TB, hx, hb, hml, hown, hts, hK, hA, hin, hX, hcl, hge, hR1, hR2, hAO⟩ := FX
  intro ad H locs ls r
  obtain ⟨hP, hD, hS, hwf, hlv, hlen, hsv, hLv, hadb, hn0, hs0⟩ := id r
  unfold hk_G
  have go : ∀ {st' : List Value}, nxr L st' h = some qf → (∀ v ∈ st', hk_vo sc h.2.2.2 v) → hk_G SH cls p l e R s m args below meth c Q n0 s0 ad h H locs (pc + len) ls st' := fun h1 h2 => hnx _ _ _ h1 _ _ _ _ (r.stk h2)
  have gj : ∀ {t : Nat} {st' : List Value}, jmr t L st' h = some qf → (∀ v ∈ st', hk_vo sc h.2.2.2 v) → hk_G SH cls p l e R s m args below meth c Q n0 s0 ad h H locs t ls st' := fun h1 h2 => hjm _ _ _ _ h1 _ _ _ _ (r.stk h2)
  unfold hk_G at go gj
  simp only [hk_iok, Bool.and_eq_true, decide_eq_true_eq] at hck
  simp only [hk_stp] at hrun
  obtain rfl := hck
  split at hrun
  · exact lv_pop2_2 hx hb hdg rfl (go hrun (hk_vot hsv).2)
  · cases hrun

set_option maxHeartbeats 1000000 in
theorem hk_z_goto {ini : Bool} {rk : Nat} (FX : hk_Fx SH ch cls kd wl mt hn sc p l R s m args meth c D cI cZ cR cJ A H0 b0 mx dd own cc scr cl ini) {pc len a b c1 d : Nat} {v : Int32} {w : Int64} {sw : List (Int32 × Nat)} {o : Int} (hdg : decode cc pc = .ok (.goto o, len)) (hck : hk_iok cls kd wl mt hn own ini rk mx pc (.goto o) len a b c1 d v w sw = true) {nxr : hk_L → List Value → hk_H → hk_O} {jmr : Nat → hk_L → List Value → hk_H → hk_O} {qf : Option Value × hk_H} (hnx : ∀ L st h, nxr L st h = some qf → hk_K SH cls kd sc D cI cZ cR cJ A H0 b0 ad0 al0 mx n0 s0 p l e R s m args below meth c Q (pc + len) L st h) (hjm : ∀ t L st h, jmr t L st h = some qf → hk_K SH cls kd sc D cI cZ cR cJ A H0 b0 ad0 al0 mx n0 s0 p l e R s m args below meth c Q t L st h)  {L : hk_L} {st : List Value} {h : hk_H} (hrun : hk_stp SH pb big none nxr jmr (fun P d k => @ite _ P d k none) (fun P d k0 k1 => @ite _ P d k0 k1) (fun y a h k => (cl y a h).bind (fun q => k q.1 q.2)) (fun r h => some (r, h)) scr ch (.goto o) a c1 d v w sw L st h = some qf) : hk_K SH cls kd sc D cI cZ cR cJ A H0 b0 ad0 al0 mx n0 s0 p l e R s m args below meth c Q pc L st h := by
  obtain ⟨TB, hx, hb, hml, hown, hts, hK, hA, hin, hX, hcl, hge, hR1, hR2, hAO⟩ := FX
  intro ad H locs ls r
  obtain ⟨hP, hD, hS, hwf, hlv, hlen, hsv, hLv, hadb, hn0, hs0⟩ := id r
  unfold hk_G
  have go : ∀ {st' : List Value}, nxr L st' h = some qf → (∀ v ∈ st', hk_vo sc h.2.2.2 v) → hk_G SH cls p l e R s m args below meth c Q n0 s0 ad h H locs (pc + len) ls st' := fun h1 h2 => hnx _ _ _ h1 _ _ _ _ (r.stk h2)
  have gj : ∀ {t : Nat} {st' : List Value}, jmr t L st' h = some qf → (∀ v ∈ st', hk_vo sc h.2.2.2 v) → hk_G SH cls p l e R s m args below meth c Q n0 s0 ad h H locs t ls st' := fun h1 h2 => hjm _ _ _ _ h1 _ _ _ _ (r.stk h2)
  unfold hk_G at go gj
  simp only [hk_iok, Bool.and_eq_true, decide_eq_true_eq] at hck
  simp only [hk_stp] at hrun
  obtain ⟨rfl, ht⟩ := hck
  exact lv_goto hx hb hdg ht (gj hrun hsv)

set_option maxHeartbeats 1000000 in
theorem hk_z_if_icmp {ini : Bool} {rk : Nat} (FX : hk_Fx SH ch cls kd wl mt hn sc p l R s m args meth c D cI cZ cR cJ A H0 b0 mx dd own cc scr cl ini) {pc len a b c1 d : Nat} {v : Int32} {w : Int64} {sw : List (Int32 × Nat)} {o : Int} {cnd : ClassFile.Cond} (hdg : decode cc pc = .ok (.if_icmp cnd o, len)) (hck : hk_iok cls kd wl mt hn own ini rk mx pc (.if_icmp cnd o) len a b c1 d v w sw = true) {nxr : hk_L → List Value → hk_H → hk_O} {jmr : Nat → hk_L → List Value → hk_H → hk_O} {qf : Option Value × hk_H} (hnx : ∀ L st h, nxr L st h = some qf → hk_K SH cls kd sc D cI cZ cR cJ A H0 b0 ad0 al0 mx n0 s0 p l e R s m args below meth c Q (pc + len) L st h) (hjm : ∀ t L st h, jmr t L st h = some qf → hk_K SH cls kd sc D cI cZ cR cJ A H0 b0 ad0 al0 mx n0 s0 p l e R s m args below meth c Q t L st h)  {L : hk_L} {st : List Value} {h : hk_H} (hrun : hk_stp SH pb big none nxr jmr (fun P d k => @ite _ P d k none) (fun P d k0 k1 => @ite _ P d k0 k1) (fun y a h k => (cl y a h).bind (fun q => k q.1 q.2)) (fun r h => some (r, h)) scr ch (.if_icmp cnd o) a c1 d v w sw L st h = some qf) : hk_K SH cls kd sc D cI cZ cR cJ A H0 b0 ad0 al0 mx n0 s0 p l e R s m args below meth c Q pc L st h := by
  obtain ⟨TB, hx, hb, hml, hown, hts, hK, hA, hin, hX, hcl, hge, hR1, hR2, hAO⟩ := FX
  intro ad H locs ls r
  obtain ⟨hP, hD, hS, hwf, hlv, hlen, hsv, hLv, hadb, hn0, hs0⟩ := id r
  unfold hk_G
  have go : ∀ {st' : List Value}, nxr L st' h = some qf → (∀ v ∈ st', hk_vo sc h.2.2.2 v) → hk_G SH cls p l e R s m args below meth c Q n0 s0 ad h H locs (pc + len) ls st' := fun h1 h2 => hnx _ _ _ h1 _ _ _ _ (r.stk h2)
  have gj : ∀ {t : Nat} {st' : List Value}, jmr t L st' h = some qf → (∀ v ∈ st', hk_vo sc h.2.2.2 v) → hk_G SH cls p l e R s m args below meth c Q n0 s0 ad h H locs t ls st' := fun h1 h2 => hjm _ _ _ _ h1 _ _ _ _ (r.stk h2)
  unfold hk_G at go gj
  simp only [hk_iok, Bool.and_eq_true, decide_eq_true_eq] at hck
  simp only [hk_stp] at hrun
  obtain ⟨rfl, ht⟩ := hck
  split at hrun
  · next y x r0 =>
    cases cnd
    case eq => exact lv_icmp_eq hx hb hdg ht (fun hc => gj (by simpa only [hk_cmp, if_pos hc] using hrun) (hk_vo2 hsv).2.2) (fun hc => go (by simpa only [hk_cmp, if_neg hc] using hrun) (hk_vo2 hsv).2.2)
    case ne => exact lv_icmp_ne hx hb hdg ht (fun hc => gj (by simpa only [hk_cmp, if_pos hc] using hrun) (hk_vo2 hsv).2.2) (fun hc => go (by simpa only [hk_cmp, if_neg (not_not_intro hc)] using hrun) (hk_vo2 hsv).2.2)
    case lt => exact lv_icmp_lt hx hb hdg ht (fun hc => gj (by simpa only [hk_cmp, if_pos hc] using hrun) (hk_vo2 hsv).2.2) (fun hc => go (by simpa only [hk_cmp, if_neg hc] using hrun) (hk_vo2 hsv).2.2)
    case ge => exact lv_icmp_ge hx hb hdg ht (fun hc => gj (by simpa only [hk_cmp, if_pos hc] using hrun) (hk_vo2 hsv).2.2) (fun hc => go (by simpa only [hk_cmp, if_neg hc] using hrun) (hk_vo2 hsv).2.2)
    case gt => exact lv_icmp_gt hx hb hdg ht (fun hc => gj (by simpa only [hk_cmp, if_pos hc] using hrun) (hk_vo2 hsv).2.2) (fun hc => go (by simpa only [hk_cmp, if_neg hc] using hrun) (hk_vo2 hsv).2.2)
    case le => exact lv_icmp_le hx hb hdg ht (fun hc => gj (by simpa only [hk_cmp, if_pos hc] using hrun) (hk_vo2 hsv).2.2) (fun hc => go (by simpa only [hk_cmp, if_neg hc] using hrun) (hk_vo2 hsv).2.2)
  · cases hrun

set_option maxHeartbeats 1000000 in
theorem hk_z_ifCond {ini : Bool} {rk : Nat} (FX : hk_Fx SH ch cls kd wl mt hn sc p l R s m args meth c D cI cZ cR cJ A H0 b0 mx dd own cc scr cl ini) {pc len a b c1 d : Nat} {v : Int32} {w : Int64} {sw : List (Int32 × Nat)} {o : Int} {cnd : ClassFile.Cond} (hdg : decode cc pc = .ok (.ifCond cnd o, len)) (hck : hk_iok cls kd wl mt hn own ini rk mx pc (.ifCond cnd o) len a b c1 d v w sw = true) {nxr : hk_L → List Value → hk_H → hk_O} {jmr : Nat → hk_L → List Value → hk_H → hk_O} {qf : Option Value × hk_H} (hnx : ∀ L st h, nxr L st h = some qf → hk_K SH cls kd sc D cI cZ cR cJ A H0 b0 ad0 al0 mx n0 s0 p l e R s m args below meth c Q (pc + len) L st h) (hjm : ∀ t L st h, jmr t L st h = some qf → hk_K SH cls kd sc D cI cZ cR cJ A H0 b0 ad0 al0 mx n0 s0 p l e R s m args below meth c Q t L st h)  {L : hk_L} {st : List Value} {h : hk_H} (hrun : hk_stp SH pb big none nxr jmr (fun P d k => @ite _ P d k none) (fun P d k0 k1 => @ite _ P d k0 k1) (fun y a h k => (cl y a h).bind (fun q => k q.1 q.2)) (fun r h => some (r, h)) scr ch (.ifCond cnd o) a c1 d v w sw L st h = some qf) : hk_K SH cls kd sc D cI cZ cR cJ A H0 b0 ad0 al0 mx n0 s0 p l e R s m args below meth c Q pc L st h := by
  obtain ⟨TB, hx, hb, hml, hown, hts, hK, hA, hin, hX, hcl, hge, hR1, hR2, hAO⟩ := FX
  intro ad H locs ls r
  obtain ⟨hP, hD, hS, hwf, hlv, hlen, hsv, hLv, hadb, hn0, hs0⟩ := id r
  unfold hk_G
  have go : ∀ {st' : List Value}, nxr L st' h = some qf → (∀ v ∈ st', hk_vo sc h.2.2.2 v) → hk_G SH cls p l e R s m args below meth c Q n0 s0 ad h H locs (pc + len) ls st' := fun h1 h2 => hnx _ _ _ h1 _ _ _ _ (r.stk h2)
  have gj : ∀ {t : Nat} {st' : List Value}, jmr t L st' h = some qf → (∀ v ∈ st', hk_vo sc h.2.2.2 v) → hk_G SH cls p l e R s m args below meth c Q n0 s0 ad h H locs t ls st' := fun h1 h2 => hjm _ _ _ _ h1 _ _ _ _ (r.stk h2)
  unfold hk_G at go gj
  simp only [hk_iok, Bool.and_eq_true, decide_eq_true_eq] at hck
  simp only [hk_stp] at hrun
  obtain ⟨rfl, ht⟩ := hck
  split at hrun
  · next x r0 =>
    cases cnd
    case eq => exact lv_if_eq hx hb hdg ht (fun hc => gj (by simpa only [hk_cmp, if_pos hc] using hrun) (hk_vot hsv).2) (fun hc => go (by simpa only [hk_cmp, if_neg hc] using hrun) (hk_vot hsv).2)
    case ne => exact lv_if_ne hx hb hdg ht (fun hc => gj (by simpa only [hk_cmp, if_pos hc] using hrun) (hk_vot hsv).2) (fun hc => go (by simpa only [hk_cmp, if_neg (not_not_intro hc)] using hrun) (hk_vot hsv).2)
    case lt => exact lv_if_lt hx hb hdg ht (fun hc => gj (by simpa only [hk_cmp, if_pos hc] using hrun) (hk_vot hsv).2) (fun hc => go (by simpa only [hk_cmp, if_neg hc] using hrun) (hk_vot hsv).2)
    case ge => exact lv_if_ge hx hb hdg ht (fun hc => gj (by simpa only [hk_cmp, if_pos hc] using hrun) (hk_vot hsv).2) (fun hc => go (by simpa only [hk_cmp, if_neg hc] using hrun) (hk_vot hsv).2)
    case gt => exact lv_if_gt hx hb hdg ht (fun hc => gj (by simpa only [hk_cmp, if_pos hc] using hrun) (hk_vot hsv).2) (fun hc => go (by simpa only [hk_cmp, if_neg hc] using hrun) (hk_vot hsv).2)
    case le => exact lv_if_le hx hb hdg ht (fun hc => gj (by simpa only [hk_cmp, if_pos hc] using hrun) (hk_vot hsv).2) (fun hc => go (by simpa only [hk_cmp, if_neg hc] using hrun) (hk_vot hsv).2)
  · cases hrun

set_option maxHeartbeats 1000000 in
theorem hk_z_ifnonnull {ini : Bool} {rk : Nat} (FX : hk_Fx SH ch cls kd wl mt hn sc p l R s m args meth c D cI cZ cR cJ A H0 b0 mx dd own cc scr cl ini) {pc len a b c1 d : Nat} {v : Int32} {w : Int64} {sw : List (Int32 × Nat)} {o : Int} (hdg : decode cc pc = .ok (.ifnonnull o, len)) (hck : hk_iok cls kd wl mt hn own ini rk mx pc (.ifnonnull o) len a b c1 d v w sw = true) {nxr : hk_L → List Value → hk_H → hk_O} {jmr : Nat → hk_L → List Value → hk_H → hk_O} {qf : Option Value × hk_H} (hnx : ∀ L st h, nxr L st h = some qf → hk_K SH cls kd sc D cI cZ cR cJ A H0 b0 ad0 al0 mx n0 s0 p l e R s m args below meth c Q (pc + len) L st h) (hjm : ∀ t L st h, jmr t L st h = some qf → hk_K SH cls kd sc D cI cZ cR cJ A H0 b0 ad0 al0 mx n0 s0 p l e R s m args below meth c Q t L st h)  {L : hk_L} {st : List Value} {h : hk_H} (hrun : hk_stp SH pb big none nxr jmr (fun P d k => @ite _ P d k none) (fun P d k0 k1 => @ite _ P d k0 k1) (fun y a h k => (cl y a h).bind (fun q => k q.1 q.2)) (fun r h => some (r, h)) scr ch (.ifnonnull o) a c1 d v w sw L st h = some qf) : hk_K SH cls kd sc D cI cZ cR cJ A H0 b0 ad0 al0 mx n0 s0 p l e R s m args below meth c Q pc L st h := by
  obtain ⟨TB, hx, hb, hml, hown, hts, hK, hA, hin, hX, hcl, hge, hR1, hR2, hAO⟩ := FX
  intro ad H locs ls r
  obtain ⟨hP, hD, hS, hwf, hlv, hlen, hsv, hLv, hadb, hn0, hs0⟩ := id r
  unfold hk_G
  have go : ∀ {st' : List Value}, nxr L st' h = some qf → (∀ v ∈ st', hk_vo sc h.2.2.2 v) → hk_G SH cls p l e R s m args below meth c Q n0 s0 ad h H locs (pc + len) ls st' := fun h1 h2 => hnx _ _ _ h1 _ _ _ _ (r.stk h2)
  have gj : ∀ {t : Nat} {st' : List Value}, jmr t L st' h = some qf → (∀ v ∈ st', hk_vo sc h.2.2.2 v) → hk_G SH cls p l e R s m args below meth c Q n0 s0 ad h H locs t ls st' := fun h1 h2 => hjm _ _ _ _ h1 _ _ _ _ (r.stk h2)
  unfold hk_G at go gj
  simp only [hk_iok, Bool.and_eq_true, decide_eq_true_eq] at hck
  simp only [hk_stp] at hrun
  obtain ⟨rfl, ht⟩ := hck
  split at hrun
  · exact lv_ifnonnull hx hb hdg ht (gj hrun (hk_vot hsv).2)
  · exact lv_ifnonnullN hx hb hdg (go hrun (hk_vot hsv).2)
  · cases hrun

end HKJ
end
section
/-! ===== a step of the abstract machine: memory, calls, ends ===== -/
section HKJ2
variable {SH : Nat → hk_Sh} {pb big ch : Nat} {cls : List vw_C} {kd : Nat → Nat → Nat} {wl : List Jvm.Cond} {mt : Nat → Option hk_Q} {hn : String} {sc : Nat}
variable {p : Program} {l : Launch} {e : Env} {R : Room} {s : State} {m : MethodId} {args : Array Value} {below : List Frame} {meth : Method} {c : Code} {Q : State → Prop}
variable {D : va_G} {cI cZ cR cJ : ClassId} {A : Nat → Prop} {H0 : Heap} {b0 mx n0 s0 dd : Nat} {ad0 : Nat → Nat} {al0 : List Nat} {own : String} {cc : ByteArray} {scr : Option (Nat × (Nat → Int32))} {cl : Nat → List Value → hk_H → hk_O}
theorem hk_rv_vo {h : hk_H} {q k : Nat} (hw : hk_wf h) (hq : q ∈ h.2.2.2) : hk_vo sc h.2.2.2 (hk_rv (h.2.2.1 q k)) := by
  rcases hw q hq k with e | e
  · rw [e]; trivial
  · cases hz : h.2.2.1 q k with
    | zero => trivial
    | succ z => rw [hz] at e; exact Or.inl e
theorem hk_fs_set {α : Type} {N k : Nat} {f g : Nat → α} (hk : k < N) (hg : ∀ j, j ≠ k → g j = f j) : ((List.range N).map f).set k (g k) = (List.range N).map g := by
  have h0 : (List.range N)[k]? = some k := by rw [List.getElem?_range hk]
  refine hk_map_set h0 (fun i hi => ?_) hg
  by_cases hN : i < N
  · rw [List.getElem?_range hN] at hi
    exact Option.some.inj hi
  · rw [List.getElem?_eq_none (by simp; omega)] at hi
    cases hi
theorem hk_nf_eq {a : Nat} {q : vw_C} (hq : cls[a]? = some q) : hk_nf cls a = q.2.2 := by
  unfold hk_nf
  rw [hq]
theorem hk_ce1 {ad : Nat → Nat} {h : hk_H} {q a : Nat} (hq : SH q = (1, a)) : hk_ce SH cls kd cI cZ cR cJ ad h q = .inr (a, (List.range (hk_nf cls a)).map (hk_fv kd ad h q a)) := by
  unfold hk_ce
  rw [hq]
  rfl
theorem hk_ce2 {ad : Nat → Nat} {h : hk_H} {q n : Nat} (hq : SH q = (2, n)) : hk_ce SH cls kd cI cZ cR cJ ad h q = .inl (cI, n, .inl (h.1 q)) := by
  unfold hk_ce
  rw [hq]
  rfl
theorem hk_ce3 {ad : Nat → Nat} {h : hk_H} {q n : Nat} (hq : SH q = (3, n)) : hk_ce SH cls kd cI cZ cR cJ ad h q = .inl (cZ, n, .inl (h.1 q)) := by
  unfold hk_ce
  rw [hq]
  rfl
theorem hk_ce4 {ad : Nat → Nat} {h : hk_H} {q n : Nat} (hq : SH q = (4, n)) : hk_ce SH cls kd cI cZ cR cJ ad h q = .inl (cR, n, .inr (.inr (.inr (.inr (fun k => hk_rf ad (h.2.2.1 q k)))))) := by
  unfold hk_ce
  rw [hq]
  rfl
theorem hk_ce5 {ad : Nat → Nat} {h : hk_H} {q n : Nat} (hq : SH q = (5, n)) : hk_ce SH cls kd cI cZ cR cJ ad h q = .inl (cJ, n, .inr (.inl (h.2.1 q))) := by
  unfold hk_ce
  rw [hq]
  rfl
/-- behind a write to place q: the cell at q is new, the others stay -/
theorem hk_R.wr {ad : Nat → Nat} {h h' : hk_H} {H H1 : Heap} {locs locs1 : List Loc} {ls : Array Slot} {L : hk_L} {st st' : List Value} {q k : Nat} {E : va_E} (r : hk_R SH cls kd sc D cI cZ cR cJ A H0 b0 ad0 al0 mx n0 s0 ad h H locs ls L st) (hk : h.2.2.2[k]? = some q) (hE : hk_ce SH cls kd cI cZ cR cJ ad h' q = E) (ha : h'.2.2.2 = h.2.2.2) (ho : ∀ z, z ≠ q → h'.1 z = h.1 z ∧ h'.2.1 z = h.2.1 z ∧ h'.2.2.1 z = h.2.2.1 z) (hw : hk_wf h')
    (hP : va_P D cls ((hk_ws SH cls kd cI cZ cR cJ ad h).set k (ad q, E)) H1) (hD : va_D A ((hk_ws SH cls kd cI cZ cR cJ ad h).set k (ad q, E))) (hS : va_S A H0 H1 locs1) (hs : ∀ v ∈ st', hk_vo sc h.2.2.2 v) : hk_R SH cls kd sc D cI cZ cR cJ A H0 b0 ad0 al0 mx n0 s0 ad h' H1 locs1 ls L st' := by
  have e : (hk_ws SH cls kd cI cZ cR cJ ad h).set k (ad q, E) = hk_ws SH cls kd cI cZ cR cJ ad h' := by
    rw [← hE]
    refine hk_ws_set r.2.1 hk ha fun z hz => ?_
    obtain ⟨h1, h2, h3⟩ := ho z hz
    exact hk_ce_eq h1 h2 fun j => by rw [h3]
  rw [e] at hP hD
  exact r.hp hP hD hS hw ha hs
/-- behind the making of a cell at place q -/
theorem hk_R.mk {ad : Nat → Nat} {h : hk_H} {H H1 : Heap} {locs : List Loc} {ls : Array Slot} {L : hk_L} {st r0 : List Value} {q a : Nat} {E : va_E} (r : hk_R SH cls kd sc D cI cZ cR cJ A H0 b0 ad0 al0 mx n0 s0 ad h H locs ls L st) (hq : q ∉ h.2.2.2) (hsc : q ≠ sc) (hE : hk_ce SH cls kd cI cZ cR cJ (fun z => if z = q then a else ad z) (hk_nw h q) q = E)
    (hP : va_P D cls (hk_ws SH cls kd cI cZ cR cJ ad h ++ [(a, E)]) H1) (hD : va_D A (hk_ws SH cls kd cI cZ cR cJ ad h ++ [(a, E)])) (hS : va_S A H0 H1 locs) (hs : ∀ v ∈ r0, hk_vo sc h.2.2.2 v) : hk_R SH cls kd sc D cI cZ cR cJ A H0 b0 ad0 al0 mx n0 s0 (fun z => if z = q then a else ad z) (hk_nw h q) H1 locs ls L (.ref q :: r0) ∧ hk_ag sc ad (fun z => if z = q then a else ad z) h.2.2.2 := by
  obtain ⟨a1, a2, a3, a4, a5, a6, a7, a8, a9, a10, a11⟩ := r
  have hag : hk_ag sc ad (fun z => if z = q then a else ad z) h.2.2.2 := by
    intro z hz
    have hne : z ≠ q := by
      rintro rfl
      rcases hz with hz | hz
      · exact hq hz
      · exact hsc hz
    show (if z = q then a else ad z) = ad z
    rw [if_neg hne]
  have hgg : hk_ge h (hk_nw h q) := ⟨[q], rfl⟩
  have e := hk_ws_push (SH := SH) (cls := cls) (kd := kd) (cI := cI) (cZ := cZ) (cR := cR) (cJ := cJ) (ad := ad) (a := a) hq a4
  rw [hE] at e
  rw [← e] at hP hD
  refine ⟨⟨hP, hD, hS, ?_, ?_, a6, ?_, ?_, ?_, ?_, ?_⟩, hag⟩
  · intro z hz k
    show hk_z h.2.2.1 q 0 z k = 0 ∨ hk_z h.2.2.1 q 0 z k ∈ h.2.2.2 ++ [q]
    unfold hk_z
    by_cases hzq : z = q
    · left
      rw [if_pos hzq]
    · rw [if_neg hzq]
      have hz' : z ∈ h.2.2.2 := by
        rcases List.mem_append.mp hz with h1 | h1
        · exact h1
        · exact absurd (List.mem_singleton.mp h1) hzq
      rcases a4 z hz' k with h1 | h1
      · exact Or.inl h1
      · exact Or.inr (List.mem_append_left _ h1)
  · rw [hk_pl_congr hag a8]
    exact a5
  · exact hk_voc (Or.inl (List.mem_append_right _ (by simp))) fun v hv => hk_vo_ge hgg (hs v hv)
  · exact fun v hv => hk_vo_ge hgg (a8 v hv)
  · refine ⟨(hag sc (Or.inr rfl)).trans a9.1, fun z hz => ?_, fun z hz => List.mem_append_left _ (a9.2.2 z hz)⟩
    rw [← a9.2.1 z hz]
    rcases hz with h1 | h1
    · exact hag z (Or.inl (a9.2.2 z h1))
    · exact hag z (Or.inr h1)
  · exact Nat.le_trans a10 (hk_ge_len hgg)
  · exact Nat.le_trans a11 (hk_ge_sl hgg)
theorem hk_sl_nw (h : hk_H) (q : Nat) : hk_sl SH cls (hk_nw h q).2.2.2 = hk_sl SH cls h.2.2.2 + (match SH q with
  | (1, ci) => hk_nf cls ci
  | (_, n) => n) := by
  show hk_sl SH cls (h.2.2.2 ++ [q]) = _
  rw [hk_sl_app]
  congr 1
theorem hk_nle {x : Int32} {n : Nat} (h : x.toNatClampNeg ≤ n) : x.toNatClampNeg ≤ n := h

set_option maxHeartbeats 1000000 in
theorem hk_z_getfield {ini : Bool} {rk : Nat} (FX : hk_Fx SH ch cls kd wl mt hn sc p l R s m args meth c D cI cZ cR cJ A H0 b0 mx dd own cc scr cl ini) {pc len a b c1 d : Nat} {v : Int32} {w : Int64} {sw : List (Int32 × Nat)} {i : Nat} (hdg : decode cc pc = .ok (.getfield i, len)) (hck : hk_iok cls kd wl mt hn own ini rk mx pc (.getfield i) len a b c1 d v w sw = true) {nxr : hk_L → List Value → hk_H → hk_O} {jmr : Nat → hk_L → List Value → hk_H → hk_O} {qf : Option Value × hk_H} (hnx : ∀ L st h, nxr L st h = some qf → hk_K SH cls kd sc D cI cZ cR cJ A H0 b0 ad0 al0 mx n0 s0 p l e R s m args below meth c Q (pc + len) L st h) (hjm : ∀ t L st h, jmr t L st h = some qf → hk_K SH cls kd sc D cI cZ cR cJ A H0 b0 ad0 al0 mx n0 s0 p l e R s m args below meth c Q t L st h)  {L : hk_L} {st : List Value} {h : hk_H} (hrun : hk_stp SH pb big none nxr jmr (fun P d k => @ite _ P d k none) (fun P d k0 k1 => @ite _ P d k0 k1) (fun y a h k => (cl y a h).bind (fun q => k q.1 q.2)) (fun r h => some (r, h)) scr ch (.getfield i) a c1 d v w sw L st h = some qf) : hk_K SH cls kd sc D cI cZ cR cJ A H0 b0 ad0 al0 mx n0 s0 p l e R s m args below meth c Q pc L st h := by
  obtain ⟨TB, hx, hb, hml, hown, hts, hK, hA, hin, hX, hcl, hge, hR1, hR2, hAO⟩ := FX
  intro ad H locs ls r
  obtain ⟨hP, hD, hS, hwf, hlv, hlen, hsv, hLv, hadb, hn0, hs0⟩ := id r
  unfold hk_G
  have go : ∀ {st' : List Value}, nxr L st' h = some qf → (∀ v ∈ st', hk_vo sc h.2.2.2 v) → hk_G SH cls p l e R s m args below meth c Q n0 s0 ad h H locs (pc + len) ls st' := fun h1 h2 => hnx _ _ _ h1 _ _ _ _ (r.stk h2)
  have gj : ∀ {t : Nat} {st' : List Value}, jmr t L st' h = some qf → (∀ v ∈ st', hk_vo sc h.2.2.2 v) → hk_G SH cls p l e R s m args below meth c Q n0 s0 ad h H locs t ls st' := fun h1 h2 => hjm _ _ _ _ h1 _ _ _ _ (r.stk h2)
  unfold hk_G at go gj
  simp only [hk_iok, Bool.and_eq_true, decide_eq_true_eq] at hck
  simp only [hk_stp] at hrun
  obtain ⟨rfl, hck⟩ := hck
  split at hck
  · cases hck
  next q hq =>
  simp only [hk_fok, Bool.and_eq_true, decide_eq_true_eq] at hck
  obtain ⟨⟨⟨hc, hw⟩, how⟩, hkd⟩ := hck
  obtain ⟨C, T, N⟩ := q
  simp only at hc hw how
  unfold hk_getf at hrun
  split at hrun
  · next q0 r0 =>
    split at hrun
    · next hsh =>
      have hsh := hk_is_eq hsh
      have hal := hk_aliv TB.2.2.2.1 (hk_vot hsv).1 hsh (by decide)
      obtain ⟨k, hk1, hk2⟩ := hk_ws_at (SH := SH) (cls := cls) (kd := kd) (cI := cI) (cZ := cZ) (cR := cR) (cJ := cJ) (ad := ad) hal
      rw [hk_ce1 hsh] at hk2
      refine va_get (D := D) (ci := a) (v := hk_fv kd ad h q0 a c1) hx hb hts (TB.1 a _ hq).1 hown hK hP k hk2 hq c1 hc (hts _ (List.mem_of_getElem? hw)) (fun x h9 => by rw [← how]; exact h9) ?_ hdg ?_
      · rw [List.getElem?_map, hk_nf_eq hq, List.getElem?_range hc]
        rfl
      · split at hrun
        · have e : hk_fv kd ad h q0 a c1 = hk_tv ad (hk_rv (h.2.2.1 q0 c1)) := by
            rw [hk_tv_rv]
            unfold hk_fv
            rw [hkd]
            rfl
          rw [e]
          exact go hrun (hk_voc (hk_rv_vo hwf hal) (hk_vot hsv).2)
        · next hd =>
          have e : hk_fv kd ad h q0 a c1 = .int (h.1 q0 c1) := by
            unfold hk_fv
            rw [hkd]
            split
            · exact absurd rfl hd
            · rfl
          rw [e]
          exact go hrun (hk_voc trivial (hk_vot hsv).2)
    · cases hrun
  · cases hrun

theorem hk_putW {ini : Bool} (FX : hk_Fx SH ch cls kd wl mt hn sc p l R s m args meth c D cI cZ cR cJ A H0 b0 mx dd own cc scr cl ini) {ad : Nat → Nat} {h h2 : hk_H} {H : Heap} {locs : List Loc} {ls : Array Slot} {L : hk_L} {st r0 : List Value} {pc q0 a b c1 i : Nat} {q : vw_C} {val : Value} (r : hk_R SH cls kd sc D cI cZ cR cJ A H0 b0 ad0 al0 mx n0 s0 ad h H locs ls L st) (hsh : SH q0 = (1, a)) (hal : q0 ∈ h.2.2.2) (hq : cls[a]? = some q) (hc : c1 < q.2.2) (hw : wl[b]? = some (.fieldLink own i q.1 (q.2.1 c1).2.1 (q.2.1 c1).2.2.1)) (how : (q.2.1 c1).1 = q.1) (hfi : (!(q.2.1 c1).2.2.2 || (ini && decide ((q.2.1 c1).1 = own))) = true)
    (hval : ∀ ty : Nat → FieldType, (kd a c1 = 0 → ty c1 = .int) ∧ (kd a c1 = 1 → (∃ o, ty c1 = .object o) ∨ ∃ o, ty c1 = .array o) ∧ (kd a c1 = 2 → ty c1 = .boolean) ∧ kd a c1 ≤ 2 → narrow (ty c1) val = val ∧ fits (ty c1) val = true) (h2e : hk_fv kd ad h2 q0 a c1 = val) (h2o : ∀ j, j ≠ c1 → hk_fv kd ad h2 q0 a j = hk_fv kd ad h q0 a j) (ho : ∀ z, z ≠ q0 → h2.1 z = h.1 z ∧ h2.2.1 z = h.2.1 z ∧ h2.2.2.1 z = h.2.2.1 z) (hwf2 : hk_wf h2) (ha : h2.2.2.2 = h.2.2.2) (hr0 : ∀ v ∈ r0, hk_vo sc h.2.2.2 v) (hdg : decode cc pc = .ok (.putfield i, 3)) (kk : hk_K SH cls kd sc D cI cZ cR cJ A H0 b0 ad0 al0 mx n0 s0 p l e R s m args below meth c Q (pc + 3) L r0 h2) :
    W p l e R s m args below meth c H locs (h.2.2.2.length - n0) (hk_sl SH cls h.2.2.2 - s0) Q (F0 m pc ls (val :: .ref (ad q0) :: r0.map (hk_tv ad))) := by
  obtain ⟨TB, hx, hb, hml, hown, hts, hK, hA, hin, hX, hcl, hge, hR1, hR2, hAO⟩ := FX
  obtain ⟨hP, hD, hS, hwf, hlv, hlen, hsv, hLv, hadb, hn0, hs0⟩ := id r
  obtain ⟨C, T, N⟩ := q
  obtain ⟨k, hk1, hk2⟩ := hk_ws_at (SH := SH) (cls := cls) (kd := kd) (cI := cI) (cZ := cZ) (cR := cR) (cJ := cJ) (ad := ad) hal
  rw [hk_ce1 hsh] at hk2
  obtain ⟨hu, ⟨ty, hty, hkk⟩, hnm⟩ := TB.1 a _ hq
  obtain ⟨hnr, hft⟩ := hval ty (hkk c1 hc)
  have hl2 : c1 < ((List.range (hk_nf cls a)).map (hk_fv kd ad h q0 a)).length := by rw [List.length_map, List.length_range, hk_nf_eq hq]; exact hc
  have hE : hk_ce SH cls kd cI cZ cR cJ ad h2 q0 = .inr (a, ((List.range (hk_nf cls a)).map (hk_fv kd ad h q0 a)).set c1 val) := by
    rw [hk_ce1 hsh, ← h2e, hk_fs_set (by rw [hk_nf_eq hq]; exact hc) h2o]
  have hlk := hts _ (List.mem_of_getElem? hw)
  have fin : ∀ (H1 : Heap) (locs1 : List Loc), va_P D cls ((hk_ws SH cls kd cI cZ cR cJ ad h).set k (ad q0, .inr (a, ((List.range (hk_nf cls a)).map (hk_fv kd ad h q0 a)).set c1 val))) H1 → va_D A ((hk_ws SH cls kd cI cZ cR cJ ad h).set k (ad q0, .inr (a, ((List.range (hk_nf cls a)).map (hk_fv kd ad h q0 a)).set c1 val))) → va_S A H0 H1 locs1 → W p l e R s m args below meth c H1 locs1 (h.2.2.2.length - n0) (hk_sl SH cls h.2.2.2 - s0) Q (F0 m (pc + 3) ls (r0.map (hk_tv ad))) := fun H1 locs1 hP1 hD1 hS1 => by
    have g := kk _ _ _ _ (r.wr hk1 hE ha ho hwf2 hP1 hD1 hS1 hr0)
    unfold hk_G at g
    rw [ha] at g
    exact g
  cases hfin : (T c1).2.2.2 with
  | false => exact va_put (D := D) (ci := a) (v := val) (ty := ty c1) hx hb hts hu ty hty hnm hown hK hP hD hS k hk2 hq c1 hc hlk (fun x h9 => by rw [← how]; exact h9) hfin (hty c1 hc) hnr hft hl2 hdg fin
  | true =>
    simp only at hfi
    rw [hfin] at hfi
    simp only [Bool.not_true, Bool.false_or, Bool.and_eq_true, decide_eq_true_eq] at hfi
    exact va_putF (D := D) (ci := a) (v := val) (ty := ty c1) hx hb hts hu ty hty hnm hown hK hP hD hS k hk2 hq c1 hc hlk (fun x h9 => by rw [← how]; exact h9) hfin (hin hfi.1) hfi.2 (hty c1 hc) hnr hft hl2 hdg fin
theorem hk_wf_uR {h : hk_H} {q k z : Nat} (hw : hk_wf h) (hz : z ∈ h.2.2.2) : hk_wf (h.1, h.2.1, hk_uR h.2.2.1 q k z, h.2.2.2) := by
  intro y hy j
  show hk_uR h.2.2.1 q k z y j = 0 ∨ hk_uR h.2.2.1 q k z y j ∈ h.2.2.2
  unfold hk_uR
  by_cases h1 : y = q
  · rw [if_pos h1]
    by_cases h2 : j = k
    · rw [if_pos h2]
      exact Or.inr hz
    · rw [if_neg h2]
      exact h1 ▸ hw y hy j
  · rw [if_neg h1]
    exact hw y hy j
theorem hk_shne (hS : ∃ n, SH sc = (6, n)) {q k n : Nat} (hq : SH q = (k, n)) (hk : k ≠ 6) : q ≠ sc := by
  rintro rfl
  obtain ⟨n', h'⟩ := hS
  rw [h'] at hq
  cases hq
  exact hk rfl

set_option maxHeartbeats 1000000 in
theorem hk_z_putfield {ini : Bool} {rk : Nat} (FX : hk_Fx SH ch cls kd wl mt hn sc p l R s m args meth c D cI cZ cR cJ A H0 b0 mx dd own cc scr cl ini) {pc len a b c1 d : Nat} {v : Int32} {w : Int64} {sw : List (Int32 × Nat)} {i : Nat} (hdg : decode cc pc = .ok (.putfield i, len)) (hck : hk_iok cls kd wl mt hn own ini rk mx pc (.putfield i) len a b c1 d v w sw = true) {nxr : hk_L → List Value → hk_H → hk_O} {jmr : Nat → hk_L → List Value → hk_H → hk_O} {qf : Option Value × hk_H} (hnx : ∀ L st h, nxr L st h = some qf → hk_K SH cls kd sc D cI cZ cR cJ A H0 b0 ad0 al0 mx n0 s0 p l e R s m args below meth c Q (pc + len) L st h) (hjm : ∀ t L st h, jmr t L st h = some qf → hk_K SH cls kd sc D cI cZ cR cJ A H0 b0 ad0 al0 mx n0 s0 p l e R s m args below meth c Q t L st h)  {L : hk_L} {st : List Value} {h : hk_H} (hrun : hk_stp SH pb big none nxr jmr (fun P d k => @ite _ P d k none) (fun P d k0 k1 => @ite _ P d k0 k1) (fun y a h k => (cl y a h).bind (fun q => k q.1 q.2)) (fun r h => some (r, h)) scr ch (.putfield i) a c1 d v w sw L st h = some qf) : hk_K SH cls kd sc D cI cZ cR cJ A H0 b0 ad0 al0 mx n0 s0 p l e R s m args below meth c Q pc L st h := by
  obtain ⟨TB, hx, hb, hml, hown, hts, hK, hA, hin, hX, hcl, hge, hR1, hR2, hAO⟩ := id FX
  intro ad H locs ls r
  obtain ⟨hP, hD, hS, hwf, hlv, hlen, hsv, hLv, hadb, hn0, hs0⟩ := id r
  unfold hk_G
  have go : ∀ {st' : List Value}, nxr L st' h = some qf → (∀ v ∈ st', hk_vo sc h.2.2.2 v) → hk_G SH cls p l e R s m args below meth c Q n0 s0 ad h H locs (pc + len) ls st' := fun h1 h2 => hnx _ _ _ h1 _ _ _ _ (r.stk h2)
  have gj : ∀ {t : Nat} {st' : List Value}, jmr t L st' h = some qf → (∀ v ∈ st', hk_vo sc h.2.2.2 v) → hk_G SH cls p l e R s m args below meth c Q n0 s0 ad h H locs t ls st' := fun h1 h2 => hjm _ _ _ _ h1 _ _ _ _ (r.stk h2)
  unfold hk_G at go gj
  simp only [hk_iok, Bool.and_eq_true, decide_eq_true_eq] at hck
  simp only [hk_stp] at hrun
  obtain ⟨rfl, hck⟩ := hck
  split at hck
  · cases hck
  next q hq =>
  simp only [hk_fok, Bool.and_eq_true, decide_eq_true_eq] at hck
  obtain ⟨⟨⟨⟨hc, hw⟩, how⟩, hkd⟩, hfi⟩ := hck
  unfold hk_putf at hrun
  split at hrun
  · next x q0 r0 =>
    split at hrun
    · next hsh =>
      have hsh := hk_is_eq hsh
      have hal := hk_aliv TB.2.2.2.1 (hk_vo2 hsv).2.1 hsh (by decide)
      have e1 : hk_fv kd ad (hk_u2 h.1 q0 c1 x, h.2) q0 a c1 = (if d = 1 then hk_fv kd ad h q0 a c1 else .int x) := by
        unfold hk_fv
        rw [hkd]
        split
        · rfl
        · next hd => rw [if_neg (fun e => hd e)]; simp [hk_u2, upd]
      have e2 : ∀ j, j ≠ c1 → hk_fv kd ad (hk_u2 h.1 q0 c1 x, h.2) q0 a j = hk_fv kd ad h q0 a j := by
        intro j hj
        unfold hk_fv
        split
        · rfl
        · simp [hk_u2, upd, hj]
      have ho : ∀ z, z ≠ q0 → ((hk_u2 h.1 q0 c1 x, h.2) : hk_H).1 z = h.1 z ∧ ((hk_u2 h.1 q0 c1 x, h.2) : hk_H).2.1 z = h.2.1 z ∧ ((hk_u2 h.1 q0 c1 x, h.2) : hk_H).2.2.1 z = h.2.2.1 z := fun z hz => ⟨by simp [hk_u2, hz], rfl, rfl⟩
      split at hrun
      · exact hk_putW FX r hsh hal hq hc hw how hfi (fun ty hk => by rw [hk.1 hkd]; exact ⟨rfl, rfl⟩) (e1.trans (if_neg (by decide))) e2 ho hwf rfl (hk_vo2 hsv).2.2 hdg (hnx _ _ _ hrun)
      · dsimp only at hrun
        split at hrun
        · next hx01 => exact hk_putW FX r hsh hal hq hc hw how hfi (fun ty hk => by rw [hk.2.2.1 hkd]; rcases hx01 with rfl | rfl <;> exact ⟨rfl, rfl⟩) (e1.trans (if_neg (by decide))) e2 ho hwf rfl (hk_vo2 hsv).2.2 hdg (hnx _ _ _ hrun)
        · cases hrun
      · cases hrun
    · cases hrun
  · next q1 q0 r0 =>
    split at hrun
    · next hsh =>
      have hsh := hk_is_eq hsh
      have hal := hk_aliv TB.2.2.2.1 (hk_vo2 hsv).2.1 hsh (by decide)
      split at hrun
      · split at hrun
        · cases hrun
        · next hcon =>
          have hq1 : q1 + 1 ∈ h.2.2.2 := by
            rcases (hk_vo2 hsv).1 with h1 | h1
            · exact h1
            · obtain ⟨n', h'⟩ := TB.2.2.2.1
              rw [show q1 + 1 = sc from h1, h'] at hcon
              cases hcon
          refine hk_putW FX r hsh hal hq hc hw how hfi (val := .ref (ad (q1 + 1))) (h2 := (h.1, h.2.1, hk_uR h.2.2.1 q0 c1 (q1 + 1), h.2.2.2)) (fun ty hk => ?_) ?_ ?_ (fun z hz => ⟨rfl, rfl, by simp [hk_uR, hz]⟩) (hk_wf_uR hwf hq1) rfl (hk_vo2 hsv).2.2 hdg (hnx _ _ _ hrun)
          · rcases hk.2.1 hkd with ⟨o, e⟩ | ⟨o, e⟩ <;> rw [e] <;> exact ⟨rfl, rfl⟩
          · unfold hk_fv
            rw [hkd]
            simp [hk_uR, hk_rf, va_rf]
          · intro j hj
            unfold hk_fv
            split
            · simp [hk_uR, hj]
            · rfl
      · cases hrun
    · cases hrun
  · cases hrun

end HKJ2
end
section
/-! ===== rows of arrays, new cells, switches ===== -/
section HKJ3
variable {SH : Nat → hk_Sh} {pb big ch : Nat} {cls : List vw_C} {kd : Nat → Nat → Nat} {wl : List Jvm.Cond} {mt : Nat → Option hk_Q} {hn : String} {sc : Nat}
variable {p : Program} {l : Launch} {e : Env} {R : Room} {s : State} {m : MethodId} {args : Array Value} {below : List Frame} {meth : Method} {c : Code} {Q : State → Prop}
variable {D : va_G} {cI cZ cR cJ : ClassId} {A : Nat → Prop} {H0 : Heap} {b0 mx n0 s0 dd : Nat} {ad0 : Nat → Nat} {al0 : List Nat} {own : String} {cc : ByteArray} {scr : Option (Nat × (Nat → Int32))} {cl : Nat → List Value → hk_H → hk_O}

set_option maxHeartbeats 1000000 in
theorem hk_z_iaload {ini : Bool} {rk : Nat} (FX : hk_Fx SH ch cls kd wl mt hn sc p l R s m args meth c D cI cZ cR cJ A H0 b0 mx dd own cc scr cl ini) {pc len a b c1 d : Nat} {v : Int32} {w : Int64} {sw : List (Int32 × Nat)}  (hdg : decode cc pc = .ok (.iaload, len)) (hck : hk_iok cls kd wl mt hn own ini rk mx pc (.iaload) len a b c1 d v w sw = true) {nxr : hk_L → List Value → hk_H → hk_O} {jmr : Nat → hk_L → List Value → hk_H → hk_O} {qf : Option Value × hk_H} (hnx : ∀ L st h, nxr L st h = some qf → hk_K SH cls kd sc D cI cZ cR cJ A H0 b0 ad0 al0 mx n0 s0 p l e R s m args below meth c Q (pc + len) L st h) (hjm : ∀ t L st h, jmr t L st h = some qf → hk_K SH cls kd sc D cI cZ cR cJ A H0 b0 ad0 al0 mx n0 s0 p l e R s m args below meth c Q t L st h)  {L : hk_L} {st : List Value} {h : hk_H} (hrun : hk_stp SH pb big none nxr jmr (fun P d k => @ite _ P d k none) (fun P d k0 k1 => @ite _ P d k0 k1) (fun y a h k => (cl y a h).bind (fun q => k q.1 q.2)) (fun r h => some (r, h)) scr ch (.iaload) a c1 d v w sw L st h = some qf) : hk_K SH cls kd sc D cI cZ cR cJ A H0 b0 ad0 al0 mx n0 s0 p l e R s m args below meth c Q pc L st h := by
  obtain ⟨TB, hx, hb, hml, hown, hts, hK, hA, hin, hX, hcl, hge, hR1, hR2, hAO⟩ := id FX
  intro ad H locs ls r
  obtain ⟨hP, hD, hS, hwf, hlv, hlen, hsv, hLv, hadb, hn0, hs0⟩ := id r
  unfold hk_G
  have go : ∀ {st' : List Value}, nxr L st' h = some qf → (∀ v ∈ st', hk_vo sc h.2.2.2 v) → hk_G SH cls p l e R s m args below meth c Q n0 s0 ad h H locs (pc + len) ls st' := fun h1 h2 => hnx _ _ _ h1 _ _ _ _ (r.stk h2)
  have gj : ∀ {t : Nat} {st' : List Value}, jmr t L st' h = some qf → (∀ v ∈ st', hk_vo sc h.2.2.2 v) → hk_G SH cls p l e R s m args below meth c Q n0 s0 ad h H locs t ls st' := fun h1 h2 => hjm _ _ _ _ h1 _ _ _ _ (r.stk h2)
  unfold hk_G at go gj
  simp only [hk_iok, Bool.and_eq_true, decide_eq_true_eq] at hck
  simp only [hk_stp] at hrun
  obtain rfl := hck
  unfold hk_ial at hrun
  split at hrun
  · next i q0 r0 =>
    split at hrun
    · next n hsh =>
      dsimp only at hrun
      split at hrun
      · next hin =>
        have hal := hk_aliv TB.2.2.2.1 (hk_vo2 hsv).2.1 hsh (by decide)
        obtain ⟨k, hk1, hk2⟩ := hk_ws_at (SH := SH) (cls := cls) (kd := kd) (cI := cI) (cZ := cZ) (cR := cR) (cJ := cJ) (ad := ad) hal
        rw [hk_ce2 hsh] at hk2
        exact va_iald (D := D) (tys := hk_tys cI cZ cR cJ hn) hx hb hK hP k 0 hk2 rfl hin hdg (go hrun (hk_voc trivial (hk_vo2 hsv).2.2))
      · cases hrun
    · next n hsh =>
      split at hrun
      · next sq =>
        dsimp only at hrun
        split at hrun
        · next hin =>
          have hq0 : q0 = sc := TB.2.2.1 _ _ hsh
          obtain ⟨x1, x2, x3⟩ := hX sq rfl
          have e0 : hk_tv ad (.ref q0) = .ref b0 := by rw [hq0]; exact congrArg Value.ref hadb.1
          show W p l e R s m args below meth c H locs _ _ Q (F0 m pc ls (.int i :: hk_tv ad (.ref q0) :: r0.map (hk_tv ad)))
          rw [e0]
          exact va_sld hx hb x1 x2 x3 hS hin hdg (go hrun (hk_voc trivial (hk_vo2 hsv).2.2))
        · cases hrun
      · cases hrun
    · cases hrun
  · cases hrun

set_option maxHeartbeats 1000000 in
theorem hk_z_baload {ini : Bool} {rk : Nat} (FX : hk_Fx SH ch cls kd wl mt hn sc p l R s m args meth c D cI cZ cR cJ A H0 b0 mx dd own cc scr cl ini) {pc len a b c1 d : Nat} {v : Int32} {w : Int64} {sw : List (Int32 × Nat)}  (hdg : decode cc pc = .ok (.baload, len)) (hck : hk_iok cls kd wl mt hn own ini rk mx pc (.baload) len a b c1 d v w sw = true) {nxr : hk_L → List Value → hk_H → hk_O} {jmr : Nat → hk_L → List Value → hk_H → hk_O} {qf : Option Value × hk_H} (hnx : ∀ L st h, nxr L st h = some qf → hk_K SH cls kd sc D cI cZ cR cJ A H0 b0 ad0 al0 mx n0 s0 p l e R s m args below meth c Q (pc + len) L st h) (hjm : ∀ t L st h, jmr t L st h = some qf → hk_K SH cls kd sc D cI cZ cR cJ A H0 b0 ad0 al0 mx n0 s0 p l e R s m args below meth c Q t L st h)  {L : hk_L} {st : List Value} {h : hk_H} (hrun : hk_stp SH pb big none nxr jmr (fun P d k => @ite _ P d k none) (fun P d k0 k1 => @ite _ P d k0 k1) (fun y a h k => (cl y a h).bind (fun q => k q.1 q.2)) (fun r h => some (r, h)) scr ch (.baload) a c1 d v w sw L st h = some qf) : hk_K SH cls kd sc D cI cZ cR cJ A H0 b0 ad0 al0 mx n0 s0 p l e R s m args below meth c Q pc L st h := by
  obtain ⟨TB, hx, hb, hml, hown, hts, hK, hA, hin, hX, hcl, hge, hR1, hR2, hAO⟩ := id FX
  intro ad H locs ls r
  obtain ⟨hP, hD, hS, hwf, hlv, hlen, hsv, hLv, hadb, hn0, hs0⟩ := id r
  unfold hk_G
  have go : ∀ {st' : List Value}, nxr L st' h = some qf → (∀ v ∈ st', hk_vo sc h.2.2.2 v) → hk_G SH cls p l e R s m args below meth c Q n0 s0 ad h H locs (pc + len) ls st' := fun h1 h2 => hnx _ _ _ h1 _ _ _ _ (r.stk h2)
  have gj : ∀ {t : Nat} {st' : List Value}, jmr t L st' h = some qf → (∀ v ∈ st', hk_vo sc h.2.2.2 v) → hk_G SH cls p l e R s m args below meth c Q n0 s0 ad h H locs t ls st' := fun h1 h2 => hjm _ _ _ _ h1 _ _ _ _ (r.stk h2)
  unfold hk_G at go gj
  simp only [hk_iok, Bool.and_eq_true, decide_eq_true_eq] at hck
  simp only [hk_stp] at hrun
  obtain rfl := hck
  unfold hk_bal at hrun
  split at hrun
  · next i q0 r0 =>
    split at hrun
    · next n hsh =>
      dsimp only at hrun
      split at hrun
      · next hin =>
        have hal := hk_aliv TB.2.2.2.1 (hk_vo2 hsv).2.1 hsh (by decide)
        obtain ⟨k, hk1, hk2⟩ := hk_ws_at (SH := SH) (cls := cls) (kd := kd) (cI := cI) (cZ := cZ) (cR := cR) (cJ := cJ) (ad := ad) hal
        rw [hk_ce3 hsh] at hk2
        exact va_zald (D := D) (tys := hk_tys cI cZ cR cJ hn) hx hb hK hP k 1 hk2 rfl hin hdg (go hrun (hk_voc trivial (hk_vo2 hsv).2.2))
      · cases hrun
    · cases hrun
  · cases hrun

set_option maxHeartbeats 1000000 in
theorem hk_z_laload {ini : Bool} {rk : Nat} (FX : hk_Fx SH ch cls kd wl mt hn sc p l R s m args meth c D cI cZ cR cJ A H0 b0 mx dd own cc scr cl ini) {pc len a b c1 d : Nat} {v : Int32} {w : Int64} {sw : List (Int32 × Nat)}  (hdg : decode cc pc = .ok (.laload, len)) (hck : hk_iok cls kd wl mt hn own ini rk mx pc (.laload) len a b c1 d v w sw = true) {nxr : hk_L → List Value → hk_H → hk_O} {jmr : Nat → hk_L → List Value → hk_H → hk_O} {qf : Option Value × hk_H} (hnx : ∀ L st h, nxr L st h = some qf → hk_K SH cls kd sc D cI cZ cR cJ A H0 b0 ad0 al0 mx n0 s0 p l e R s m args below meth c Q (pc + len) L st h) (hjm : ∀ t L st h, jmr t L st h = some qf → hk_K SH cls kd sc D cI cZ cR cJ A H0 b0 ad0 al0 mx n0 s0 p l e R s m args below meth c Q t L st h)  {L : hk_L} {st : List Value} {h : hk_H} (hrun : hk_stp SH pb big none nxr jmr (fun P d k => @ite _ P d k none) (fun P d k0 k1 => @ite _ P d k0 k1) (fun y a h k => (cl y a h).bind (fun q => k q.1 q.2)) (fun r h => some (r, h)) scr ch (.laload) a c1 d v w sw L st h = some qf) : hk_K SH cls kd sc D cI cZ cR cJ A H0 b0 ad0 al0 mx n0 s0 p l e R s m args below meth c Q pc L st h := by
  obtain ⟨TB, hx, hb, hml, hown, hts, hK, hA, hin, hX, hcl, hge, hR1, hR2, hAO⟩ := id FX
  intro ad H locs ls r
  obtain ⟨hP, hD, hS, hwf, hlv, hlen, hsv, hLv, hadb, hn0, hs0⟩ := id r
  unfold hk_G
  have go : ∀ {st' : List Value}, nxr L st' h = some qf → (∀ v ∈ st', hk_vo sc h.2.2.2 v) → hk_G SH cls p l e R s m args below meth c Q n0 s0 ad h H locs (pc + len) ls st' := fun h1 h2 => hnx _ _ _ h1 _ _ _ _ (r.stk h2)
  have gj : ∀ {t : Nat} {st' : List Value}, jmr t L st' h = some qf → (∀ v ∈ st', hk_vo sc h.2.2.2 v) → hk_G SH cls p l e R s m args below meth c Q n0 s0 ad h H locs t ls st' := fun h1 h2 => hjm _ _ _ _ h1 _ _ _ _ (r.stk h2)
  unfold hk_G at go gj
  simp only [hk_iok, Bool.and_eq_true, decide_eq_true_eq] at hck
  simp only [hk_stp] at hrun
  obtain rfl := hck
  unfold hk_lal at hrun
  split at hrun
  · next i q0 r0 =>
    split at hrun
    · next n hsh =>
      dsimp only at hrun
      split at hrun
      · next hin =>
        have hal := hk_aliv TB.2.2.2.1 (hk_vo2 hsv).2.1 hsh (by decide)
        obtain ⟨k, hk1, hk2⟩ := hk_ws_at (SH := SH) (cls := cls) (kd := kd) (cI := cI) (cZ := cZ) (cR := cR) (cJ := cJ) (ad := ad) hal
        rw [hk_ce5 hsh] at hk2
        exact va_lald (D := D) (tys := hk_tys cI cZ cR cJ hn) hx hb hK hP k 3 hk2 rfl hin hdg (go hrun (hk_voc trivial (hk_vo2 hsv).2.2))
      · cases hrun
    · cases hrun
  · cases hrun

set_option maxHeartbeats 1000000 in
theorem hk_z_aaload {ini : Bool} {rk : Nat} (FX : hk_Fx SH ch cls kd wl mt hn sc p l R s m args meth c D cI cZ cR cJ A H0 b0 mx dd own cc scr cl ini) {pc len a b c1 d : Nat} {v : Int32} {w : Int64} {sw : List (Int32 × Nat)}  (hdg : decode cc pc = .ok (.aaload, len)) (hck : hk_iok cls kd wl mt hn own ini rk mx pc (.aaload) len a b c1 d v w sw = true) {nxr : hk_L → List Value → hk_H → hk_O} {jmr : Nat → hk_L → List Value → hk_H → hk_O} {qf : Option Value × hk_H} (hnx : ∀ L st h, nxr L st h = some qf → hk_K SH cls kd sc D cI cZ cR cJ A H0 b0 ad0 al0 mx n0 s0 p l e R s m args below meth c Q (pc + len) L st h) (hjm : ∀ t L st h, jmr t L st h = some qf → hk_K SH cls kd sc D cI cZ cR cJ A H0 b0 ad0 al0 mx n0 s0 p l e R s m args below meth c Q t L st h)  {L : hk_L} {st : List Value} {h : hk_H} (hrun : hk_stp SH pb big none nxr jmr (fun P d k => @ite _ P d k none) (fun P d k0 k1 => @ite _ P d k0 k1) (fun y a h k => (cl y a h).bind (fun q => k q.1 q.2)) (fun r h => some (r, h)) scr ch (.aaload) a c1 d v w sw L st h = some qf) : hk_K SH cls kd sc D cI cZ cR cJ A H0 b0 ad0 al0 mx n0 s0 p l e R s m args below meth c Q pc L st h := by
  obtain ⟨TB, hx, hb, hml, hown, hts, hK, hA, hin, hX, hcl, hge, hR1, hR2, hAO⟩ := id FX
  intro ad H locs ls r
  obtain ⟨hP, hD, hS, hwf, hlv, hlen, hsv, hLv, hadb, hn0, hs0⟩ := id r
  unfold hk_G
  have go : ∀ {st' : List Value}, nxr L st' h = some qf → (∀ v ∈ st', hk_vo sc h.2.2.2 v) → hk_G SH cls p l e R s m args below meth c Q n0 s0 ad h H locs (pc + len) ls st' := fun h1 h2 => hnx _ _ _ h1 _ _ _ _ (r.stk h2)
  have gj : ∀ {t : Nat} {st' : List Value}, jmr t L st' h = some qf → (∀ v ∈ st', hk_vo sc h.2.2.2 v) → hk_G SH cls p l e R s m args below meth c Q n0 s0 ad h H locs t ls st' := fun h1 h2 => hjm _ _ _ _ h1 _ _ _ _ (r.stk h2)
  unfold hk_G at go gj
  simp only [hk_iok, Bool.and_eq_true, decide_eq_true_eq] at hck
  simp only [hk_stp] at hrun
  obtain rfl := hck
  unfold hk_aal at hrun
  split at hrun
  · next i q0 r0 =>
    split at hrun
    · next n hsh =>
      dsimp only at hrun
      split at hrun
      · next hin =>
        have hal := hk_aliv TB.2.2.2.1 (hk_vo2 hsv).2.1 hsh (by decide)
        obtain ⟨k, hk1, hk2⟩ := hk_ws_at (SH := SH) (cls := cls) (kd := kd) (cI := cI) (cZ := cZ) (cR := cR) (cJ := cJ) (ad := ad) hal
        rw [hk_ce4 hsh] at hk2
        exact va_aldq (D := D) (tys := hk_tys cI cZ cR cJ hn) hx hb hK hP k 2 hk2 rfl hin hdg (by rw [← hk_tv_rv]; exact go hrun (hk_voc (hk_rv_vo hwf hal) (hk_vo2 hsv).2.2))
      · cases hrun
    · cases hrun
  · cases hrun

set_option maxHeartbeats 1000000 in
theorem hk_z_iastore {ini : Bool} {rk : Nat} (FX : hk_Fx SH ch cls kd wl mt hn sc p l R s m args meth c D cI cZ cR cJ A H0 b0 mx dd own cc scr cl ini) {pc len a b c1 d : Nat} {v : Int32} {w : Int64} {sw : List (Int32 × Nat)}  (hdg : decode cc pc = .ok (.iastore, len)) (hck : hk_iok cls kd wl mt hn own ini rk mx pc (.iastore) len a b c1 d v w sw = true) {nxr : hk_L → List Value → hk_H → hk_O} {jmr : Nat → hk_L → List Value → hk_H → hk_O} {qf : Option Value × hk_H} (hnx : ∀ L st h, nxr L st h = some qf → hk_K SH cls kd sc D cI cZ cR cJ A H0 b0 ad0 al0 mx n0 s0 p l e R s m args below meth c Q (pc + len) L st h) (hjm : ∀ t L st h, jmr t L st h = some qf → hk_K SH cls kd sc D cI cZ cR cJ A H0 b0 ad0 al0 mx n0 s0 p l e R s m args below meth c Q t L st h)  {L : hk_L} {st : List Value} {h : hk_H} (hrun : hk_stp SH pb big none nxr jmr (fun P d k => @ite _ P d k none) (fun P d k0 k1 => @ite _ P d k0 k1) (fun y a h k => (cl y a h).bind (fun q => k q.1 q.2)) (fun r h => some (r, h)) scr ch (.iastore) a c1 d v w sw L st h = some qf) : hk_K SH cls kd sc D cI cZ cR cJ A H0 b0 ad0 al0 mx n0 s0 p l e R s m args below meth c Q pc L st h := by
  obtain ⟨TB, hx, hb, hml, hown, hts, hK, hA, hin, hX, hcl, hge, hR1, hR2, hAO⟩ := id FX
  intro ad H locs ls r
  obtain ⟨hP, hD, hS, hwf, hlv, hlen, hsv, hLv, hadb, hn0, hs0⟩ := id r
  unfold hk_G
  have go : ∀ {st' : List Value}, nxr L st' h = some qf → (∀ v ∈ st', hk_vo sc h.2.2.2 v) → hk_G SH cls p l e R s m args below meth c Q n0 s0 ad h H locs (pc + len) ls st' := fun h1 h2 => hnx _ _ _ h1 _ _ _ _ (r.stk h2)
  have gj : ∀ {t : Nat} {st' : List Value}, jmr t L st' h = some qf → (∀ v ∈ st', hk_vo sc h.2.2.2 v) → hk_G SH cls p l e R s m args below meth c Q n0 s0 ad h H locs t ls st' := fun h1 h2 => hjm _ _ _ _ h1 _ _ _ _ (r.stk h2)
  unfold hk_G at go gj
  simp only [hk_iok, Bool.and_eq_true, decide_eq_true_eq] at hck
  simp only [hk_stp] at hrun
  obtain rfl := hck
  unfold hk_ias at hrun
  split at hrun
  · next x i q0 r0 =>
    split at hrun
    · next n hsh =>
      dsimp only at hrun
      split at hrun
      · next hin =>
        obtain ⟨v1, v2, v3⟩ := hk_vo2 hsv
        obtain ⟨v4, v5⟩ := hk_vot v3
        have hal := hk_aliv TB.2.2.2.1 v4 hsh (by decide)
        obtain ⟨k, hk1, hk2⟩ := hk_ws_at (SH := SH) (cls := cls) (kd := kd) (cI := cI) (cZ := cZ) (cR := cR) (cJ := cJ) (ad := ad) hal
        rw [hk_ce2 hsh] at hk2
        exact va_iast (D := D) (tys := hk_tys cI cZ cR cJ hn) hx hb hK hP hD hS k 0 hk2 rfl hin hdg (fun H1 locs1 hP1 hD1 hS1 => hnx _ _ _ hrun _ _ _ _ (r.wr (h' := (hk_u2 h.1 q0 i.toNatClampNeg x, h.2)) hk1 (by rw [hk_ce2 hsh]; simp [hk_u2, hk_uJ]) rfl (fun z hz => ⟨by simp [hk_u2, hz], rfl, rfl⟩) hwf hP1 hD1 hS1 v5))
      · cases hrun
    · cases hrun
  · cases hrun

set_option maxHeartbeats 1000000 in
theorem hk_z_bastore {ini : Bool} {rk : Nat} (FX : hk_Fx SH ch cls kd wl mt hn sc p l R s m args meth c D cI cZ cR cJ A H0 b0 mx dd own cc scr cl ini) {pc len a b c1 d : Nat} {v : Int32} {w : Int64} {sw : List (Int32 × Nat)}  (hdg : decode cc pc = .ok (.bastore, len)) (hck : hk_iok cls kd wl mt hn own ini rk mx pc (.bastore) len a b c1 d v w sw = true) {nxr : hk_L → List Value → hk_H → hk_O} {jmr : Nat → hk_L → List Value → hk_H → hk_O} {qf : Option Value × hk_H} (hnx : ∀ L st h, nxr L st h = some qf → hk_K SH cls kd sc D cI cZ cR cJ A H0 b0 ad0 al0 mx n0 s0 p l e R s m args below meth c Q (pc + len) L st h) (hjm : ∀ t L st h, jmr t L st h = some qf → hk_K SH cls kd sc D cI cZ cR cJ A H0 b0 ad0 al0 mx n0 s0 p l e R s m args below meth c Q t L st h)  {L : hk_L} {st : List Value} {h : hk_H} (hrun : hk_stp SH pb big none nxr jmr (fun P d k => @ite _ P d k none) (fun P d k0 k1 => @ite _ P d k0 k1) (fun y a h k => (cl y a h).bind (fun q => k q.1 q.2)) (fun r h => some (r, h)) scr ch (.bastore) a c1 d v w sw L st h = some qf) : hk_K SH cls kd sc D cI cZ cR cJ A H0 b0 ad0 al0 mx n0 s0 p l e R s m args below meth c Q pc L st h := by
  obtain ⟨TB, hx, hb, hml, hown, hts, hK, hA, hin, hX, hcl, hge, hR1, hR2, hAO⟩ := id FX
  intro ad H locs ls r
  obtain ⟨hP, hD, hS, hwf, hlv, hlen, hsv, hLv, hadb, hn0, hs0⟩ := id r
  unfold hk_G
  have go : ∀ {st' : List Value}, nxr L st' h = some qf → (∀ v ∈ st', hk_vo sc h.2.2.2 v) → hk_G SH cls p l e R s m args below meth c Q n0 s0 ad h H locs (pc + len) ls st' := fun h1 h2 => hnx _ _ _ h1 _ _ _ _ (r.stk h2)
  have gj : ∀ {t : Nat} {st' : List Value}, jmr t L st' h = some qf → (∀ v ∈ st', hk_vo sc h.2.2.2 v) → hk_G SH cls p l e R s m args below meth c Q n0 s0 ad h H locs t ls st' := fun h1 h2 => hjm _ _ _ _ h1 _ _ _ _ (r.stk h2)
  unfold hk_G at go gj
  simp only [hk_iok, Bool.and_eq_true, decide_eq_true_eq] at hck
  simp only [hk_stp] at hrun
  obtain rfl := hck
  unfold hk_bas at hrun
  split at hrun
  · next x i q0 r0 =>
    split at hrun
    · next n hsh =>
      dsimp only at hrun
      split at hrun
      · next hin =>
        obtain ⟨v1, v2, v3⟩ := hk_vo2 hsv
        obtain ⟨v4, v5⟩ := hk_vot v3
        have hal := hk_aliv TB.2.2.2.1 v4 hsh (by decide)
        obtain ⟨k, hk1, hk2⟩ := hk_ws_at (SH := SH) (cls := cls) (kd := kd) (cI := cI) (cZ := cZ) (cR := cR) (cJ := cJ) (ad := ad) hal
        rw [hk_ce3 hsh] at hk2
        exact va_zast (D := D) (tys := hk_tys cI cZ cR cJ hn) hx hb hK hP hD hS k 1 hk2 rfl hin hdg (fun H1 locs1 hP1 hD1 hS1 => hnx _ _ _ hrun _ _ _ _ (r.wr (h' := (hk_u2 h.1 q0 i.toNatClampNeg (vp_nar .boolean x), h.2)) hk1 (by rw [hk_ce3 hsh]; simp [hk_u2, hk_uJ]) rfl (fun z hz => ⟨by simp [hk_u2, hz], rfl, rfl⟩) hwf hP1 hD1 hS1 v5))
      · cases hrun
    · cases hrun
  · cases hrun

set_option maxHeartbeats 1000000 in
theorem hk_z_lastore {ini : Bool} {rk : Nat} (FX : hk_Fx SH ch cls kd wl mt hn sc p l R s m args meth c D cI cZ cR cJ A H0 b0 mx dd own cc scr cl ini) {pc len a b c1 d : Nat} {v : Int32} {w : Int64} {sw : List (Int32 × Nat)}  (hdg : decode cc pc = .ok (.lastore, len)) (hck : hk_iok cls kd wl mt hn own ini rk mx pc (.lastore) len a b c1 d v w sw = true) {nxr : hk_L → List Value → hk_H → hk_O} {jmr : Nat → hk_L → List Value → hk_H → hk_O} {qf : Option Value × hk_H} (hnx : ∀ L st h, nxr L st h = some qf → hk_K SH cls kd sc D cI cZ cR cJ A H0 b0 ad0 al0 mx n0 s0 p l e R s m args below meth c Q (pc + len) L st h) (hjm : ∀ t L st h, jmr t L st h = some qf → hk_K SH cls kd sc D cI cZ cR cJ A H0 b0 ad0 al0 mx n0 s0 p l e R s m args below meth c Q t L st h)  {L : hk_L} {st : List Value} {h : hk_H} (hrun : hk_stp SH pb big none nxr jmr (fun P d k => @ite _ P d k none) (fun P d k0 k1 => @ite _ P d k0 k1) (fun y a h k => (cl y a h).bind (fun q => k q.1 q.2)) (fun r h => some (r, h)) scr ch (.lastore) a c1 d v w sw L st h = some qf) : hk_K SH cls kd sc D cI cZ cR cJ A H0 b0 ad0 al0 mx n0 s0 p l e R s m args below meth c Q pc L st h := by
  obtain ⟨TB, hx, hb, hml, hown, hts, hK, hA, hin, hX, hcl, hge, hR1, hR2, hAO⟩ := id FX
  intro ad H locs ls r
  obtain ⟨hP, hD, hS, hwf, hlv, hlen, hsv, hLv, hadb, hn0, hs0⟩ := id r
  unfold hk_G
  have go : ∀ {st' : List Value}, nxr L st' h = some qf → (∀ v ∈ st', hk_vo sc h.2.2.2 v) → hk_G SH cls p l e R s m args below meth c Q n0 s0 ad h H locs (pc + len) ls st' := fun h1 h2 => hnx _ _ _ h1 _ _ _ _ (r.stk h2)
  have gj : ∀ {t : Nat} {st' : List Value}, jmr t L st' h = some qf → (∀ v ∈ st', hk_vo sc h.2.2.2 v) → hk_G SH cls p l e R s m args below meth c Q n0 s0 ad h H locs t ls st' := fun h1 h2 => hjm _ _ _ _ h1 _ _ _ _ (r.stk h2)
  unfold hk_G at go gj
  simp only [hk_iok, Bool.and_eq_true, decide_eq_true_eq] at hck
  simp only [hk_stp] at hrun
  obtain rfl := hck
  unfold hk_las at hrun
  split at hrun
  · next x i q0 r0 =>
    split at hrun
    · next n hsh =>
      dsimp only at hrun
      split at hrun
      · next hin =>
        obtain ⟨v1, v2, v3⟩ := hk_vo2 hsv
        obtain ⟨v4, v5⟩ := hk_vot v3
        have hal := hk_aliv TB.2.2.2.1 v4 hsh (by decide)
        obtain ⟨k, hk1, hk2⟩ := hk_ws_at (SH := SH) (cls := cls) (kd := kd) (cI := cI) (cZ := cZ) (cR := cR) (cJ := cJ) (ad := ad) hal
        rw [hk_ce5 hsh] at hk2
        exact va_last (D := D) (tys := hk_tys cI cZ cR cJ hn) hx hb hK hP hD hS k 3 hk2 rfl hin hdg (fun H1 locs1 hP1 hD1 hS1 => hnx _ _ _ hrun _ _ _ _ (r.wr (h' := (h.1, hk_uJ h.2.1 q0 i.toNatClampNeg x, h.2.2)) hk1 (by rw [hk_ce5 hsh]; simp [hk_u2, hk_uJ]) rfl (fun z hz => ⟨rfl, by simp [hk_uJ, hz], rfl⟩) hwf hP1 hD1 hS1 v5))
      · cases hrun
    · cases hrun
  · cases hrun

set_option maxHeartbeats 1000000 in
theorem hk_z_aastore {ini : Bool} {rk : Nat} (FX : hk_Fx SH ch cls kd wl mt hn sc p l R s m args meth c D cI cZ cR cJ A H0 b0 mx dd own cc scr cl ini) {pc len a b c1 d : Nat} {v : Int32} {w : Int64} {sw : List (Int32 × Nat)}  (hdg : decode cc pc = .ok (.aastore, len)) (hck : hk_iok cls kd wl mt hn own ini rk mx pc (.aastore) len a b c1 d v w sw = true) {nxr : hk_L → List Value → hk_H → hk_O} {jmr : Nat → hk_L → List Value → hk_H → hk_O} {qf : Option Value × hk_H} (hnx : ∀ L st h, nxr L st h = some qf → hk_K SH cls kd sc D cI cZ cR cJ A H0 b0 ad0 al0 mx n0 s0 p l e R s m args below meth c Q (pc + len) L st h) (hjm : ∀ t L st h, jmr t L st h = some qf → hk_K SH cls kd sc D cI cZ cR cJ A H0 b0 ad0 al0 mx n0 s0 p l e R s m args below meth c Q t L st h)  {L : hk_L} {st : List Value} {h : hk_H} (hrun : hk_stp SH pb big none nxr jmr (fun P d k => @ite _ P d k none) (fun P d k0 k1 => @ite _ P d k0 k1) (fun y a h k => (cl y a h).bind (fun q => k q.1 q.2)) (fun r h => some (r, h)) scr ch (.aastore) a c1 d v w sw L st h = some qf) : hk_K SH cls kd sc D cI cZ cR cJ A H0 b0 ad0 al0 mx n0 s0 p l e R s m args below meth c Q pc L st h := by
  obtain ⟨TB, hx, hb, hml, hown, hts, hK, hA, hin, hX, hcl, hge, hR1, hR2, hAO⟩ := id FX
  intro ad H locs ls r
  obtain ⟨hP, hD, hS, hwf, hlv, hlen, hsv, hLv, hadb, hn0, hs0⟩ := id r
  unfold hk_G
  have go : ∀ {st' : List Value}, nxr L st' h = some qf → (∀ v ∈ st', hk_vo sc h.2.2.2 v) → hk_G SH cls p l e R s m args below meth c Q n0 s0 ad h H locs (pc + len) ls st' := fun h1 h2 => hnx _ _ _ h1 _ _ _ _ (r.stk h2)
  have gj : ∀ {t : Nat} {st' : List Value}, jmr t L st' h = some qf → (∀ v ∈ st', hk_vo sc h.2.2.2 v) → hk_G SH cls p l e R s m args below meth c Q n0 s0 ad h H locs t ls st' := fun h1 h2 => hjm _ _ _ _ h1 _ _ _ _ (r.stk h2)
  unfold hk_G at go gj
  simp only [hk_iok, Bool.and_eq_true, decide_eq_true_eq] at hck
  simp only [hk_stp] at hrun
  obtain rfl := hck
  unfold hk_aas at hrun
  split at hrun
  · next q1 i q0 r0 =>
    split at hrun
    · next hsh1 =>
      split at hrun
      · next n hsh =>
        dsimp only at hrun
        split at hrun
        · next hin =>
          obtain ⟨v1, v2, v3⟩ := hk_vo2 hsv
          obtain ⟨v4, v5⟩ := hk_vot v3
          have hsh1 := hk_is_eq hsh1
          have hal := hk_aliv TB.2.2.2.1 v4 hsh (by decide)
          have hal1 := hk_aliv TB.2.2.2.1 v1 hsh1 (by decide)
          obtain ⟨k, hk1, hk2⟩ := hk_ws_at (SH := SH) (cls := cls) (kd := kd) (cI := cI) (cZ := cZ) (cR := cR) (cJ := cJ) (ad := ad) hal
          obtain ⟨k3, hk3, hk4⟩ := hk_ws_at (SH := SH) (cls := cls) (kd := kd) (cI := cI) (cZ := cZ) (cR := cR) (cJ := cJ) (ad := ad) hal1
          rw [hk_ce4 hsh] at hk2
          rw [hk_ce1 hsh1] at hk4
          obtain ⟨qc, hqc, hqn⟩ := TB.2.2.2.2.1
          exact va_astq (D := D) (tys := hk_tys cI cZ cR cJ hn) hx hb hK hP hD hS k 2 k3 ch hk2 (by rw [hqn]; rfl) hk4 hqc hin hdg (fun H1 locs1 hP1 hD1 hS1 => hnx _ _ _ hrun _ _ _ _ (r.wr (h' := (h.1, h.2.1, hk_uR h.2.2.1 q0 i.toNatClampNeg (q1 + 1), h.2.2.2)) hk1 (by
            rw [hk_ce4 hsh]
            congr 7
            funext z
            simp only [hk_uR, if_true, va_up]
            split <;> rfl) rfl (fun z hz => ⟨rfl, rfl, by simp [hk_uR, hz]⟩) (hk_wf_uR hwf hal1) hP1 hD1 hS1 v5))
        · cases hrun
      · cases hrun
    · cases hrun
  · cases hrun

set_option maxHeartbeats 1000000 in
theorem hk_z_arraylength {ini : Bool} {rk : Nat} (FX : hk_Fx SH ch cls kd wl mt hn sc p l R s m args meth c D cI cZ cR cJ A H0 b0 mx dd own cc scr cl ini) {pc len a b c1 d : Nat} {v : Int32} {w : Int64} {sw : List (Int32 × Nat)}  (hdg : decode cc pc = .ok (.arraylength, len)) (hck : hk_iok cls kd wl mt hn own ini rk mx pc (.arraylength) len a b c1 d v w sw = true) {nxr : hk_L → List Value → hk_H → hk_O} {jmr : Nat → hk_L → List Value → hk_H → hk_O} {qf : Option Value × hk_H} (hnx : ∀ L st h, nxr L st h = some qf → hk_K SH cls kd sc D cI cZ cR cJ A H0 b0 ad0 al0 mx n0 s0 p l e R s m args below meth c Q (pc + len) L st h) (hjm : ∀ t L st h, jmr t L st h = some qf → hk_K SH cls kd sc D cI cZ cR cJ A H0 b0 ad0 al0 mx n0 s0 p l e R s m args below meth c Q t L st h)  {L : hk_L} {st : List Value} {h : hk_H} (hrun : hk_stp SH pb big none nxr jmr (fun P d k => @ite _ P d k none) (fun P d k0 k1 => @ite _ P d k0 k1) (fun y a h k => (cl y a h).bind (fun q => k q.1 q.2)) (fun r h => some (r, h)) scr ch (.arraylength) a c1 d v w sw L st h = some qf) : hk_K SH cls kd sc D cI cZ cR cJ A H0 b0 ad0 al0 mx n0 s0 p l e R s m args below meth c Q pc L st h := by
  obtain ⟨TB, hx, hb, hml, hown, hts, hK, hA, hin, hX, hcl, hge, hR1, hR2, hAO⟩ := id FX
  intro ad H locs ls r
  obtain ⟨hP, hD, hS, hwf, hlv, hlen, hsv, hLv, hadb, hn0, hs0⟩ := id r
  unfold hk_G
  have go : ∀ {st' : List Value}, nxr L st' h = some qf → (∀ v ∈ st', hk_vo sc h.2.2.2 v) → hk_G SH cls p l e R s m args below meth c Q n0 s0 ad h H locs (pc + len) ls st' := fun h1 h2 => hnx _ _ _ h1 _ _ _ _ (r.stk h2)
  have gj : ∀ {t : Nat} {st' : List Value}, jmr t L st' h = some qf → (∀ v ∈ st', hk_vo sc h.2.2.2 v) → hk_G SH cls p l e R s m args below meth c Q n0 s0 ad h H locs t ls st' := fun h1 h2 => hjm _ _ _ _ h1 _ _ _ _ (r.stk h2)
  unfold hk_G at go gj
  simp only [hk_iok, Bool.and_eq_true, decide_eq_true_eq] at hck
  simp only [hk_stp] at hrun
  obtain rfl := hck
  unfold hk_len at hrun
  split at hrun
  · next q0 r0 =>
    split at hrun
    · next n hsh =>
      have hal := hk_aliv TB.2.2.2.1 (hk_vot hsv).1 hsh (by decide)
      obtain ⟨k, hk1, hk2⟩ := hk_ws_at (SH := SH) (cls := cls) (kd := kd) (cI := cI) (cZ := cZ) (cR := cR) (cJ := cJ) (ad := ad) hal
      rw [hk_ce2 hsh] at hk2
      exact va_alen (D := D) (tys := hk_tys cI cZ cR cJ hn) hx hb hK hP k 0 hk2 rfl rfl hdg (go hrun (hk_voc trivial (hk_vot hsv).2))
    · next n hsh =>
      split at hrun
      · next sq =>
        have hq0 : q0 = sc := TB.2.2.1 _ _ hsh
        obtain ⟨x1, x2, x3⟩ := hX sq rfl
        have e0 : hk_tv ad (.ref q0) = .ref b0 := by rw [hq0]; exact congrArg Value.ref hadb.1
        show W p l e R s m args below meth c H locs _ _ Q (F0 m pc ls (hk_tv ad (.ref q0) :: r0.map (hk_tv ad)))
        rw [e0]
        exact va_slen hx hb x1 x2 x3 hS hdg (go hrun (hk_voc trivial (hk_vot hsv).2))
      · cases hrun
    · cases hrun
  · cases hrun

theorem hk_sw_snd {X : hk_O} {x : Int32} {k0 : hk_O} {k : Nat → hk_O} : ∀ {sw : List (Int32 × Nat)}, hk_sw (fun P d k0 k1 => @ite _ P d k0 k1) x k0 k sw = X → (∃ (j : Nat) (q : Int32 × Nat), sw[j]? = some q ∧ x = q.1 ∧ k q.2 = X) ∨ ((∀ q ∈ sw, ¬ x = q.1) ∧ k0 = X)
  | [], h => Or.inr ⟨fun _ h => absurd h List.not_mem_nil, h⟩
  | q :: r, h => by
    rw [hk_sw] at h
    by_cases hq : x = q.1
    · rw [if_pos hq] at h
      exact Or.inl ⟨0, q, rfl, hq, h⟩
    · rw [if_neg hq] at h
      rcases hk_sw_snd h with ⟨j, q', h1, h2, h3⟩ | ⟨h1, h2⟩
      · exact Or.inl ⟨j + 1, q', h1, h2, h3⟩
      · exact Or.inr ⟨fun z hz => by
          rcases List.mem_cons.mp hz with rfl | hz
          · exact hq
          · exact h1 z hz, h2⟩
theorem hk_swT_at {pc : Nat} {lo : Int} : ∀ {k : Nat} {sw : List (Int32 × Nat)} {os : List Int}, hk_swT pc lo k sw os = true → sw.length = os.length ∧ ∀ (j : Nat) (q : Int32 × Nat), sw[j]? = some q → ∃ o, os[j]? = some o ∧ q.1.toInt = lo + (k + j : Nat) ∧ (pc : Int) + o = (q.2 : Int)
  | _, [], [], _ => ⟨rfl, fun j q h => by simp at h⟩
  | k, q :: r, o :: os, h => by
    simp only [hk_swT, Bool.and_eq_true, decide_eq_true_eq] at h
    obtain ⟨⟨h1, h2⟩, h3⟩ := h
    obtain ⟨h4, h5⟩ := hk_swT_at h3
    refine ⟨by simp [h4], fun j q' hj => ?_⟩
    cases j with
    | zero => cases hj; exact ⟨o, rfl, h1, h2⟩
    | succ j =>
      obtain ⟨o', g1, g2, g3⟩ := h5 j q' hj
      exact ⟨o', g1, by rw [g2]; congr 2; omega, g3⟩
  | _, [], _ :: _, h => by simp [hk_swT] at h
  | _, _ :: _, [], h => by simp [hk_swT] at h
theorem hk_swL_at {pc : Nat} {df : Int} {x : Int32} {k0 : Nat} (hd : (pc : Int) + df = (k0 : Int)) : ∀ {sw : List (Int32 × Nat)} {ps : List (Int × Int)}, hk_swL pc sw ps = true → ((∀ q ∈ sw, ¬ x = q.1) → (pc : Int) + Op.lookupswitch.offset ps df x.toInt = (k0 : Int)) ∧ ∀ (j : Nat) (q : Int32 × Nat), sw[j]? = some q → x = q.1 → (∀ i q', i < j → sw[i]? = some q' → ¬ x = q'.1) → (pc : Int) + Op.lookupswitch.offset ps df x.toInt = (q.2 : Int)
  | [], [], _ => ⟨fun _ => hd, fun j q h => by simp at h⟩
  | q :: r, o :: os, h => by
    simp only [hk_swL, Bool.and_eq_true, decide_eq_true_eq] at h
    obtain ⟨⟨h1, h2⟩, h3⟩ := h
    obtain ⟨h4, h5⟩ := hk_swL_at hd h3
    obtain ⟨oa, ob⟩ := o
    constructor
    · intro hn
      rw [lv_osw (hn q List.mem_cons_self) h1]
      exact h4 fun z hz => hn z (List.mem_cons_of_mem _ hz)
    · intro j q' hj hx hlt
      cases j with
      | zero =>
        cases hj
        rw [Op.lookupswitch.offset_cons, if_pos (by rw [hx]; exact h1.symm)]
        exact h2
      | succ j =>
        rw [lv_osw (hlt 0 q (by omega) rfl) h1]
        exact h5 j q' hj hx fun i z hi hz => hlt (i + 1) z (by omega) hz
  | [], _ :: _, h => by simp [hk_swL] at h
  | _ :: _, [], h => by simp [hk_swL] at h
theorem hk_sw_fst {X : hk_O} {x : Int32} {k0 : hk_O} {k : Nat → hk_O} : ∀ {sw : List (Int32 × Nat)}, hk_sw (fun P d k0 k1 => @ite _ P d k0 k1) x k0 k sw = X → (∃ (j : Nat) (q : Int32 × Nat), sw[j]? = some q ∧ x = q.1 ∧ (∀ i q', i < j → sw[i]? = some q' → ¬ x = q'.1) ∧ k q.2 = X) ∨ ((∀ q ∈ sw, ¬ x = q.1) ∧ k0 = X)
  | [], h => Or.inr ⟨fun _ h => absurd h List.not_mem_nil, h⟩
  | q :: r, h => by
    rw [hk_sw] at h
    by_cases hq : x = q.1
    · rw [if_pos hq] at h
      exact Or.inl ⟨0, q, rfl, hq, fun i q' hi => by omega, h⟩
    · rw [if_neg hq] at h
      rcases hk_sw_fst h with ⟨j, q', h1, h2, h4, h3⟩ | ⟨h1, h2⟩
      · refine Or.inl ⟨j + 1, q', h1, h2, fun i z hi hz => ?_, h3⟩
        cases i with
        | zero => cases hz; exact hq
        | succ i => exact h4 i z (by omega) hz
      · exact Or.inr ⟨fun z hz => by
          rcases List.mem_cons.mp hz with rfl | hz
          · exact hq
          · exact h1 z hz, h2⟩

set_option maxHeartbeats 1000000 in
theorem hk_z_tableswitch {ini : Bool} {rk : Nat} (FX : hk_Fx SH ch cls kd wl mt hn sc p l R s m args meth c D cI cZ cR cJ A H0 b0 mx dd own cc scr cl ini) {pc len a b c1 d : Nat} {v : Int32} {w : Int64} {sw : List (Int32 × Nat)} {df lo hi : Int} {os : Array Int} (hdg : decode cc pc = .ok (.tableswitch df lo hi os, len)) (hck : hk_iok cls kd wl mt hn own ini rk mx pc (.tableswitch df lo hi os) len a b c1 d v w sw = true) {nxr : hk_L → List Value → hk_H → hk_O} {jmr : Nat → hk_L → List Value → hk_H → hk_O} {qf : Option Value × hk_H} (hnx : ∀ L st h, nxr L st h = some qf → hk_K SH cls kd sc D cI cZ cR cJ A H0 b0 ad0 al0 mx n0 s0 p l e R s m args below meth c Q (pc + len) L st h) (hjm : ∀ t L st h, jmr t L st h = some qf → hk_K SH cls kd sc D cI cZ cR cJ A H0 b0 ad0 al0 mx n0 s0 p l e R s m args below meth c Q t L st h)  {L : hk_L} {st : List Value} {h : hk_H} (hrun : hk_stp SH pb big none nxr jmr (fun P d k => @ite _ P d k none) (fun P d k0 k1 => @ite _ P d k0 k1) (fun y a h k => (cl y a h).bind (fun q => k q.1 q.2)) (fun r h => some (r, h)) scr ch (.tableswitch df lo hi os) a c1 d v w sw L st h = some qf) : hk_K SH cls kd sc D cI cZ cR cJ A H0 b0 ad0 al0 mx n0 s0 p l e R s m args below meth c Q pc L st h := by
  obtain ⟨TB, hx, hb, hml, hown, hts, hK, hA, hin, hX, hcl, hge, hR1, hR2, hAO⟩ := id FX
  intro ad H locs ls r
  obtain ⟨hP, hD, hS, hwf, hlv, hlen, hsv, hLv, hadb, hn0, hs0⟩ := id r
  unfold hk_G
  have go : ∀ {st' : List Value}, nxr L st' h = some qf → (∀ v ∈ st', hk_vo sc h.2.2.2 v) → hk_G SH cls p l e R s m args below meth c Q n0 s0 ad h H locs (pc + len) ls st' := fun h1 h2 => hnx _ _ _ h1 _ _ _ _ (r.stk h2)
  have gj : ∀ {t : Nat} {st' : List Value}, jmr t L st' h = some qf → (∀ v ∈ st', hk_vo sc h.2.2.2 v) → hk_G SH cls p l e R s m args below meth c Q n0 s0 ad h H locs t ls st' := fun h1 h2 => hjm _ _ _ _ h1 _ _ _ _ (r.stk h2)
  unfold hk_G at go gj
  simp only [hk_iok, Bool.and_eq_true, decide_eq_true_eq] at hck
  simp only [hk_stp] at hrun
  obtain ⟨⟨ht, hhi⟩, hsw⟩ := hck
  obtain ⟨hl1, hl2⟩ := hk_swT_at hsw
  split at hrun
  · next x r0 =>
    rcases hk_sw_fst hrun with ⟨j, q, hj, hxq, -, hr⟩ | ⟨hno, hr⟩
    · obtain ⟨o, ho1, ho2, ho3⟩ := hl2 j q hj
      have hjl : j < os.toList.length := (List.getElem?_eq_some_iff.mp ho1).1
      rw [Array.length_toList] at hjl
      have hxi : x.toInt = lo + (j : Int) := by rw [hxq, ho2]; simp
      refine lv_tableIn hx hb hdg (by omega) (by omega) (off := o) ?_ ho3 (gj hr (hk_vot hsv).2)
      rw [show (x.toInt - lo).toNat = j by omega, ← Array.getElem?_toList]
      exact ho1
    · refine lv_tableOut hx hb hdg ?_ ht (gj hr (hk_vot hsv).2)
      by_cases h1 : x.toInt < lo
      · exact Or.inl h1
      · by_cases h2 : hi < x.toInt
        · exact Or.inr h2
        · exfalso
          have hz : (x.toInt - lo).toNat < sw.length := by
            rw [hl1, Array.length_toList]
            omega
          have hq := List.getElem?_eq_getElem hz
          obtain ⟨o, g1, g2, g3⟩ := hl2 _ _ hq
          refine hno _ (List.getElem_mem hz) (Int32.toInt_inj.mp ?_)
          rw [g2]
          simp
          omega
  · cases hrun

set_option maxHeartbeats 1000000 in
theorem hk_z_lookupswitch {ini : Bool} {rk : Nat} (FX : hk_Fx SH ch cls kd wl mt hn sc p l R s m args meth c D cI cZ cR cJ A H0 b0 mx dd own cc scr cl ini) {pc len a b c1 d : Nat} {v : Int32} {w : Int64} {sw : List (Int32 × Nat)} {df : Int} {ps : Array (Int × Int)} (hdg : decode cc pc = .ok (.lookupswitch df ps, len)) (hck : hk_iok cls kd wl mt hn own ini rk mx pc (.lookupswitch df ps) len a b c1 d v w sw = true) {nxr : hk_L → List Value → hk_H → hk_O} {jmr : Nat → hk_L → List Value → hk_H → hk_O} {qf : Option Value × hk_H} (hnx : ∀ L st h, nxr L st h = some qf → hk_K SH cls kd sc D cI cZ cR cJ A H0 b0 ad0 al0 mx n0 s0 p l e R s m args below meth c Q (pc + len) L st h) (hjm : ∀ t L st h, jmr t L st h = some qf → hk_K SH cls kd sc D cI cZ cR cJ A H0 b0 ad0 al0 mx n0 s0 p l e R s m args below meth c Q t L st h)  {L : hk_L} {st : List Value} {h : hk_H} (hrun : hk_stp SH pb big none nxr jmr (fun P d k => @ite _ P d k none) (fun P d k0 k1 => @ite _ P d k0 k1) (fun y a h k => (cl y a h).bind (fun q => k q.1 q.2)) (fun r h => some (r, h)) scr ch (.lookupswitch df ps) a c1 d v w sw L st h = some qf) : hk_K SH cls kd sc D cI cZ cR cJ A H0 b0 ad0 al0 mx n0 s0 p l e R s m args below meth c Q pc L st h := by
  obtain ⟨TB, hx, hb, hml, hown, hts, hK, hA, hin, hX, hcl, hge, hR1, hR2, hAO⟩ := id FX
  intro ad H locs ls r
  obtain ⟨hP, hD, hS, hwf, hlv, hlen, hsv, hLv, hadb, hn0, hs0⟩ := id r
  unfold hk_G
  have go : ∀ {st' : List Value}, nxr L st' h = some qf → (∀ v ∈ st', hk_vo sc h.2.2.2 v) → hk_G SH cls p l e R s m args below meth c Q n0 s0 ad h H locs (pc + len) ls st' := fun h1 h2 => hnx _ _ _ h1 _ _ _ _ (r.stk h2)
  have gj : ∀ {t : Nat} {st' : List Value}, jmr t L st' h = some qf → (∀ v ∈ st', hk_vo sc h.2.2.2 v) → hk_G SH cls p l e R s m args below meth c Q n0 s0 ad h H locs t ls st' := fun h1 h2 => hjm _ _ _ _ h1 _ _ _ _ (r.stk h2)
  unfold hk_G at go gj
  simp only [hk_iok, Bool.and_eq_true, decide_eq_true_eq] at hck
  simp only [hk_stp] at hrun
  obtain ⟨⟨ht, hps⟩, hsw⟩ := hck
  split at hrun
  · next x r0 =>
    obtain ⟨g1, g2⟩ := hk_swL_at (x := x) ht hsw
    rcases hk_sw_fst hrun with ⟨j, q, hj, hxq, hlt, hr⟩ | ⟨hno, hr⟩
    · exact lv_lookup hx hb hdg hps rfl (g2 j q hj hxq hlt) (gj hr (hk_vot hsv).2)
    · exact lv_lookup hx hb hdg hps rfl (g1 hno) (gj hr (hk_vot hsv).2)
  · cases hrun

end HKJ3
end
section
/-! ===== new cells, calls, ends ===== -/
section HKJ4
variable {SH : Nat → hk_Sh} {pb big ch : Nat} {cls : List vw_C} {kd : Nat → Nat → Nat} {wl : List Jvm.Cond} {mt : Nat → Option hk_Q} {hn : String} {sc : Nat}
variable {p : Program} {l : Launch} {e : Env} {R : Room} {s : State} {m : MethodId} {args : Array Value} {below : List Frame} {meth : Method} {c : Code} {Q : State → Prop}
variable {D : va_G} {cI cZ cR cJ : ClassId} {A : Nat → Prop} {H0 : Heap} {b0 mx n0 s0 dd : Nat} {ad0 : Nat → Nat} {al0 : List Nat} {own : String} {cc : ByteArray} {scr : Option (Nat × (Nat → Int32))} {cl : Nat → List Value → hk_H → hk_O}
/-- behind the making: the frame's goal out of what goes on -/
theorem hk_mkW {ad : Nat → Nat} {h : hk_H} {H H1 : Heap} {locs : List Loc} {ls : Array Slot} {L : hk_L} {st r0 : List Value} {q a pc N : Nat} {E : va_E} (r : hk_R SH cls kd sc D cI cZ cR cJ A H0 b0 ad0 al0 mx n0 s0 ad h H locs ls L st) (hq : q ∉ h.2.2.2) (hsc : q ≠ sc) (hE : hk_ce SH cls kd cI cZ cR cJ (fun z => if z = q then a else ad z) (hk_nw h q) q = E) (hN : hk_sl SH cls (hk_nw h q).2.2.2 = hk_sl SH cls h.2.2.2 + N)
    (hP : va_P D cls (hk_ws SH cls kd cI cZ cR cJ ad h ++ [(a, E)]) H1) (hD : va_D A (hk_ws SH cls kd cI cZ cR cJ ad h ++ [(a, E)])) (hS : va_S A H0 H1 locs) (hs : ∀ v ∈ r0, hk_vo sc h.2.2.2 v) (kk : hk_K SH cls kd sc D cI cZ cR cJ A H0 b0 ad0 al0 mx n0 s0 p l e R s m args below meth c Q pc L (.ref q :: r0) (hk_nw h q)) :
    W p l e R s m args below meth c H1 locs (h.2.2.2.length - n0 + 1) (hk_sl SH cls h.2.2.2 - s0 + N) Q (F0 m pc ls (.ref a :: r0.map (hk_tv ad))) := by
  obtain ⟨r2, hag⟩ := r.mk hq hsc hE hP hD hS hs
  have g := kk _ _ _ _ r2
  unfold hk_G at g
  have e1 : ((.ref q :: r0 : List Value).map (hk_tv (fun z => if z = q then a else ad z))) = .ref a :: r0.map (hk_tv ad) := by
    rw [List.map_cons, hk_map_congr hag hs]
    congr 1
    show Value.ref (if q = q then a else ad q) = _
    rw [if_pos rfl]
  rw [e1, hN] at g
  obtain ⟨-, -, -, -, -, -, -, -, -, g1, g2⟩ := r
  have e2 : (hk_nw h q).2.2.2.length = h.2.2.2.length + 1 := by simp [hk_nw]
  rw [e2] at g
  exact W.cs (by omega) (by omega) g
theorem hk_mk_eq {nxr : hk_L → List Value → hk_H → hk_O} {L : hk_L} {r : List Value} {h : hk_H} {k n : Nat} {qf : Option Value × hk_H} (he : hk_mk SH pb big none nxr L r h k n = some qf) : ∃ q, SH q = (k, n) ∧ q ∉ h.2.2.2 ∧ nxr L (.ref q :: r) (hk_nw h q) = some qf := by
  unfold hk_mk at he
  split at he
  · next hc =>
    rw [Bool.and_eq_true] at hc
    refine ⟨_, hk_is_eq hc.1, fun hm => ?_, he⟩
    have h2 := hc.2
    rw [List.contains_iff_mem.mpr hm] at h2
    cases h2
  · cases he
theorem hk_shne2 (hS : ∃ n, SH sc = (6, n)) {q k n : Nat} (hq : SH q = (k, n)) (hk : k ≠ 6) : q ≠ sc := hk_shne hS hq hk

set_option maxHeartbeats 1000000 in
theorem hk_z_new {ini : Bool} {rk : Nat} (FX : hk_Fx SH ch cls kd wl mt hn sc p l R s m args meth c D cI cZ cR cJ A H0 b0 mx dd own cc scr cl ini) {pc len a b c1 d : Nat} {v : Int32} {w : Int64} {sw : List (Int32 × Nat)} {i : Nat} (hdg : decode cc pc = .ok (.new i, len)) (hck : hk_iok cls kd wl mt hn own ini rk mx pc (.new i) len a b c1 d v w sw = true) {nxr : hk_L → List Value → hk_H → hk_O} {jmr : Nat → hk_L → List Value → hk_H → hk_O} {qf : Option Value × hk_H} (hnx : ∀ L st h, nxr L st h = some qf → hk_K SH cls kd sc D cI cZ cR cJ A H0 b0 ad0 al0 mx n0 s0 p l e R s m args below meth c Q (pc + len) L st h) (hjm : ∀ t L st h, jmr t L st h = some qf → hk_K SH cls kd sc D cI cZ cR cJ A H0 b0 ad0 al0 mx n0 s0 p l e R s m args below meth c Q t L st h) (hgr : ∀ L st h, nxr L st h = some qf → hk_ge h qf.2) (hR3 : qf.2.2.2.2.length - n0 ≤ R.cells ∧ hk_sl SH cls qf.2.2.2.2 - s0 ≤ R.slots) {L : hk_L} {st : List Value} {h : hk_H} (hrun : hk_stp SH pb big none nxr jmr (fun P d k => @ite _ P d k none) (fun P d k0 k1 => @ite _ P d k0 k1) (fun y a h k => (cl y a h).bind (fun q => k q.1 q.2)) (fun r h => some (r, h)) scr ch (.new i) a c1 d v w sw L st h = some qf) : hk_K SH cls kd sc D cI cZ cR cJ A H0 b0 ad0 al0 mx n0 s0 p l e R s m args below meth c Q pc L st h := by
  obtain ⟨TB, hx, hb, hml, hown, hts, hK, hA, hin, hX, hcl, hge, hR1, hR2, hAO⟩ := id FX
  intro ad H locs ls r
  obtain ⟨hP, hD, hS, hwf, hlv, hlen, hsv, hLv, hadb, hn0, hs0⟩ := id r
  unfold hk_G
  have go : ∀ {st' : List Value}, nxr L st' h = some qf → (∀ v ∈ st', hk_vo sc h.2.2.2 v) → hk_G SH cls p l e R s m args below meth c Q n0 s0 ad h H locs (pc + len) ls st' := fun h1 h2 => hnx _ _ _ h1 _ _ _ _ (r.stk h2)
  have gj : ∀ {t : Nat} {st' : List Value}, jmr t L st' h = some qf → (∀ v ∈ st', hk_vo sc h.2.2.2 v) → hk_G SH cls p l e R s m args below meth c Q n0 s0 ad h H locs t ls st' := fun h1 h2 => hjm _ _ _ _ h1 _ _ _ _ (r.stk h2)
  unfold hk_G at go gj
  simp only [hk_iok] at hck
  simp only [hk_stp] at hrun
  unfold hk_new at hrun
  obtain ⟨q0, hsh, hq0, hr⟩ := hk_mk_eq hrun
  obtain ⟨q, hq⟩ := TB.2.1 _ _ hsh
  rw [hq] at hck
  simp only [Bool.and_eq_true, decide_eq_true_eq] at hck
  obtain ⟨⟨⟨rfl, h1⟩, h2⟩, h3⟩ := hck
  obtain ⟨C, T, N⟩ := q
  obtain ⟨hu, ⟨ty, hty, hkk⟩, hnm⟩ := TB.1 a _ hq
  have hg := hgr _ _ _ hr
  have hN : hk_sl SH cls (hk_nw h q0).2.2.2 = hk_sl SH cls h.2.2.2 + N := by
    rw [hk_sl_nw, hsh]
    show _ + hk_nf cls a = _
    rw [hk_nf_eq hq]
  have hg1 := hk_ge_len hg
  have hg2 := hk_ge_sl (SH := SH) (cls := cls) hg
  rw [hN] at hg2
  have e2 : (hk_nw h q0).2.2.2.length = h.2.2.2.length + 1 := by simp [hk_nw]
  rw [e2] at hg1
  refine va_new (ci := a) (fs := (List.range N).map (fun k => match kd a k with | 1 => Value.null | _ => Value.int 0)) (C := C) (T := T) (N := N) hx hb hts hu ty hty hown (hts _ (List.mem_of_getElem? h1)) (hts _ (List.mem_of_getElem? h2)) (hts _ (List.mem_of_getElem? h3)) hK hP hD hS hA hq (fun j hj => ?_) (by omega) (by omega) hdg (fun q5 H1 hP1 hD1 hS1 => hk_mkW r hq0 (hk_shne TB.2.2.2.1 hsh (by decide)) ?_ hN hP1 hD1 hS1 hsv (hnx _ _ _ hr))
  · unfold vp_V
    rw [List.getD_eq_getElem?_getD, List.getElem?_map, List.getElem?_range hj]
    obtain ⟨k0, k1, k2, k3⟩ := hkk j hj
    have h012 : kd a j = 0 ∨ kd a j = 1 ∨ kd a j = 2 := by omega
    rcases h012 with h5 | h5 | h5
    · rw [k0 h5]; simp [h5, defaultValue]
    · rcases k1 h5 with ⟨o, e⟩ | ⟨o, e⟩ <;> rw [e] <;> simp [h5, defaultValue]
    · rw [k2 h5]; simp [h5, defaultValue]
  · rw [hk_ce1 hsh, hk_nf_eq hq]
    congr 2
    apply List.map_congr_left
    intro j _
    unfold hk_fv
    split
    · next e5 => simp [hk_nw, hk_z, hk_rf, va_rf, e5]
    · simp [hk_nw, hk_z]

set_option maxHeartbeats 1000000 in
theorem hk_z_newarray {ini : Bool} {rk : Nat} (FX : hk_Fx SH ch cls kd wl mt hn sc p l R s m args meth c D cI cZ cR cJ A H0 b0 mx dd own cc scr cl ini) {pc len a b c1 d : Nat} {v : Int32} {w : Int64} {sw : List (Int32 × Nat)} {t : ArrayType} (hdg : decode cc pc = .ok (.newarray t, len)) (hck : hk_iok cls kd wl mt hn own ini rk mx pc (.newarray t) len a b c1 d v w sw = true) {nxr : hk_L → List Value → hk_H → hk_O} {jmr : Nat → hk_L → List Value → hk_H → hk_O} {qf : Option Value × hk_H} (hnx : ∀ L st h, nxr L st h = some qf → hk_K SH cls kd sc D cI cZ cR cJ A H0 b0 ad0 al0 mx n0 s0 p l e R s m args below meth c Q (pc + len) L st h) (hjm : ∀ t L st h, jmr t L st h = some qf → hk_K SH cls kd sc D cI cZ cR cJ A H0 b0 ad0 al0 mx n0 s0 p l e R s m args below meth c Q t L st h) (hgr : ∀ L st h, nxr L st h = some qf → hk_ge h qf.2) (hR3 : qf.2.2.2.2.length - n0 ≤ R.cells ∧ hk_sl SH cls qf.2.2.2.2 - s0 ≤ R.slots) {L : hk_L} {st : List Value} {h : hk_H} (hrun : hk_stp SH pb big none nxr jmr (fun P d k => @ite _ P d k none) (fun P d k0 k1 => @ite _ P d k0 k1) (fun y a h k => (cl y a h).bind (fun q => k q.1 q.2)) (fun r h => some (r, h)) scr ch (.newarray t) a c1 d v w sw L st h = some qf) : hk_K SH cls kd sc D cI cZ cR cJ A H0 b0 ad0 al0 mx n0 s0 p l e R s m args below meth c Q pc L st h := by
  obtain ⟨TB, hx, hb, hml, hown, hts, hK, hA, hin, hX, hcl, hge, hR1, hR2, hAO⟩ := id FX
  intro ad H locs ls r
  obtain ⟨hP, hD, hS, hwf, hlv, hlen, hsv, hLv, hadb, hn0, hs0⟩ := id r
  unfold hk_G
  have go : ∀ {st' : List Value}, nxr L st' h = some qf → (∀ v ∈ st', hk_vo sc h.2.2.2 v) → hk_G SH cls p l e R s m args below meth c Q n0 s0 ad h H locs (pc + len) ls st' := fun h1 h2 => hnx _ _ _ h1 _ _ _ _ (r.stk h2)
  have gj : ∀ {t : Nat} {st' : List Value}, jmr t L st' h = some qf → (∀ v ∈ st', hk_vo sc h.2.2.2 v) → hk_G SH cls p l e R s m args below meth c Q n0 s0 ad h H locs t ls st' := fun h1 h2 => hjm _ _ _ _ h1 _ _ _ _ (r.stk h2)
  unfold hk_G at go gj
  simp only [hk_iok, Bool.and_eq_true, decide_eq_true_eq] at hck
  simp only [hk_stp] at hrun
  obtain rfl := hck
  unfold hk_newa at hrun
  split at hrun
  · next i r0 =>
    dsimp only at hrun
    split at hrun
    case isFalse => cases hrun
    rename_i hlt
    split at hrun
    · obtain ⟨q0, hsh, hq0, hr⟩ := hk_mk_eq hrun
      have hg := hgr _ _ _ hr
      have hN : hk_sl SH cls (hk_nw h q0).2.2.2 = hk_sl SH cls h.2.2.2 + i.toNatClampNeg := by
        rw [hk_sl_nw, hsh]
        rfl
      have hg1 := hk_ge_len hg
      have hg2 := hk_ge_sl (SH := SH) (cls := cls) hg
      rw [hN] at hg2
      have e2 : (hk_nw h q0).2.2.2.length = h.2.2.2.length + 1 := by simp [hk_nw]
      rw [e2] at hg1
      refine va_newa (D := D) (tys := hk_tys cI cZ cR cJ hn) (atype := .int) (ty := .int) (a0 := (i.toNatClampNeg, .inl (fun _ => 0))) hx hb (hts _ TB.2.2.2.2.2.2.1.1) rfl hK hP hD hS hA (fun cA => by rw [vp_cell_i] <;> rfl) hlt.1 rfl (by have h9 : componentBytes (.int) ≤ 8 := (by decide); have h8 := Nat.mul_le_mul hlt.2 h9; omega) (by omega) (by omega) hdg (fun q5 cA H1 hK1 hP1 hD1 hS1 => ?_)
      have hcA : cA = cI := by
        have g1 := (hK1.2 4 (cA, .int) rfl).2
        have g2 := (hK.2 0 (cI, .int) rfl).2
        exact Option.some.inj ((show s.vm.findClass _ = some cA from g1).symm.trans g2)
      subst hcA
      refine hk_mkW r hq0 (hk_shne TB.2.2.2.1 hsh (by decide)) ?_ hN hP1 hD1 hS1 (hk_vot hsv).2 (hnx _ _ _ hr)
      have e9 : (hk_nw h q0).1 q0 = fun _ => 0 := by
        funext z
        simp [hk_nw, hk_z]
      rw [hk_ce2 hsh, e9]
    · obtain ⟨q0, hsh, hq0, hr⟩ := hk_mk_eq hrun
      have hg := hgr _ _ _ hr
      have hN : hk_sl SH cls (hk_nw h q0).2.2.2 = hk_sl SH cls h.2.2.2 + i.toNatClampNeg := by
        rw [hk_sl_nw, hsh]
        rfl
      have hg1 := hk_ge_len hg
      have hg2 := hk_ge_sl (SH := SH) (cls := cls) hg
      rw [hN] at hg2
      have e2 : (hk_nw h q0).2.2.2.length = h.2.2.2.length + 1 := by simp [hk_nw]
      rw [e2] at hg1
      refine va_newa (D := D) (tys := hk_tys cI cZ cR cJ hn) (atype := .boolean) (ty := .boolean) (a0 := (i.toNatClampNeg, .inl (fun _ => 0))) hx hb (hts _ TB.2.2.2.2.2.2.1.2.1) rfl hK hP hD hS hA (fun cA => by rw [vp_cell_i] <;> rfl) hlt.1 rfl (by have h9 : componentBytes (.boolean) ≤ 8 := (by decide); have h8 := Nat.mul_le_mul hlt.2 h9; omega) (by omega) (by omega) hdg (fun q5 cA H1 hK1 hP1 hD1 hS1 => ?_)
      have hcA : cA = cZ := by
        have g1 := (hK1.2 4 (cA, .boolean) rfl).2
        have g2 := (hK.2 1 (cZ, .boolean) rfl).2
        exact Option.some.inj ((show s.vm.findClass _ = some cA from g1).symm.trans g2)
      subst hcA
      refine hk_mkW r hq0 (hk_shne TB.2.2.2.1 hsh (by decide)) ?_ hN hP1 hD1 hS1 (hk_vot hsv).2 (hnx _ _ _ hr)
      have e9 : (hk_nw h q0).1 q0 = fun _ => 0 := by
        funext z
        simp [hk_nw, hk_z]
      rw [hk_ce3 hsh, e9]
    · obtain ⟨q0, hsh, hq0, hr⟩ := hk_mk_eq hrun
      have hg := hgr _ _ _ hr
      have hN : hk_sl SH cls (hk_nw h q0).2.2.2 = hk_sl SH cls h.2.2.2 + i.toNatClampNeg := by
        rw [hk_sl_nw, hsh]
        rfl
      have hg1 := hk_ge_len hg
      have hg2 := hk_ge_sl (SH := SH) (cls := cls) hg
      rw [hN] at hg2
      have e2 : (hk_nw h q0).2.2.2.length = h.2.2.2.length + 1 := by simp [hk_nw]
      rw [e2] at hg1
      refine va_newa (D := D) (tys := hk_tys cI cZ cR cJ hn) (atype := .long) (ty := .long) (a0 := (i.toNatClampNeg, .inr (.inl (fun _ => 0)))) hx hb (hts _ TB.2.2.2.2.2.2.1.2.2.1) rfl hK hP hD hS hA (fun cA => by rw [vp_cell_l] <;> rfl) hlt.1 rfl (by have h9 : componentBytes (.long) ≤ 8 := (by decide); have h8 := Nat.mul_le_mul hlt.2 h9; omega) (by omega) (by omega) hdg (fun q5 cA H1 hK1 hP1 hD1 hS1 => ?_)
      have hcA : cA = cJ := by
        have g1 := (hK1.2 4 (cA, .long) rfl).2
        have g2 := (hK.2 3 (cJ, .long) rfl).2
        exact Option.some.inj ((show s.vm.findClass _ = some cA from g1).symm.trans g2)
      subst hcA
      refine hk_mkW r hq0 (hk_shne TB.2.2.2.1 hsh (by decide)) ?_ hN hP1 hD1 hS1 (hk_vot hsv).2 (hnx _ _ _ hr)
      have e9 : (hk_nw h q0).2.1 q0 = fun _ => 0 := by
        funext z
        simp [hk_nw, hk_z]
      rw [hk_ce5 hsh, e9]
    · cases hrun
  · cases hrun

set_option maxHeartbeats 1000000 in
theorem hk_z_anewarray {ini : Bool} {rk : Nat} (FX : hk_Fx SH ch cls kd wl mt hn sc p l R s m args meth c D cI cZ cR cJ A H0 b0 mx dd own cc scr cl ini) {pc len a b c1 d : Nat} {v : Int32} {w : Int64} {sw : List (Int32 × Nat)} {i0 : Nat} (hdg : decode cc pc = .ok (.anewarray i0, len)) (hck : hk_iok cls kd wl mt hn own ini rk mx pc (.anewarray i0) len a b c1 d v w sw = true) {nxr : hk_L → List Value → hk_H → hk_O} {jmr : Nat → hk_L → List Value → hk_H → hk_O} {qf : Option Value × hk_H} (hnx : ∀ L st h, nxr L st h = some qf → hk_K SH cls kd sc D cI cZ cR cJ A H0 b0 ad0 al0 mx n0 s0 p l e R s m args below meth c Q (pc + len) L st h) (hjm : ∀ t L st h, jmr t L st h = some qf → hk_K SH cls kd sc D cI cZ cR cJ A H0 b0 ad0 al0 mx n0 s0 p l e R s m args below meth c Q t L st h) (hgr : ∀ L st h, nxr L st h = some qf → hk_ge h qf.2) (hR3 : qf.2.2.2.2.length - n0 ≤ R.cells ∧ hk_sl SH cls qf.2.2.2.2 - s0 ≤ R.slots) {L : hk_L} {st : List Value} {h : hk_H} (hrun : hk_stp SH pb big none nxr jmr (fun P d k => @ite _ P d k none) (fun P d k0 k1 => @ite _ P d k0 k1) (fun y a h k => (cl y a h).bind (fun q => k q.1 q.2)) (fun r h => some (r, h)) scr ch (.anewarray i0) a c1 d v w sw L st h = some qf) : hk_K SH cls kd sc D cI cZ cR cJ A H0 b0 ad0 al0 mx n0 s0 p l e R s m args below meth c Q pc L st h := by
  obtain ⟨TB, hx, hb, hml, hown, hts, hK, hA, hin, hX, hcl, hge, hR1, hR2, hAO⟩ := id FX
  intro ad H locs ls r
  obtain ⟨hP, hD, hS, hwf, hlv, hlen, hsv, hLv, hadb, hn0, hs0⟩ := id r
  unfold hk_G
  have go : ∀ {st' : List Value}, nxr L st' h = some qf → (∀ v ∈ st', hk_vo sc h.2.2.2 v) → hk_G SH cls p l e R s m args below meth c Q n0 s0 ad h H locs (pc + len) ls st' := fun h1 h2 => hnx _ _ _ h1 _ _ _ _ (r.stk h2)
  have gj : ∀ {t : Nat} {st' : List Value}, jmr t L st' h = some qf → (∀ v ∈ st', hk_vo sc h.2.2.2 v) → hk_G SH cls p l e R s m args below meth c Q n0 s0 ad h H locs t ls st' := fun h1 h2 => hjm _ _ _ _ h1 _ _ _ _ (r.stk h2)
  unfold hk_G at go gj
  simp only [hk_iok, Bool.and_eq_true, decide_eq_true_eq] at hck
  simp only [hk_stp] at hrun
  obtain ⟨rfl, hw⟩ := hck
  unfold hk_newq at hrun
  split at hrun
  · next i r0 =>
    dsimp only at hrun
    split at hrun
    case isFalse => cases hrun
    rename_i hlt
    obtain ⟨q0, hsh, hq0, hr⟩ := hk_mk_eq hrun
    have hg := hgr _ _ _ hr
    have hN : hk_sl SH cls (hk_nw h q0).2.2.2 = hk_sl SH cls h.2.2.2 + i.toNatClampNeg := by
      rw [hk_sl_nw, hsh]
      rfl
    have hg1 := hk_ge_len hg
    have hg2 := hk_ge_sl (SH := SH) (cls := cls) hg
    rw [hN] at hg2
    have e2 : (hk_nw h q0).2.2.2.length = h.2.2.2.length + 1 := by simp [hk_nw]
    rw [e2] at hg1
    refine va_newq (D := D) (tys := hk_tys cI cZ cR cJ hn) hx hb hown (hts _ (List.mem_of_getElem? hw)) hAO hK hP hD hS hA hlt.1 rfl (by omega) (by omega) (by omega) hdg (fun q5 cA H1 hK1 hP1 hD1 hS1 => ?_)
    have hcA : cA = cR := by
      obtain ⟨_, _, _, _, _, g1⟩ := (hK1.2 4 (cA, .object hn) rfl).2
      obtain ⟨_, _, _, _, _, g2⟩ := (hK.2 2 (cR, .object hn) rfl).2
      exact Option.some.inj (g1.symm.trans g2)
    subst hcA
    refine hk_mkW r hq0 (hk_shne TB.2.2.2.1 hsh (by decide)) ?_ hN hP1 hD1 hS1 (hk_vot hsv).2 (hnx _ _ _ hr)
    rw [hk_ce4 hsh]
    congr 7
    funext z
    simp [hk_nw, hk_z, hk_rf]
  · cases hrun

end HKJ4
end
section
/-! ===== calls and ends ===== -/
section HKJ5
variable {SH : Nat → hk_Sh} {pb big ch : Nat} {cls : List vw_C} {kd : Nat → Nat → Nat} {wl : List Jvm.Cond} {mt : Nat → Option hk_Q} {hn : String} {sc : Nat}
variable {p : Program} {l : Launch} {e : Env} {R : Room} {s : State} {m : MethodId} {args : Array Value} {below : List Frame} {meth : Method} {c : Code} {Q : State → Prop}
variable {D : va_G} {cI cZ cR cJ : ClassId} {A : Nat → Prop} {H0 : Heap} {b0 mx n0 s0 dd : Nat} {ad0 : Nat → Nat} {al0 : List Nat} {own : String} {cc : ByteArray} {scr : Option (Nat × (Nat → Int32))} {cl : Nat → List Value → hk_H → hk_O}
def hk_push (rr : Option Value) (r0 : List Value) : List Value := match rr with
  | none => r0
  | some v => v :: r0
/-- behind a call -/
theorem hk_backW {ini : Bool} (FX : hk_Fx SH ch cls kd wl mt hn sc p l R s m args meth c D cI cZ cR cJ A H0 b0 mx dd own cc scr cl ini) {ad : Nat → Nat} {h h2 : hk_H} {H : Heap} {locs : List Loc} {ls : Array Slot} {L : hk_L} {st r0 stv : List Value} {pc y : Nat} {a : List Value} {rr : Option Value} {q : hk_Q} {av : Array Value} (r : hk_R SH cls kd sc D cI cZ cR cJ A H0 b0 ad0 al0 mx n0 s0 ad h H locs ls L st) (hq : cl y a h = some (rr, h2)) (hmt : mt y = some q) (hva : ∀ v ∈ a, hk_vo sc h.2.2.2 v) (hr0 : ∀ v ∈ r0, hk_vo sc h.2.2.2 v)
    (hrn : va_Run p l e R s m args below meth c H locs (h.2.2.2.length - n0) (hk_sl SH cls h.2.2.2 - s0) (h2.2.2.2.length - h.2.2.2.length) (hk_sl SH cls h2.2.2.2 - hk_sl SH cls h.2.2.2) (F0 m pc ls stv) (r0.map (hk_tv ad)) (hk_Qc SH cls kd hn sc D cI cZ cR cJ ad H.size h h2 rr av) (va_A (hk_ws SH cls kd cI cZ cR cJ ad h) H.size))
    (kk : hk_K SH cls kd sc D cI cZ cR cJ A H0 b0 ad0 al0 mx n0 s0 p l e R s m args below meth c Q (pc + 3) L (hk_push rr r0) h2) :
    W p l e R s m args below meth c H locs (h.2.2.2.length - n0) (hk_sl SH cls h.2.2.2 - s0) Q (F0 m pc ls stv) := by
  obtain ⟨TB, hx, hb, hml, hown, hts, hK, hA, hin, hX, hcl, hge, hR1, hR2, hAO⟩ := id FX
  obtain ⟨hP, hD, hS, hwf, hlv, hlen, hsv, hLv, hadb, hn0, hs0⟩ := id r
  have hg : hk_ge h h2 := hge _ _ _ _ hq
  have hg1 := hk_ge_len hg
  have hg2 := hk_ge_sl (SH := SH) (cls := cls) hg
  have hA1 : ∀ z, va_A (hk_ws SH cls kd cI cZ cR cJ ad h) H.size z → A z := by
    rintro z (⟨k, e, he⟩ | hz)
    · exact hD.2 _ _ he
    · exact hA z (Nat.le_trans hS.1 hz)
  have go : ∀ (u : Nat → Nat) (t : State) (H1 : Heap) (locs1 : List Loc), t.heap = H1 → hk_ag sc ad u h.2.2.2 → hk_wf h2 → hk_B SH cls kd hn D cI cZ cR cJ h2 (va_A (hk_ws SH cls kd cI cZ cR cJ ad h) H.size) u t → va_S A H0 H1 locs1 → (∀ v ∈ (hk_push rr r0), hk_vo sc h2.2.2.2 v) → W p l e R s m args below meth c H1 locs1 (h.2.2.2.length - n0 + (h2.2.2.2.length - h.2.2.2.length)) (hk_sl SH cls h.2.2.2 - s0 + (hk_sl SH cls h2.2.2.2 - hk_sl SH cls h.2.2.2)) Q (F0 m (pc + 3) ls ((hk_push rr r0).map (hk_tv u))) := by
    intro u t H1 locs1 ht hu hwf2 hB hS1 hv
    obtain ⟨b1, b2, b3⟩ := hB
    rw [ht] at b1
    have g := kk u H1 locs1 ls ⟨b1, b3.weaken (fun _ z _ hz => hA1 _ hz), hS1, hwf2, by rw [hk_pl_congr hu hLv]; exact hlv, hlen, hv, fun v h1 => hk_vo_ge hg (hLv v h1), ⟨(hu sc (Or.inr rfl)).trans hadb.1, fun z hz => (hu z (hz.elim (fun h1 => Or.inl (hadb.2.2 z h1)) Or.inr)).trans (hadb.2.1 z hz), fun z hz => hk_mem_ge hg (hadb.2.2 z hz)⟩, Nat.le_trans hn0 hg1, Nat.le_trans hs0 hg2⟩
    unfold hk_G at g
    exact W.cs (by omega) (by omega) g
  have hno : (∀ x y z w, ¬ hk_Qc SH cls kd hn sc D cI cZ cR cJ ad H.size h h2 rr x y z w) → W p l e R s m args below meth c H locs (h.2.2.2.length - n0) (hk_sl SH cls h.2.2.2 - s0) Q (F0 m pc ls stv) := fun hf => by
    intro T hT X
    obtain ⟨v, st0, t, T', L', -, -, -, -, -, hqa, -⟩ := hrn T hT X
    exact absurd hqa (hf _ _ _ _)
  rcases rr with _ | v
  rotate_left
  cases v
  case float => exact hno fun _ _ _ _ h => h
  case double => exact hno fun _ _ _ _ h => h
  case null => exact hno fun _ _ _ _ h => h
  case ref => exact hno fun _ _ _ _ h => h
  case retAddr => exact hno fun _ _ _ _ h => h
  rotate_left
  rotate_left
  · refine va_callv (a := av) hrn hS (fun z _ h1 => hA1 z h1) hA1 (fun u t H1 locs1 ht hvm hw hB hz1 hk1 hS1 => ?_)
    have g := go u t H1 locs1 ht hw.1 hw.2 hB hS1 (fun v h1 => hk_vo_ge hg (hr0 v h1))
    unfold hk_push at g
    dsimp only at g
    rw [hk_map_congr hw.1 hr0] at g
    exact g
  · rename_i x
    refine va_calli (a := av) hrn hS (fun z _ h1 => hA1 z h1) hA1 (fun y u t H1 locs1 ht hvm hw hB hz1 hk1 hS1 => ?_)
    obtain ⟨rfl, hw⟩ := hw
    have g := go u t H1 locs1 ht hw.1 hw.2 hB hS1 (hk_voc trivial (fun v h1 => hk_vo_ge hg (hr0 v h1)))
    unfold hk_push at g
    dsimp only at g
    rw [List.map_cons, hk_map_congr hw.1 hr0] at g
    exact g
  · rename_i x
    refine va_calll (a := av) hrn hS (fun z _ h1 => hA1 z h1) hA1 (fun y u t H1 locs1 ht hvm hw hB hz1 hk1 hS1 => ?_)
    obtain ⟨rfl, hw⟩ := hw
    have g := go u t H1 locs1 ht hw.1 hw.2 hB hS1 (hk_voc trivial (fun v h1 => hk_vo_ge hg (hr0 v h1)))
    unfold hk_push at g
    dsimp only at g
    rw [List.map_cons, hk_map_congr hw.1 hr0] at g
    exact g
set_option maxRecDepth 100000 in
theorem hk_roomL {m d r : Nat} (h : m ≤ 40) (h2 : 64 * d + 1064 ≤ r) : 8 + (m + 11) + (64 * d + 1000) ≤ r := by omega
theorem hk_good {wl : List Jvm.Cond} (h : ∀ w ∈ wl, goodWord w = true) {ws : List Jvm.Cond} (hs : ∀ w ∈ ws, w ∈ wl) : GoodIn wl ws := fun w hw => ⟨hs w hw, good_of_word (h w (hs w hw))⟩
theorem hk_mw_in {q : hk_Q} (h : Jvm.Cond.code q.1 q.2.1 q.2.2.1 q.2.2.2.1 ∈ wl) : ∀ w ∈ hk_mw wl q, w ∈ wl := fun w hw => by
  rcases List.mem_cons.mp hw with rfl | h1
  · exact h
  · exact h1
theorem hk_inv_eq {nxr : hk_L → List Value → hk_H → hk_O} {a c d : Nat} {L : hk_L} {st : List Value} {h : hk_H} {qf : Option Value × hk_H} (he : hk_inv SH none nxr (fun y a h k => (cl y a h).bind (fun q => k q.1 q.2)) a c d L st h = some qf) : ∃ (av r0 : List Value) (rr : Option Value) (h2 : hk_H), st = av.reverse ++ r0 ∧ av.length = c ∧ hk_cat r0 ≤ 8 ∧ (∀ ci, d = ci + 1 → ∃ p0 As, av = .ref p0 :: As ∧ SH p0 = (1, ci)) ∧ cl a av h = some (rr, h2) ∧ nxr L (hk_push rr r0) h2 = some qf := by
  unfold hk_inv at he
  split at he
  · next hc =>
    simp only [Bool.and_eq_true] at hc
    obtain ⟨⟨h1, h2⟩, h3⟩ := hc
    have h1 := Nat.le_of_ble_eq_true h1
    have h2 := Nat.le_of_ble_eq_true h2
    cases hq : cl a (st.take c).reverse h with
    | none => dsimp only at he; rw [hq] at he; cases he
    | some x =>
      obtain ⟨rr, h2'⟩ := x
      dsimp only at he
      rw [hq] at he
      refine ⟨(st.take c).reverse, st.drop c, rr, h2', by rw [List.reverse_reverse, List.take_append_drop], by rw [List.length_reverse, List.length_take]; omega, h2, fun ci hd => ?_, hq, ?_⟩
      · subst hd
        simp only at h3
        split at h3
        · next p0 As hA => exact ⟨p0, As, hA, hk_is_eq h3⟩
        · cases h3
      · cases rr <;> exact he
  · cases he

set_option maxHeartbeats 1000000 in
theorem hk_z_invokevirtual {ini : Bool} {rk : Nat} (FX : hk_Fx SH ch cls kd wl mt hn sc p l R s m args meth c D cI cZ cR cJ A H0 b0 mx dd own cc scr cl ini) {pc len a b c1 d : Nat} {v : Int32} {w : Int64} {sw : List (Int32 × Nat)} {i : Nat} (hdg : decode cc pc = .ok (.invokevirtual i, len)) (hck : hk_iok cls kd wl mt hn own ini rk mx pc (.invokevirtual i) len a b c1 d v w sw = true) {nxr : hk_L → List Value → hk_H → hk_O} {jmr : Nat → hk_L → List Value → hk_H → hk_O} {qf : Option Value × hk_H} (hnx : ∀ L st h, nxr L st h = some qf → hk_K SH cls kd sc D cI cZ cR cJ A H0 b0 ad0 al0 mx n0 s0 p l e R s m args below meth c Q (pc + len) L st h) (hjm : ∀ t L st h, jmr t L st h = some qf → hk_K SH cls kd sc D cI cZ cR cJ A H0 b0 ad0 al0 mx n0 s0 p l e R s m args below meth c Q t L st h) (hgr : ∀ L st h, nxr L st h = some qf → hk_ge h qf.2) (hR3 : qf.2.2.2.2.length - n0 ≤ R.cells ∧ hk_sl SH cls qf.2.2.2.2 - s0 ≤ R.slots) {L : hk_L} {st : List Value} {h : hk_H} (hrun : hk_stp SH pb big none nxr jmr (fun P d k => @ite _ P d k none) (fun P d k0 k1 => @ite _ P d k0 k1) (fun y a h k => (cl y a h).bind (fun q => k q.1 q.2)) (fun r h => some (r, h)) scr ch (.invokevirtual i) a c1 d v w sw L st h = some qf) : hk_K SH cls kd sc D cI cZ cR cJ A H0 b0 ad0 al0 mx n0 s0 p l e R s m args below meth c Q pc L st h := by
  obtain ⟨TB, hx, hb, hml, hown, hts, hK, hA, hin, hX, hcl, hge, hR1, hR2, hAO⟩ := id FX
  intro ad H locs ls r
  obtain ⟨hP, hD, hS, hwf, hlv, hlen, hsv, hLv, hadb, hn0, hs0⟩ := id r
  unfold hk_G
  have go : ∀ {st' : List Value}, nxr L st' h = some qf → (∀ v ∈ st', hk_vo sc h.2.2.2 v) → hk_G SH cls p l e R s m args below meth c Q n0 s0 ad h H locs (pc + len) ls st' := fun h1 h2 => hnx _ _ _ h1 _ _ _ _ (r.stk h2)
  have gj : ∀ {t : Nat} {st' : List Value}, jmr t L st' h = some qf → (∀ v ∈ st', hk_vo sc h.2.2.2 v) → hk_G SH cls p l e R s m args below meth c Q n0 s0 ad h H locs t ls st' := fun h1 h2 => hjm _ _ _ _ h1 _ _ _ _ (r.stk h2)
  unfold hk_G at go gj
  simp only [hk_iok, Bool.and_eq_true, decide_eq_true_eq] at hck
  simp only [hk_stp] at hrun
  obtain ⟨hck, rfl⟩ := hck
  unfold hk_call1 at hrun
  split at hrun
  · cases hrun
  · simp only [hk_cok, Bool.and_eq_true, decide_eq_true_eq] at hck
    exact absurd hck.1 (by decide)
  · simp only [hk_cok, Bool.and_eq_true, decide_eq_true_eq] at hck
    exact absurd hck.1 (by decide)
  · next y =>
    obtain ⟨av, r0, rr, h2, hst, havl, hcat, hrecv, hq, hr⟩ := hk_inv_eq hrun
    simp only [hk_cok] at hck
    split at hck
    · cases hck
    next q hmt =>
    simp only [Bool.and_eq_true, Bool.or_eq_true, decide_eq_true_eq] at hck
    have hMo := TB.2.2.2.2.2.2.2.2.2 _ _ hmt
    obtain ⟨m1, m2, m3, m4, m5, m6, m7, m8, m9, m10, -, -, -⟩ := hMo
    have hva : ∀ v ∈ av, hk_vo sc h.2.2.2 v := fun v hv => hsv v (by rw [hst]; exact List.mem_append_left _ (List.mem_reverse.mpr hv))
    have hr0 : ∀ v ∈ r0, hk_vo sc h.2.2.2 v := fun v hv => hsv v (by rw [hst]; exact List.mem_append_right _ hv)
    obtain ⟨hal, hMet⟩ := hcl _ _ _ _ _ hq q hmt hwf hva
    have hM := hMet D cI cZ cR cJ ad H.size
    have hg : hk_ge h h2 := hge _ _ _ _ hq
    have hg1 := hk_ge_len hg
    have hg2 := hk_ge_sl (SH := SH) (cls := cls) hg
    have hgg := hgr _ _ _ hr
    have hg3 := hk_ge_len hgg
    have hg4 := hk_ge_sl (SH := SH) (cls := cls) hgg
    have hgw := TB.2.2.2.2.2.1
    have hroom : (hk_rm SH cls dd h h2).frames + 1 ≤ R.frames ∧ 8 + (q.2.2.1 + 11) + (hk_rm SH cls dd h h2).locals ≤ R.locals := ⟨hR1, hk_roomL m8 hR2⟩
    have hf : h.2.2.2.length - n0 + (h2.2.2.2.length - h.2.2.2.length) ≤ R.cells ∧ hk_sl SH cls h.2.2.2 - s0 + (hk_sl SH cls h2.2.2.2 - hk_sl SH cls h.2.2.2) ≤ R.slots := ⟨by omega, by omega⟩
    have hcat2 : ((r0.map (hk_tv ad)).map fun v => v.category).sum ≤ 8 := by rw [hk_cat_map]; exact hcat
    have hpre : ∀ U : State, U.heap = H → s.WarmedH U.vm → hk_Pc SH cls kd hn D cI cZ cR cJ ad H.size av h (av.map (hk_tv ad)).toArray U := fun U hU hW => ⟨rfl, by rw [hU], by rw [hU]; exact hP, va_K.moved hW.alike hK, hD.weaken (fun _ _ _ _ => trivial), va_AO.moved hW.alike hAO⟩
    obtain ⟨hc1, ⟨hw, hk0⟩, hd⟩ := hck
    split at hd
    · cases hd
    next ci =>
    split at hd
    · cases hd
    next rc hrc =>
    have hd := of_decide_eq_true hd
    obtain ⟨p0, As, rfl, hsh⟩ := hrecv ci rfl
    have hal2 := hk_aliv TB.2.2.2.1 (hva _ List.mem_cons_self) hsh (by decide)
    obtain ⟨k, hk1, hk2⟩ := hk_ws_at (SH := SH) (cls := cls) (kd := kd) (cI := cI) (cZ := cZ) (cR := cR) (cJ := cJ) (ad := ad) hal2
    rw [hk_ce1 hsh] at hk2
    obtain ⟨i1, i2, i3⟩ := m5 hk0
    have hstk : st.map (hk_tv ad) = (As.map (hk_tv ad)).reverse ++ .ref (ad p0) :: r0.map (hk_tv ad) := by
      rw [hst]
      simp [hk_tv]
    rw [hstk]
    have hG : GoodIn wl (wsV own i rc.1 q.1 (hk_mw wl q)) := hk_good hgw fun w hw1 => by
      unfold wsV at hw1
      rcases List.mem_append.mp hw1 with h1 | h1
      · simp only [List.mem_cons, List.not_mem_nil, or_false] at h1
        rcases h1 with rfl | rfl | rfl | rfl
        · exact List.mem_of_getElem? hw
        · exact i1
        · rw [hd]; exact i2
        · rw [hd]; exact m4
      · exact hk_mw_in m3 w h1
    have hlenA : As.length = q.2.2.2.2.1.1 - 1 := by
      have := havl
      simp at this
      omega
    have hm9 : (parseMethodDescriptor q.1.desc).map (fun d => d.parameters.length) = some (q.2.2.2.2.1.1 - 1) := by
      rw [m9, hk0]
      rfl
    exact hk_backW FX r hq hmt hva hr0 (va_runV (As := As.map (hk_tv ad)) (rest := r0.map (hk_tv ad)) ⟨hx, hb, hml, hown, hts⟩ hM (cwV (q.2.2.2.2.1.1 - 1) hts hG rfl rfl rfl ⟨hd.symm, m2.1, m2.2, hm9⟩ hroom) ⟨hk_Pc_blind, va_recv hK hP hrc hk2, hpre⟩ rfl (by rw [List.length_map]; exact hlenA) hlv.1 rfl (lv_room hcat2) hdg hf) (hnx _ _ _ hr)

set_option maxHeartbeats 1000000 in
theorem hk_z_invokespecial {ini : Bool} {rk : Nat} (FX : hk_Fx SH ch cls kd wl mt hn sc p l R s m args meth c D cI cZ cR cJ A H0 b0 mx dd own cc scr cl ini) {pc len a b c1 d : Nat} {v : Int32} {w : Int64} {sw : List (Int32 × Nat)} {i : Nat} (hdg : decode cc pc = .ok (.invokespecial i, len)) (hck : hk_iok cls kd wl mt hn own ini rk mx pc (.invokespecial i) len a b c1 d v w sw = true) {nxr : hk_L → List Value → hk_H → hk_O} {jmr : Nat → hk_L → List Value → hk_H → hk_O} {qf : Option Value × hk_H} (hnx : ∀ L st h, nxr L st h = some qf → hk_K SH cls kd sc D cI cZ cR cJ A H0 b0 ad0 al0 mx n0 s0 p l e R s m args below meth c Q (pc + len) L st h) (hjm : ∀ t L st h, jmr t L st h = some qf → hk_K SH cls kd sc D cI cZ cR cJ A H0 b0 ad0 al0 mx n0 s0 p l e R s m args below meth c Q t L st h) (hgr : ∀ L st h, nxr L st h = some qf → hk_ge h qf.2) (hR3 : qf.2.2.2.2.length - n0 ≤ R.cells ∧ hk_sl SH cls qf.2.2.2.2 - s0 ≤ R.slots) {L : hk_L} {st : List Value} {h : hk_H} (hrun : hk_stp SH pb big none nxr jmr (fun P d k => @ite _ P d k none) (fun P d k0 k1 => @ite _ P d k0 k1) (fun y a h k => (cl y a h).bind (fun q => k q.1 q.2)) (fun r h => some (r, h)) scr ch (.invokespecial i) a c1 d v w sw L st h = some qf) : hk_K SH cls kd sc D cI cZ cR cJ A H0 b0 ad0 al0 mx n0 s0 p l e R s m args below meth c Q pc L st h := by
  obtain ⟨TB, hx, hb, hml, hown, hts, hK, hA, hin, hX, hcl, hge, hR1, hR2, hAO⟩ := id FX
  intro ad H locs ls r
  obtain ⟨hP, hD, hS, hwf, hlv, hlen, hsv, hLv, hadb, hn0, hs0⟩ := id r
  unfold hk_G
  have go : ∀ {st' : List Value}, nxr L st' h = some qf → (∀ v ∈ st', hk_vo sc h.2.2.2 v) → hk_G SH cls p l e R s m args below meth c Q n0 s0 ad h H locs (pc + len) ls st' := fun h1 h2 => hnx _ _ _ h1 _ _ _ _ (r.stk h2)
  have gj : ∀ {t : Nat} {st' : List Value}, jmr t L st' h = some qf → (∀ v ∈ st', hk_vo sc h.2.2.2 v) → hk_G SH cls p l e R s m args below meth c Q n0 s0 ad h H locs t ls st' := fun h1 h2 => hjm _ _ _ _ h1 _ _ _ _ (r.stk h2)
  unfold hk_G at go gj
  simp only [hk_iok, Bool.and_eq_true, decide_eq_true_eq] at hck
  simp only [hk_stp] at hrun
  obtain ⟨hck, rfl⟩ := hck
  unfold hk_call1 at hrun
  split at hrun
  · cases hrun
  · split at hrun
    · next q0 r0 =>
      split at hrun
      · next hcat =>
        simp only [hk_cok, Bool.and_eq_true, decide_eq_true_eq] at hck
        have hcat := Nat.le_of_ble_eq_true hcat
        have hcat2 : ((r0.map (hk_tv ad)).map fun v => v.category).sum ≤ 8 := by rw [hk_cat_map]; exact hcat
        refine W.objInit hx hb hown (hts _ (List.mem_of_getElem? hck.2)) (hts _ TB.2.2.2.2.2.2.2.1.1) (hts _ TB.2.2.2.2.2.2.2.1.2) (a := ad q0) (rest := r0.map (hk_tv ad)) rfl (by show ls.size = _; rw [hml]; exact hlv.1) rfl hdg (by omega) ?_ (go hrun (hk_vot hsv).2)
        show 2 * 0 + _ + 12 ≤ R.locals
        omega
      · cases hrun
    · cases hrun
  · simp only [hk_cok, Bool.and_eq_true, decide_eq_true_eq] at hck
    exact absurd hck.1 (by decide)
  · next y =>
    obtain ⟨av, r0, rr, h2, hst, havl, hcat, hrecv, hq, hr⟩ := hk_inv_eq hrun
    simp only [hk_cok] at hck
    split at hck
    · cases hck
    next q hmt =>
    simp only [Bool.and_eq_true, Bool.or_eq_true, decide_eq_true_eq] at hck
    have hMo := TB.2.2.2.2.2.2.2.2.2 _ _ hmt
    obtain ⟨m1, m2, m3, m4, m5, m6, m7, m8, m9, m10, -, -, -⟩ := hMo
    have hva : ∀ v ∈ av, hk_vo sc h.2.2.2 v := fun v hv => hsv v (by rw [hst]; exact List.mem_append_left _ (List.mem_reverse.mpr hv))
    have hr0 : ∀ v ∈ r0, hk_vo sc h.2.2.2 v := fun v hv => hsv v (by rw [hst]; exact List.mem_append_right _ hv)
    obtain ⟨hal, hMet⟩ := hcl _ _ _ _ _ hq q hmt hwf hva
    have hM := hMet D cI cZ cR cJ ad H.size
    have hg : hk_ge h h2 := hge _ _ _ _ hq
    have hg1 := hk_ge_len hg
    have hg2 := hk_ge_sl (SH := SH) (cls := cls) hg
    have hgg := hgr _ _ _ hr
    have hg3 := hk_ge_len hgg
    have hg4 := hk_ge_sl (SH := SH) (cls := cls) hgg
    have hgw := TB.2.2.2.2.2.1
    have hroom : (hk_rm SH cls dd h h2).frames + 1 ≤ R.frames ∧ 8 + (q.2.2.1 + 11) + (hk_rm SH cls dd h h2).locals ≤ R.locals := ⟨hR1, hk_roomL m8 hR2⟩
    have hf : h.2.2.2.length - n0 + (h2.2.2.2.length - h.2.2.2.length) ≤ R.cells ∧ hk_sl SH cls h.2.2.2 - s0 + (hk_sl SH cls h2.2.2.2 - hk_sl SH cls h.2.2.2) ≤ R.slots := ⟨by omega, by omega⟩
    have hcat2 : ((r0.map (hk_tv ad)).map fun v => v.category).sum ≤ 8 := by rw [hk_cat_map]; exact hcat
    have hpre : ∀ U : State, U.heap = H → s.WarmedH U.vm → hk_Pc SH cls kd hn D cI cZ cR cJ ad H.size av h (av.map (hk_tv ad)).toArray U := fun U hU hW => ⟨rfl, by rw [hU], by rw [hU]; exact hP, va_K.moved hW.alike hK, hD.weaken (fun _ _ _ _ => trivial), va_AO.moved hW.alike hAO⟩
    obtain ⟨hc1, ⟨⟨hw, hk0⟩, hd1⟩, hd0⟩ := hck
    obtain ⟨ci, rfl⟩ : ∃ ci, d = ci + 1 := ⟨d - 1, by omega⟩
    obtain ⟨p0, As, rfl, hsh⟩ := hrecv ci rfl
    obtain ⟨i1, i2, i3, i4⟩ := m6 hk0
    have hstk : st.map (hk_tv ad) = (As.map (hk_tv ad)).reverse ++ .ref (ad p0) :: r0.map (hk_tv ad) := by
      rw [hst]
      simp [hk_tv]
    rw [hstk]
    have hlenA : As.length = q.2.2.2.2.1.1 - 1 := by
      have := havl
      simp at this
      omega
    have hm9 : (parseMethodDescriptor q.1.desc).map (fun d => d.parameters.length) = some (q.2.2.2.2.1.1 - 1) := by
      rw [m9, hk0]
      rfl
    have hMW : hk_mw wl q = Cond.code q.1 q.2.1 q.2.2.1 none :: wl := by unfold hk_mw; rw [i3]
    exact hk_backW FX r hq hmt hva hr0 (va_runI (As := As.map (hk_tv ad)) (rest := r0.map (hk_tv ad)) ⟨hx, hb, hml, hown, hts⟩ hM (cwI (q.2.2.2.2.1.1 - 1) hts (hk_good hgw (hk_mw_in m3)) hMW rfl rfl (hts _ m4) (hts _ (List.mem_of_getElem? hw)) (hts _ i2) i1 ⟨m2.1, m2.2, hm9⟩ hroom) ⟨hk_Pc_blind, hpre⟩ rfl (by rw [List.length_map]; exact hlenA) hlv.1 rfl (lv_room hcat2) hdg hf) (hnx _ _ _ hr)

set_option maxHeartbeats 1000000 in
theorem hk_z_invokestatic {ini : Bool} {rk : Nat} (FX : hk_Fx SH ch cls kd wl mt hn sc p l R s m args meth c D cI cZ cR cJ A H0 b0 mx dd own cc scr cl ini) {pc len a b c1 d : Nat} {v : Int32} {w : Int64} {sw : List (Int32 × Nat)} {i : Nat} (hdg : decode cc pc = .ok (.invokestatic i, len)) (hck : hk_iok cls kd wl mt hn own ini rk mx pc (.invokestatic i) len a b c1 d v w sw = true) {nxr : hk_L → List Value → hk_H → hk_O} {jmr : Nat → hk_L → List Value → hk_H → hk_O} {qf : Option Value × hk_H} (hnx : ∀ L st h, nxr L st h = some qf → hk_K SH cls kd sc D cI cZ cR cJ A H0 b0 ad0 al0 mx n0 s0 p l e R s m args below meth c Q (pc + len) L st h) (hjm : ∀ t L st h, jmr t L st h = some qf → hk_K SH cls kd sc D cI cZ cR cJ A H0 b0 ad0 al0 mx n0 s0 p l e R s m args below meth c Q t L st h) (hgr : ∀ L st h, nxr L st h = some qf → hk_ge h qf.2) (hR3 : qf.2.2.2.2.length - n0 ≤ R.cells ∧ hk_sl SH cls qf.2.2.2.2 - s0 ≤ R.slots) {L : hk_L} {st : List Value} {h : hk_H} (hrun : hk_stp SH pb big none nxr jmr (fun P d k => @ite _ P d k none) (fun P d k0 k1 => @ite _ P d k0 k1) (fun y a h k => (cl y a h).bind (fun q => k q.1 q.2)) (fun r h => some (r, h)) scr ch (.invokestatic i) a c1 d v w sw L st h = some qf) : hk_K SH cls kd sc D cI cZ cR cJ A H0 b0 ad0 al0 mx n0 s0 p l e R s m args below meth c Q pc L st h := by
  obtain ⟨TB, hx, hb, hml, hown, hts, hK, hA, hin, hX, hcl, hge, hR1, hR2, hAO⟩ := id FX
  intro ad H locs ls r
  obtain ⟨hP, hD, hS, hwf, hlv, hlen, hsv, hLv, hadb, hn0, hs0⟩ := id r
  unfold hk_G
  have go : ∀ {st' : List Value}, nxr L st' h = some qf → (∀ v ∈ st', hk_vo sc h.2.2.2 v) → hk_G SH cls p l e R s m args below meth c Q n0 s0 ad h H locs (pc + len) ls st' := fun h1 h2 => hnx _ _ _ h1 _ _ _ _ (r.stk h2)
  have gj : ∀ {t : Nat} {st' : List Value}, jmr t L st' h = some qf → (∀ v ∈ st', hk_vo sc h.2.2.2 v) → hk_G SH cls p l e R s m args below meth c Q n0 s0 ad h H locs t ls st' := fun h1 h2 => hjm _ _ _ _ h1 _ _ _ _ (r.stk h2)
  unfold hk_G at go gj
  simp only [hk_iok, Bool.and_eq_true, decide_eq_true_eq] at hck
  simp only [hk_stp] at hrun
  obtain ⟨hck, rfl⟩ := hck
  unfold hk_call1 at hrun
  split at hrun
  · cases hrun
  · simp only [hk_cok, Bool.and_eq_true, decide_eq_true_eq] at hck
    exact absurd hck.1 (by decide)
  · unfold hk_acp at hrun
    split at hrun
    · next n dp q1 sp q0 r0 =>
      split at hrun
      · next n0' n1' hsh0 hsh1 =>
        split at hrun
        · next hcat =>
          dsimp only at hrun
          split at hrun
          · next hcond =>
            obtain ⟨g1, g2, g3, g4, g5⟩ := hcond
            obtain ⟨w1, w2, v3⟩ := hk_vo2 hsv
            obtain ⟨w4, w5, v6⟩ := hk_vo2 v3
            obtain ⟨w7, w8⟩ := hk_vot v6
            have hal0 := hk_aliv TB.2.2.2.1 w7 hsh0 (by decide)
            have hal1 := hk_aliv TB.2.2.2.1 w4 hsh1 (by decide)
            obtain ⟨k0, ha1, ha2⟩ := hk_ws_at (SH := SH) (cls := cls) (kd := kd) (cI := cI) (cZ := cZ) (cR := cR) (cJ := cJ) (ad := ad) hal0
            obtain ⟨k1, hb1, hb2⟩ := hk_ws_at (SH := SH) (cls := cls) (kd := kd) (cI := cI) (cZ := cZ) (cR := cR) (cJ := cJ) (ad := ad) hal1
            rw [hk_ce2 hsh0] at ha2
            rw [hk_ce2 hsh1] at hb2
            simp only [hk_cok, Bool.and_eq_true, decide_eq_true_eq] at hck
            have hcat := Nat.le_of_ble_eq_true hcat
            have hcat2 : ((r0.map (hk_tv ad)).map fun v => v.category).sum ≤ 8 := by rw [hk_cat_map]; exact hcat
            have hnfw : nativeFrameWords "java/lang/System" "arraycopy" 5 ≤ 900 := by decide +kernel
            exact va_copyi (D := D) (tys := hk_tys cI cZ cR cJ hn) hx hb (by rw [hml]; exact hlv.1.symm) hown (hts _ (List.mem_of_getElem? hck.2)) (hts _ TB.2.2.2.2.2.2.2.2.1.1) (hts _ TB.2.2.2.2.2.2.2.2.1.2.1) (hts _ TB.2.2.2.2.2.2.2.2.1.2.2) hK hP hD hS k0 k1 0 0 ha2 hb2 rfl rfl rfl g1 g2 g3 g4 g5 (fun _ _ => rfl) (by omega) (by omega) hdg (fun H1 locs1 hP1 hD1 hS1 => hnx _ _ _ hrun _ _ _ _ (r.wr (h' := (hk_cp h.1 q0 q1 sp.toNatClampNeg dp.toNatClampNeg n.toNatClampNeg, h.2)) hb1 (by rw [hk_ce2 hsh1]; simp [hk_cp]) rfl (fun z hz => ⟨by simp [hk_cp, hz], rfl, rfl⟩) hwf hP1 hD1 hS1 w8))
          · cases hrun
        · cases hrun
      · cases hrun
    · cases hrun
  · next y =>
    obtain ⟨av, r0, rr, h2, hst, havl, hcat, hrecv, hq, hr⟩ := hk_inv_eq hrun
    simp only [hk_cok] at hck
    split at hck
    · cases hck
    next q hmt =>
    simp only [Bool.and_eq_true, Bool.or_eq_true, decide_eq_true_eq] at hck
    have hMo := TB.2.2.2.2.2.2.2.2.2 _ _ hmt
    obtain ⟨m1, m2, m3, m4, m5, m6, m7, m8, m9, m10, -, -, -⟩ := hMo
    have hva : ∀ v ∈ av, hk_vo sc h.2.2.2 v := fun v hv => hsv v (by rw [hst]; exact List.mem_append_left _ (List.mem_reverse.mpr hv))
    have hr0 : ∀ v ∈ r0, hk_vo sc h.2.2.2 v := fun v hv => hsv v (by rw [hst]; exact List.mem_append_right _ hv)
    obtain ⟨hal, hMet⟩ := hcl _ _ _ _ _ hq q hmt hwf hva
    have hM := hMet D cI cZ cR cJ ad H.size
    have hg : hk_ge h h2 := hge _ _ _ _ hq
    have hg1 := hk_ge_len hg
    have hg2 := hk_ge_sl (SH := SH) (cls := cls) hg
    have hgg := hgr _ _ _ hr
    have hg3 := hk_ge_len hgg
    have hg4 := hk_ge_sl (SH := SH) (cls := cls) hgg
    have hgw := TB.2.2.2.2.2.1
    have hroom : (hk_rm SH cls dd h h2).frames + 1 ≤ R.frames ∧ 8 + (q.2.2.1 + 11) + (hk_rm SH cls dd h h2).locals ≤ R.locals := ⟨hR1, hk_roomL m8 hR2⟩
    have hf : h.2.2.2.length - n0 + (h2.2.2.2.length - h.2.2.2.length) ≤ R.cells ∧ hk_sl SH cls h.2.2.2 - s0 + (hk_sl SH cls h2.2.2.2 - hk_sl SH cls h.2.2.2) ≤ R.slots := ⟨by omega, by omega⟩
    have hcat2 : ((r0.map (hk_tv ad)).map fun v => v.category).sum ≤ 8 := by rw [hk_cat_map]; exact hcat
    have hpre : ∀ U : State, U.heap = H → s.WarmedH U.vm → hk_Pc SH cls kd hn D cI cZ cR cJ ad H.size av h (av.map (hk_tv ad)).toArray U := fun U hU hW => ⟨rfl, by rw [hU], by rw [hU]; exact hP, va_K.moved hW.alike hK, hD.weaken (fun _ _ _ _ => trivial), va_AO.moved hW.alike hAO⟩
    obtain ⟨hc1, ⟨hd0, hk0⟩, hlk⟩ := hck
    have hstk : st.map (hk_tv ad) = (av.map (hk_tv ad)).reverse ++ r0.map (hk_tv ad) := by
      rw [hst]
      simp
    rw [hstk]
    have i1 := m7 hk0
    have hm9 : (parseMethodDescriptor q.1.desc).map (fun d => d.parameters.length) = some q.2.2.2.2.1.1 := by
      rw [m9, hk0]
      rfl
    rcases hlk with hw | hw
    · have hG : GoodIn wl (va_wsS own i q.1 (hk_mw wl q)) := hk_good hgw fun w hw1 => by
        unfold va_wsS at hw1
        rcases List.mem_append.mp hw1 with h1 | h1
        · simp only [List.mem_cons, List.not_mem_nil, or_false] at h1
          rcases h1 with rfl | rfl | rfl
          · exact List.mem_of_getElem? hw
          · exact i1
          · exact m4
        · exact hk_mw_in m3 w h1
      exact hk_backW FX r hq hmt hva hr0 (va_runS (As := av.map (hk_tv ad)) (rest := r0.map (hk_tv ad)) ⟨hx, hb, hml, hown, hts⟩ hM (va_cwS q.2.2.2.2.1.1 hts hG rfl rfl rfl ⟨m2.1, m2.2, hm9⟩ hroom) ⟨hk_Pc_blind, hpre⟩ rfl (by rw [List.length_map]; exact hal) hlv.1 rfl (lv_room hcat2) hdg hf) (hnx _ _ _ hr)
    · exact hk_backW FX r hq hmt hva hr0 (va_runSN (As := av.map (hk_tv ad)) (rest := r0.map (hk_tv ad)) ⟨hx, hb, hml, hown, hts⟩ hM ⟨va_cnB q.2.2.2.2.1.1 hts (hk_good hgw (hk_mw_in m3)) rfl rfl rfl (va_Nw.of rfl (hts _ (List.mem_of_getElem? hw))) (hts _ m4) ⟨m2.1, m2.2, hm9⟩ hroom, hts _ i1, trivial⟩ ⟨hk_Pc_blind, hpre⟩ rfl (by rw [List.length_map]; exact hal) hlv.1 rfl (lv_room hcat2) hdg hf) (hnx _ _ _ hr)

/-- an end: what stands on the stack, and the instruction -/
def hk_End (cc : ByteArray) (rk pc : Nat) (rr : Option Value) (st : List Value) : Prop :=
  (∃ x, rr = some (.int x) ∧ st = [.int x] ∧ decode cc pc = .ok (.ireturn, 1) ∧ (rk = 1 ∨ rk = 2 ∧ (x = 0 ∨ x = 1))) ∨ (∃ x, rr = some (.long x) ∧ st = [.long x] ∧ decode cc pc = .ok (.lreturn, 1) ∧ rk = 3) ∨ (rr = none ∧ st = [] ∧ decode cc pc = .ok (.return_, 1) ∧ rk = 0)

set_option maxHeartbeats 1000000 in
theorem hk_z_ireturn {ini : Bool} {rk : Nat} (FX : hk_Fx SH ch cls kd wl mt hn sc p l R s m args meth c D cI cZ cR cJ A H0 b0 mx dd own cc scr cl ini) {pc len a b c1 d : Nat} {v : Int32} {w : Int64} {sw : List (Int32 × Nat)}  (hdg : decode cc pc = .ok (.ireturn, len)) (hck : hk_iok cls kd wl mt hn own ini rk mx pc (.ireturn) len a b c1 d v w sw = true) {nxr : hk_L → List Value → hk_H → hk_O} {jmr : Nat → hk_L → List Value → hk_H → hk_O} {qf : Option Value × hk_H} (hnx : ∀ L st h, nxr L st h = some qf → hk_K SH cls kd sc D cI cZ cR cJ A H0 b0 ad0 al0 mx n0 s0 p l e R s m args below meth c Q (pc + len) L st h) (hjm : ∀ t L st h, jmr t L st h = some qf → hk_K SH cls kd sc D cI cZ cR cJ A H0 b0 ad0 al0 mx n0 s0 p l e R s m args below meth c Q t L st h) (hend : ∀ pc L st h rr, qf = (rr, h) → hk_End cc rk pc rr st → hk_K SH cls kd sc D cI cZ cR cJ A H0 b0 ad0 al0 mx n0 s0 p l e R s m args below meth c Q pc L st h) {L : hk_L} {st : List Value} {h : hk_H} (hrun : hk_stp SH pb big none nxr jmr (fun P d k => @ite _ P d k none) (fun P d k0 k1 => @ite _ P d k0 k1) (fun y a h k => (cl y a h).bind (fun q => k q.1 q.2)) (fun r h => some (r, h)) scr ch (.ireturn) a c1 d v w sw L st h = some qf) : hk_K SH cls kd sc D cI cZ cR cJ A H0 b0 ad0 al0 mx n0 s0 p l e R s m args below meth c Q pc L st h := by
  obtain ⟨TB, hx, hb, hml, hown, hts, hK, hA, hin, hX, hcl, hge, hR1, hR2, hAO⟩ := id FX
  intro ad H locs ls r
  obtain ⟨hP, hD, hS, hwf, hlv, hlen, hsv, hLv, hadb, hn0, hs0⟩ := id r
  unfold hk_G
  have go : ∀ {st' : List Value}, nxr L st' h = some qf → (∀ v ∈ st', hk_vo sc h.2.2.2 v) → hk_G SH cls p l e R s m args below meth c Q n0 s0 ad h H locs (pc + len) ls st' := fun h1 h2 => hnx _ _ _ h1 _ _ _ _ (r.stk h2)
  have gj : ∀ {t : Nat} {st' : List Value}, jmr t L st' h = some qf → (∀ v ∈ st', hk_vo sc h.2.2.2 v) → hk_G SH cls p l e R s m args below meth c Q n0 s0 ad h H locs t ls st' := fun h1 h2 => hjm _ _ _ _ h1 _ _ _ _ (r.stk h2)
  unfold hk_G at go gj
  simp only [hk_iok, Bool.and_eq_true, decide_eq_true_eq] at hck
  simp only [hk_stp] at hrun
  obtain ⟨rfl, hrk⟩ := hck
  split at hrun
  · next x =>
    split at hrun
    · next hdd =>
      have hrk : rk = 1 := by
        rcases hrk with h1 | ⟨-, h1⟩
        · exact h1
        · cases h1
      exact hend _ _ _ _ _ (Option.some.inj hrun).symm (Or.inl ⟨x, rfl, rfl, hdg, Or.inl hrk⟩) _ _ _ _ r
    · split at hrun
      · next hx01 =>
        refine hend _ _ _ _ _ (Option.some.inj hrun).symm (Or.inl ⟨x, rfl, rfl, hdg, ?_⟩) _ _ _ _ r
        rcases hrk with h1 | ⟨h1, -⟩
        · exact Or.inl h1
        · exact Or.inr ⟨h1, hx01⟩
      · cases hrun
  · cases hrun

set_option maxHeartbeats 1000000 in
theorem hk_z_lreturn {ini : Bool} {rk : Nat} (FX : hk_Fx SH ch cls kd wl mt hn sc p l R s m args meth c D cI cZ cR cJ A H0 b0 mx dd own cc scr cl ini) {pc len a b c1 d : Nat} {v : Int32} {w : Int64} {sw : List (Int32 × Nat)}  (hdg : decode cc pc = .ok (.lreturn, len)) (hck : hk_iok cls kd wl mt hn own ini rk mx pc (.lreturn) len a b c1 d v w sw = true) {nxr : hk_L → List Value → hk_H → hk_O} {jmr : Nat → hk_L → List Value → hk_H → hk_O} {qf : Option Value × hk_H} (hnx : ∀ L st h, nxr L st h = some qf → hk_K SH cls kd sc D cI cZ cR cJ A H0 b0 ad0 al0 mx n0 s0 p l e R s m args below meth c Q (pc + len) L st h) (hjm : ∀ t L st h, jmr t L st h = some qf → hk_K SH cls kd sc D cI cZ cR cJ A H0 b0 ad0 al0 mx n0 s0 p l e R s m args below meth c Q t L st h) (hend : ∀ pc L st h rr, qf = (rr, h) → hk_End cc rk pc rr st → hk_K SH cls kd sc D cI cZ cR cJ A H0 b0 ad0 al0 mx n0 s0 p l e R s m args below meth c Q pc L st h) {L : hk_L} {st : List Value} {h : hk_H} (hrun : hk_stp SH pb big none nxr jmr (fun P d k => @ite _ P d k none) (fun P d k0 k1 => @ite _ P d k0 k1) (fun y a h k => (cl y a h).bind (fun q => k q.1 q.2)) (fun r h => some (r, h)) scr ch (.lreturn) a c1 d v w sw L st h = some qf) : hk_K SH cls kd sc D cI cZ cR cJ A H0 b0 ad0 al0 mx n0 s0 p l e R s m args below meth c Q pc L st h := by
  obtain ⟨TB, hx, hb, hml, hown, hts, hK, hA, hin, hX, hcl, hge, hR1, hR2, hAO⟩ := id FX
  intro ad H locs ls r
  obtain ⟨hP, hD, hS, hwf, hlv, hlen, hsv, hLv, hadb, hn0, hs0⟩ := id r
  unfold hk_G
  have go : ∀ {st' : List Value}, nxr L st' h = some qf → (∀ v ∈ st', hk_vo sc h.2.2.2 v) → hk_G SH cls p l e R s m args below meth c Q n0 s0 ad h H locs (pc + len) ls st' := fun h1 h2 => hnx _ _ _ h1 _ _ _ _ (r.stk h2)
  have gj : ∀ {t : Nat} {st' : List Value}, jmr t L st' h = some qf → (∀ v ∈ st', hk_vo sc h.2.2.2 v) → hk_G SH cls p l e R s m args below meth c Q n0 s0 ad h H locs t ls st' := fun h1 h2 => hjm _ _ _ _ h1 _ _ _ _ (r.stk h2)
  unfold hk_G at go gj
  simp only [hk_iok, Bool.and_eq_true, decide_eq_true_eq] at hck
  simp only [hk_stp] at hrun
  obtain ⟨rfl, hrk⟩ := hck
  split at hrun
  · next x => exact hend _ _ _ _ _ (Option.some.inj hrun).symm (Or.inr (Or.inl ⟨x, rfl, rfl, hdg, hrk⟩)) _ _ _ _ r
  · cases hrun

set_option maxHeartbeats 1000000 in
theorem hk_z_return {ini : Bool} {rk : Nat} (FX : hk_Fx SH ch cls kd wl mt hn sc p l R s m args meth c D cI cZ cR cJ A H0 b0 mx dd own cc scr cl ini) {pc len a b c1 d : Nat} {v : Int32} {w : Int64} {sw : List (Int32 × Nat)}  (hdg : decode cc pc = .ok (.return_, len)) (hck : hk_iok cls kd wl mt hn own ini rk mx pc (.return_) len a b c1 d v w sw = true) {nxr : hk_L → List Value → hk_H → hk_O} {jmr : Nat → hk_L → List Value → hk_H → hk_O} {qf : Option Value × hk_H} (hnx : ∀ L st h, nxr L st h = some qf → hk_K SH cls kd sc D cI cZ cR cJ A H0 b0 ad0 al0 mx n0 s0 p l e R s m args below meth c Q (pc + len) L st h) (hjm : ∀ t L st h, jmr t L st h = some qf → hk_K SH cls kd sc D cI cZ cR cJ A H0 b0 ad0 al0 mx n0 s0 p l e R s m args below meth c Q t L st h) (hend : ∀ pc L st h rr, qf = (rr, h) → hk_End cc rk pc rr st → hk_K SH cls kd sc D cI cZ cR cJ A H0 b0 ad0 al0 mx n0 s0 p l e R s m args below meth c Q pc L st h) {L : hk_L} {st : List Value} {h : hk_H} (hrun : hk_stp SH pb big none nxr jmr (fun P d k => @ite _ P d k none) (fun P d k0 k1 => @ite _ P d k0 k1) (fun y a h k => (cl y a h).bind (fun q => k q.1 q.2)) (fun r h => some (r, h)) scr ch (.return_) a c1 d v w sw L st h = some qf) : hk_K SH cls kd sc D cI cZ cR cJ A H0 b0 ad0 al0 mx n0 s0 p l e R s m args below meth c Q pc L st h := by
  obtain ⟨TB, hx, hb, hml, hown, hts, hK, hA, hin, hX, hcl, hge, hR1, hR2, hAO⟩ := id FX
  intro ad H locs ls r
  obtain ⟨hP, hD, hS, hwf, hlv, hlen, hsv, hLv, hadb, hn0, hs0⟩ := id r
  unfold hk_G
  have go : ∀ {st' : List Value}, nxr L st' h = some qf → (∀ v ∈ st', hk_vo sc h.2.2.2 v) → hk_G SH cls p l e R s m args below meth c Q n0 s0 ad h H locs (pc + len) ls st' := fun h1 h2 => hnx _ _ _ h1 _ _ _ _ (r.stk h2)
  have gj : ∀ {t : Nat} {st' : List Value}, jmr t L st' h = some qf → (∀ v ∈ st', hk_vo sc h.2.2.2 v) → hk_G SH cls p l e R s m args below meth c Q n0 s0 ad h H locs t ls st' := fun h1 h2 => hjm _ _ _ _ h1 _ _ _ _ (r.stk h2)
  unfold hk_G at go gj
  simp only [hk_iok, Bool.and_eq_true, decide_eq_true_eq] at hck
  simp only [hk_stp] at hrun
  obtain ⟨rfl, hrk⟩ := hck
  split at hrun
  · exact hend _ _ _ _ _ (Option.some.inj hrun).symm (Or.inr (Or.inr ⟨rfl, rfl, hdg, hrk⟩)) _ _ _ _ r
  · cases hrun

end HKJ5
end
section
/-! ===== a run, and a call, of the abstract machine is one of the machine ===== -/
section HKJ6
variable {SH : Nat → hk_Sh} {pb big ch : Nat} {cls : List vw_C} {kd : Nat → Nat → Nat} {wl : List Jvm.Cond} {mt : Nat → Option hk_Q} {hn : String} {sc : Nat}
variable {p : Program} {l : Launch} {e : Env} {R : Room} {s : State} {m : MethodId} {args : Array Value} {below : List Frame} {meth : Method} {c : Code} {Q : State → Prop}
variable {D : va_G} {cI cZ cR cJ : ClassId} {A : Nat → Prop} {H0 : Heap} {b0 mx n0 s0 dd : Nat} {ad0 : Nat → Nat} {al0 : List Nat} {own : String} {cc : ByteArray} {scr : Option (Nat × (Nat → Int32))} {cl : Nat → List Value → hk_H → hk_O}
set_option maxHeartbeats 2000000 in
theorem hk_run_snd {ini : Bool} {rk : Nat} (FX : hk_Fx SH ch cls kd wl mt hn sc p l R s m args meth c D cI cZ cR cJ A H0 b0 mx dd own cc scr cl ini) {cd : List hk_E} (hcd : ∀ e ∈ cd, decode cc e.1 = .ok (e.2.1, e.2.2.1) ∧ hk_iok cls kd wl mt hn own ini rk mx e.1 e.2.1 e.2.2.1 e.2.2.2.2.1.1 e.2.2.2.2.1.2.1 e.2.2.2.2.1.2.2.1 e.2.2.2.2.1.2.2.2 e.2.2.2.2.2.1 e.2.2.2.2.2.2.1 e.2.2.2.2.2.2.2 = true) (hsq : hk_seq cd = true) {qf : Option Value × hk_H} (hR3 : qf.2.2.2.2.length - n0 ≤ R.cells ∧ hk_sl SH cls qf.2.2.2.2 - s0 ≤ R.slots)
    (hend : ∀ pc L st h rr, qf = (rr, h) → hk_End cc rk pc rr st → hk_K SH cls kd sc D cI cZ cR cJ A H0 b0 ad0 al0 mx n0 s0 p l e R s m args below meth c Q pc L st h) : ∀ (n : Nat) (cs pre : List hk_E) (pc : Nat), cd = pre ++ cs → (∀ e r, cs = e :: r → e.1 = pc) → ∀ L st h, hk_run SH pb big ch cl scr cd n cs L st h = some qf → hk_K SH cls kd sc D cI cZ cR cJ A H0 b0 ad0 al0 mx n0 s0 p l e R s m args below meth c Q pc L st h := by
  intro n
  induction n with
  | zero => intro cs pre pc _ _ L st h hr; simp [hk_run] at hr
  | succ n ih =>
    intro cs pre pc hpre hpc L st h hr
    cases cs with
    | nil => simp [hk_run] at hr
    | cons e0 cs =>
      obtain rfl := hpc _ _ rfl
      obtain ⟨hdg, hck⟩ := hcd e0 (by rw [hpre]; simp)
      have hnx : ∀ L st h, hk_run SH pb big ch cl scr cd n cs L st h = some qf → hk_K SH cls kd sc D cI cZ cR cJ A H0 b0 ad0 al0 mx n0 s0 p l e R s m args below meth c Q (e0.1 + e0.2.2.1) L st h := fun L st h hr2 => ih cs (pre ++ [e0]) _ (by rw [hpre]; simp) (fun e1 r he => hk_seq_at cd pre e0 e1 r hsq (by rw [hpre, he])) L st h hr2
      have hjm : ∀ t L st h, hk_run SH pb big ch cl scr cd n (hk_sfx t cd) L st h = some qf → hk_K SH cls kd sc D cI cZ cR cJ A H0 b0 ad0 al0 mx n0 s0 p l e R s m args below meth c Q t L st h := fun t L st h hr2 => by
        obtain ⟨pre2, h2⟩ := hk_sfx_in t cd
        exact ih _ pre2 t h2 (fun e1 r he => hk_sfx_hd t cd e1 r he) L st h hr2
      have hgr : ∀ L st h, hk_run SH pb big ch cl scr cd n cs L st h = some qf → hk_ge h qf.2 := fun L st h hr2 => hk_run_ge FX.2.2.2.2.2.2.2.2.2.2.2.1 _ _ _ _ _ _ hr2
      rw [hk_run] at hr
      obtain ⟨pc0, ins, len, fl, ⟨a, b, c1, d⟩, v, w, sw⟩ := e0
      dsimp only at hdg hck hnx hjm hr ⊢
      cases ins
      case iconst i => exact hk_z_iconst FX hdg hck hnx hjm hr
      case bipush i => exact hk_z_bipush FX hdg hck hnx hjm hr
      case sipush i => exact hk_z_sipush FX hdg hck hnx hjm hr
      case ldc i => exact hk_z_ldc FX hdg hck hnx hjm hr
      case ldc_w i => exact hk_z_ldc_w FX hdg hck hnx hjm hr
      case lconst i => exact hk_z_lconst FX hdg hck hnx hjm hr
      case ldc2_w i => exact hk_z_ldc2_w FX hdg hck hnx hjm hr
      case iload_n k => exact hk_z_iload_n FX hdg hck hnx hjm hr
      case iload k => exact hk_z_iload FX hdg hck hnx hjm hr
      case aload_n k => exact hk_z_aload_n FX hdg hck hnx hjm hr
      case aload k => exact hk_z_aload FX hdg hck hnx hjm hr
      case lload_n k => exact hk_z_lload_n FX hdg hck hnx hjm hr
      case lload k => exact hk_z_lload FX hdg hck hnx hjm hr
      case istore_n k => exact hk_z_istore_n FX hdg hck hnx hjm hr
      case istore k => exact hk_z_istore FX hdg hck hnx hjm hr
      case astore_n k => exact hk_z_astore_n FX hdg hck hnx hjm hr
      case lstore_n k => exact hk_z_lstore_n FX hdg hck hnx hjm hr
      case lstore k => exact hk_z_lstore FX hdg hck hnx hjm hr
      case iinc k i => exact hk_z_iinc FX hdg hck hnx hjm hr
      case iadd => exact hk_z_iadd FX hdg hck hnx hjm hr
      case isub => exact hk_z_isub FX hdg hck hnx hjm hr
      case imul => exact hk_z_imul FX hdg hck hnx hjm hr
      case iand => exact hk_z_iand FX hdg hck hnx hjm hr
      case ior => exact hk_z_ior FX hdg hck hnx hjm hr
      case ixor => exact hk_z_ixor FX hdg hck hnx hjm hr
      case ishl => exact hk_z_ishl FX hdg hck hnx hjm hr
      case ishr => exact hk_z_ishr FX hdg hck hnx hjm hr
      case iushr => exact hk_z_iushr FX hdg hck hnx hjm hr
      case ladd => exact hk_z_ladd FX hdg hck hnx hjm hr
      case lsub => exact hk_z_lsub FX hdg hck hnx hjm hr
      case lmul => exact hk_z_lmul FX hdg hck hnx hjm hr
      case idiv => exact hk_z_idiv FX hdg hck hnx hjm hr
      case irem => exact hk_z_irem FX hdg hck hnx hjm hr
      case ldiv => exact hk_z_ldiv FX hdg hck hnx hjm hr
      case lneg => exact hk_z_lneg FX hdg hck hnx hjm hr
      case i2l => exact hk_z_i2l FX hdg hck hnx hjm hr
      case l2i => exact hk_z_l2i FX hdg hck hnx hjm hr
      case lcmp => exact hk_z_lcmp FX hdg hck hnx hjm hr
      case dup => exact hk_z_dup FX hdg hck hnx hjm hr
      case dup2 => exact hk_z_dup2 FX hdg hck hnx hjm hr
      case pop => exact hk_z_pop FX hdg hck hnx hjm hr
      case pop2 => exact hk_z_pop2 FX hdg hck hnx hjm hr
      case goto o => exact hk_z_goto FX hdg hck hnx hjm hr
      case if_icmp cnd o => exact hk_z_if_icmp FX hdg hck hnx hjm hr
      case ifCond cnd o => exact hk_z_ifCond FX hdg hck hnx hjm hr
      case ifnonnull o => exact hk_z_ifnonnull FX hdg hck hnx hjm hr
      case tableswitch df lo hi os => exact hk_z_tableswitch FX hdg hck hnx hjm hr
      case lookupswitch df ps => exact hk_z_lookupswitch FX hdg hck hnx hjm hr
      case getfield i => exact hk_z_getfield FX hdg hck hnx hjm hr
      case putfield i => exact hk_z_putfield FX hdg hck hnx hjm hr
      case arraylength => exact hk_z_arraylength FX hdg hck hnx hjm hr
      case iaload => exact hk_z_iaload FX hdg hck hnx hjm hr
      case iastore => exact hk_z_iastore FX hdg hck hnx hjm hr
      case baload => exact hk_z_baload FX hdg hck hnx hjm hr
      case bastore => exact hk_z_bastore FX hdg hck hnx hjm hr
      case laload => exact hk_z_laload FX hdg hck hnx hjm hr
      case lastore => exact hk_z_lastore FX hdg hck hnx hjm hr
      case aaload => exact hk_z_aaload FX hdg hck hnx hjm hr
      case aastore => exact hk_z_aastore FX hdg hck hnx hjm hr
      case new i => exact hk_z_new FX hdg hck hnx hjm hgr hR3 hr
      case newarray t => exact hk_z_newarray FX hdg hck hnx hjm hgr hR3 hr
      case anewarray i => exact hk_z_anewarray FX hdg hck hnx hjm hgr hR3 hr
      case invokevirtual i => exact hk_z_invokevirtual FX hdg hck hnx hjm hgr hR3 hr
      case invokespecial i => exact hk_z_invokespecial FX hdg hck hnx hjm hgr hR3 hr
      case invokestatic i => exact hk_z_invokestatic FX hdg hck hnx hjm hgr hR3 hr
      case ireturn => exact hk_z_ireturn FX hdg hck hnx hjm hend hr
      case lreturn => exact hk_z_lreturn FX hdg hck hnx hjm hend hr
      case return_ => exact hk_z_return FX hdg hck hnx hjm hend hr
      all_goals exact absurd (show (none : hk_O) = some qf from hr) (by simp)
theorem hk_first {cd : List hk_E} (h : (match cd with | [] => true | e :: _ => decide (e.1 = 0)) = true) : ∀ e r, cd = e :: r → e.1 = 0 := by
  intro e r he
  subst he
  exact of_decide_eq_true h
theorem hk_as_sl (ad : Nat → Nat) : ∀ a : List Value, (lg_sl (a.map (hk_tv ad))).length = (hk_as a).length
  | [] => rfl
  | v :: r => by
    have ih := hk_as_sl ad r
    unfold lg_sl at ih ⊢
    rw [List.map_cons, List.flatMap_cons, List.length_append, ih, hk_tv_cat]
    cases v <;> simp [hk_as, Value.category] <;> omega
theorem hk_as_args (ad : Nat → Nat) : ∀ (a : List Value) (off k : Nat) (v : Value), (hk_as a)[k]? = some (some v) → (off + k, hk_tv ad v) ∈ lv_args off (a.map (hk_tv ad))
  | [], _, k, v, h => by simp [hk_as] at h
  | x :: r, off, k, v, h => by
    rw [List.map_cons, lv_args, hk_tv_cat]
    by_cases hx : x.category = 2
    · rw [if_pos hx]
      have hxs : hk_as (x :: r) = some x :: none :: hk_as r := by
        cases x <;> first | rfl | exact absurd hx (by simp [Value.category])
      rw [hxs] at h
      match k, h with
      | 0, h => cases h; exact List.mem_cons.mpr (Or.inl rfl)
      | 1, h => cases h
      | k + 2, h =>
        have := hk_as_args ad r (off + 2) k v h
        rw [show off + (k + 2) = off + 2 + k by omega]
        exact List.mem_cons_of_mem _ this
    · rw [if_neg hx]
      have hxs : hk_as (x :: r) = some x :: hk_as r := by
        cases x <;> first | rfl | exact absurd rfl hx
      rw [hxs] at h
      match k, h with
      | 0, h => cases h; exact List.mem_cons.mpr (Or.inl rfl)
      | k + 1, h =>
        have := hk_as_args ad r (off + 1) k v h
        rw [show off + (k + 1) = off + 1 + k by omega]
        exact List.mem_cons_of_mem _ this
theorem hk_as_mem : ∀ (a : List Value) (v : Value), some v ∈ hk_as a → v ∈ a
  | [], v, h => by simp [hk_as] at h
  | x :: r, v, h => by
    have ih := hk_as_mem r v
    cases x <;> simp [hk_as] at h ⊢ <;> rcases h with h | h <;> first | exact Or.inl h | exact Or.inr (ih h)
theorem hk_loc_at {mx : Nat} {a : List Value} {k : Nat} {v : Value} (h : (hk_loc mx a)[k]? = some (some v)) : (hk_as a)[k]? = some (some v) := by
  unfold hk_loc at h
  by_cases hk : k < (hk_as a).length
  · rw [List.getElem?_append_left hk] at h
    exact h
  · rw [List.getElem?_append_right (by omega)] at h
    have := List.mem_of_getElem? h
    rw [List.mem_replicate] at this
    cases this.2
set_option maxRecDepth 100000 in
theorem hk_roomL2 (d : Nat) : 64 * d + 1064 ≤ 64 * (d + 1) + 1000 := by omega
set_option maxHeartbeats 2000000 in
theorem hk_call_snd (l : Launch) (TB : hk_T SH ch cls kd wl mt hn sc) (F : Nat) : ∀ (d y : Nat) (a : List Value) (h : hk_H) (r : Option Value) (h' : hk_H), hk_call SH pb big ch mt F d y a h = some (r, h') → hk_MetOK SH cls kd wl mt hn sc l d y a h r h' := by
  intro d
  induction d with
  | zero => intro y a h r h' hr; simp [hk_call] at hr
  | succ d ih =>
    intro y a h r h' hr
    have hge0 := hk_call_ge F (d + 1) y a h _ hr
    rw [hk_call] at hr
    split at hr
    · cases hr
    next q hmt =>
    split at hr
    rotate_left
    · cases hr
    next hcond =>
    rw [Bool.and_eq_true] at hcond
    have hle := Nat.le_of_ble_eq_true hcond.1
    have hal := Nat.eq_of_beq_eq_true hcond.2
    intro q' hq' hwf hva
    obtain rfl := Option.some.inj (hmt.symm.trans hq')
    refine ⟨hal, fun D cI cZ cR cJ ad sz => ?_⟩
    obtain ⟨m1, m2, m3, m4, m5, m6, m7, m8, m9, m10, m11, m12, m12b⟩ := TB.2.2.2.2.2.2.2.2.2 _ _ hmt
    refine Met.ofW (cc := q.2.1) (maxL := q.2.2.1) (ret := q.2.2.2.1) m1 rfl ?_
    intro p e s m args below meth c s₁ B hml hv
    obtain ⟨rfl, hsz, hP, hK, hD0, hAO⟩ := hv
    have hx := B.exec
    have hb := B.bytes
    have hr0 := B.returns
    have hts := atoms_spec (ws := hk_mw wl q) B.pre
    have hown : s.vm.findClass q.1.cls = some m.cls := findClass_of_methodNamed B.named
    have hlocks := B.notSynchronized
    have hnm : meth.name = q.1.name := (name_of_methodNamed B.named B.method).1
    subst hsz
    have hD := hD0.self (sz := s.heap.size)
    have hA : ∀ z : Nat, s.heap.size ≤ z → va_A (hk_ws SH cls kd cI cZ cR cJ ad h) s.heap.size z := fun z hz => Or.inr hz
    have hl := lv_entry (a.map (hk_tv ad)) (n := q.2.2.1) (by rw [hk_as_sl]; exact hle)
    rw [lg_entry_eq]
    generalize (lg_sl (a.map (hk_tv ad)) ++ List.replicate (q.2.2.1 - (lg_sl (a.map (hk_tv ad))).length) Slot.unset).toArray = ls at hl ⊢
    have FX : hk_Fx SH ch cls kd wl mt hn sc p l (headSpec (hk_mw wl q) (hk_rm SH cls (d + 1) h h')).room s m (a.map (hk_tv ad)).toArray meth c D cI cZ cR cJ (va_A (hk_ws SH cls kd cI cZ cR cJ ad h) s.heap.size) s.heap (ad sc) q.2.2.1 d q.1.cls q.2.1 none (hk_call SH pb big ch mt F d) (decide (q.1.name = "<init>")) :=
      ⟨TB, hx, hb, hml, hown, fun w hw => hts w (List.mem_cons_of_mem _ hw), hK, hA, fun hi => (by rw [hnm]; exact of_decide_eq_true hi), fun q0 h0 => (by cases h0), fun y a h r h' hr2 => ih y a h r h' hr2, fun y a h q2 hr2 => hk_call_ge F d y a h q2 hr2, Nat.le_refl (d + 1), hk_roomL2 d, hAO⟩
    have hS0 : va_S (va_A (hk_ws SH cls kd cI cZ cR cJ ad h) s.heap.size) s.heap s.heap [] := va_S.rf
    have hRR : hk_R SH cls kd sc D cI cZ cR cJ (va_A (hk_ws SH cls kd cI cZ cR cJ ad h) s.heap.size) s.heap (ad sc) ad h.2.2.2 q.2.2.1 h.2.2.2.length (hk_sl SH cls h.2.2.2) ad h s.heap [] ls (hk_loc q.2.2.1 a) [] := by
      refine ⟨hP, hD, hS0, hwf, hk_has_sub hl fun z hz => ?_, ?_, fun v hv => absurd hv List.not_mem_nil, fun v hv => ?_, ⟨rfl, fun z _ => rfl, fun z hz => hz⟩, Nat.le_refl _, Nat.le_refl _⟩
      · obtain ⟨v, h1, h2⟩ := hk_pl_mem.mp hz
        have := hk_as_args ad a 0 z.1 v (hk_loc_at h1)
        rw [Nat.zero_add, ← h2] at this
        exact this
      · unfold hk_loc
        rw [List.length_append, List.length_replicate]
        omega
      · obtain ⟨k, hk⟩ := List.getElem?_of_mem hv
        exact hva v (hk_as_mem a v (List.mem_of_getElem? (hk_loc_at hk)))
    have key := hk_run_snd (rk := hk_rk q.2.2.2.1) (n0 := h.2.2.2.length) (s0 := hk_sl SH cls h.2.2.2) (ad0 := ad) (al0 := h.2.2.2) (e := e) (below := below) (Q := MQ below (hk_Qc SH cls kd hn sc D cI cZ cR cJ ad s.heap.size h h' r) (a.map (hk_tv ad)).toArray s (h'.2.2.2.length - h.2.2.2.length) (hk_sl SH cls h'.2.2.2 - hk_sl SH cls h.2.2.2) (va_A (hk_ws SH cls kd cI cZ cR cJ ad h) s.heap.size)) FX m11 m12 (qf := (r, h')) ⟨Nat.le_refl _, Nat.le_refl _⟩ ?_ F q.2.2.2.2.2 [] 0 rfl ?_ (hk_loc q.2.2.1 a) [] h hr ad s.heap [] ls hRR
    · unfold hk_G at key
      exact W.cs (by omega) (by omega) key
    · intro pc L st h1 rr hqf hE ad1 H1 locs1 ls1 r1
      cases hqf
      obtain ⟨b1, b2, b3, b4, b5, b6, b7, b8, b9, b10, b11⟩ := r1
      unfold hk_G
      have hB : ∀ t : State, t.heap = H1 → s.WarmedH t.vm → hk_B SH cls kd hn D cI cZ cR cJ h' (va_A (hk_ws SH cls kd cI cZ cR cJ ad h) s.heap.size) ad1 t := fun t ht hW => ⟨by rw [ht]; exact b1, va_K.moved hW.alike hK, b2⟩
      rcases hE with ⟨x, rfl, rfl, hdg, hrk⟩ | ⟨x, rfl, rfl, hdg, hrk⟩ | ⟨rfl, rfl, hdg, hrk⟩
      · rcases hrk with hrk | ⟨hrk, hx01⟩
        · have hret : q.2.2.2.1 = some .int := by
            rcases m10 with h2 | h2 | h2 | h2 <;> rw [h2] at hrk <;> first | exact h2 | cases hrk
          exact W.iret hx hb (hr0.trans hret) (fun t ht hW => ⟨⟨x, ad1, rfl, ⟨rfl, b9.2.1, b4⟩, hB t ht hW⟩, b3.F ht⟩) b3.2.2 hdg hlocks
        · have hret : q.2.2.2.1 = some .boolean := by
            rcases m10 with h2 | h2 | h2 | h2 <;> rw [h2] at hrk <;> first | exact h2 | cases hrk
          exact W.zret hx hb (hr0.trans hret) (by rcases hx01 with rfl | rfl <;> rfl) (fun t ht hW => ⟨⟨x, ad1, rfl, ⟨rfl, b9.2.1, b4⟩, hB t ht hW⟩, b3.F ht⟩) b3.2.2 hdg hlocks
      · have hret : q.2.2.2.1 = some .long := by
          rcases m10 with h2 | h2 | h2 | h2 <;> rw [h2] at hrk <;> first | exact h2 | cases hrk
        exact W.lret hx hb (hr0.trans hret) (fun t ht hW => ⟨⟨x, ad1, rfl, ⟨rfl, b9.2.1, b4⟩, hB t ht hW⟩, b3.F ht⟩) b3.2.2 hdg hlocks
      · have hret : q.2.2.2.1 = none := by
          rcases m10 with h2 | h2 | h2 | h2 <;> rw [h2] at hrk <;> first | exact h2 | cases hrk
        exact W.vret hx hb (hr0.trans hret) (fun t ht hW => ⟨⟨ad1, rfl, ⟨b9.2.1, b4⟩, hB t ht hW⟩, b3.F ht⟩) b3.2.2 hdg hlocks
    · intro e1 r2 he
      exact hk_first m12b e1 r2 he
end HKJ6
end
section
theorem i_vc : Claimed_1_1 ∧ Claimed_1_2 := sorry
end
