/-! ===== an abstract machine for the part of the bytecode that the class, the reference and the law use: places for addresses, numbers as they are ===== -/
abbrev hk_E : Type := Nat × Instr × Nat × Nat × (Nat × Nat × Nat × Nat) × Int32 × Int64 × List (Int32 × Nat)
abbrev hk_L : Type := List (Option Value)
/-- numbers, longs, references (0: null), the places that there are -/
abbrev hk_H : Type := (Nat → Nat → Int32) × (Nat → Nat → Int64) × (Nat → Nat → Nat) × List Nat
abbrev hk_Q : Type := MethodName × ByteArray × Nat × Option FieldType × (Nat × Nat × Nat × Nat × Nat × Nat) × List hk_E
def hk_u2 (f : Nat → Nat → Int32) (p k : Nat) (x : Int32) : Nat → Nat → Int32 := fun q => if q = p then upd (f p) k x else f q
def hk_uJ (f : Nat → Nat → Int64) (p k : Nat) (x : Int64) : Nat → Nat → Int64 := fun q => if q = p then vp_updL (f p) k x else f q
def hk_uR (f : Nat → Nat → Nat) (p k : Nat) (x : Nat) : Nat → Nat → Nat := fun q => if q = p then (fun j => if j = k then x else f p j) else f q
def hk_cp (f : Nat → Nat → Int32) (p q sp dp n : Nat) : Nat → Nat → Int32 := fun z => if z = q then va_cpy (f p) (f q) sp dp n else f z
def hk_z {α : Type} (f : Nat → Nat → α) (p : Nat) (x : α) : Nat → Nat → α := fun q => if q = p then (fun _ => x) else f q
def hk_rv (r : Nat) : Value := match r with
  | 0 => .null
  | r + 1 => .ref (r + 1)
/-- a cell's kind (1 object, 2 ints, 3 booleans, 4 references, 5 longs, 6 the script) and its class or length -/
abbrev hk_Sh : Type := Nat × Nat
def hk_is (s : hk_Sh) (k n : Nat) : Bool := Nat.beq s.1 k && Nat.beq s.2 n
/-- a new object at a place: all 0 -/
def hk_nw (h : hk_H) (p : Nat) : hk_H := (hk_z h.1 p 0, hk_z h.2.1 p 0, hk_z h.2.2.1 p 0, h.2.2.2 ++ [p])
def hk_cl1 (a : Option Value) : Option Value := match a with
  | some (.long _) => none
  | some (.double _) => none
  | a => a
def hk_s1 : Nat → Value → hk_L → hk_L
  | _, _, [] => []
  | 0, v, _ :: r => some v :: r
  | 1, v, a :: r => hk_cl1 a :: hk_s1 0 v r
  | i + 2, v, a :: r => a :: hk_s1 (i + 1) v r
def hk_s2 (i : Nat) (v : Value) (L : hk_L) : hk_L := (hk_s1 i v L).set (i + 1) none
def hk_cat (st : List Value) : Nat := match st with
  | [] => 0
  | .long _ :: r => hk_cat r + 2
  | .double _ :: r => hk_cat r + 2
  | _ :: r => hk_cat r + 1
def hk_sw {R : Type} (br : (P : Prop) → Decidable P → R → R → R) (x : Int32) (k0 : R) (k : Nat → R) : List (Int32 × Nat) → R
  | [] => k0
  | q :: r => br (x = q.1) inferInstance (k q.2) (hk_sw br x k0 k r)
def hk_cmp {R : Type} (br : (P : Prop) → Decidable P → R → R → R) (c : ClassFile.Cond) (x y : Int32) (k0 k1 : R) : R := match c with
  | .eq => br (x = y) inferInstance k0 k1
  | .ne => br (¬ x = y) inferInstance k0 k1
  | .lt => br (x < y) inferInstance k0 k1
  | .ge => br (y ≤ x) inferInstance k0 k1
  | .gt => br (y < x) inferInstance k0 k1
  | .le => br (x ≤ y) inferInstance k0 k1
def hk_i2 {R : Type} (sk : R) (nx : List Value → R) (f : Int32 → Int32 → Int32) (st : List Value) : R := match st with
  | .int y :: .int x :: r => nx (.int (f x y) :: r)
  | _ => sk
def hk_l2 {R : Type} (sk : R) (nx : List Value → R) (f : Int64 → Int64 → Int64) (st : List Value) : R := match st with
  | .long y :: .long x :: r => nx (.long (f x y) :: r)
  | _ => sk
def hk_in (i : Int32) (n : Nat) : Decidable (vp_in i n) := inferInstanceAs (Decidable (¬ (i < 0 ∨ n ≤ i.toNatClampNeg)))
/-- the place of a new cell: the big row's own, else the next -/
def hk_np (pb big : Nat) (al : List Nat) (n : Nat) : Nat := match Nat.beq n big with
  | true => pb
  | false => match al.contains pb with
    | true => al.length - 1
    | false => al.length
section HKS
variable {R : Type} (SH : Nat → hk_Sh) (pb big : Nat) (sk : R) (nx : hk_L → List Value → hk_H → R) (jm : Nat → hk_L → List Value → hk_H → R) (as : (P : Prop) → Decidable P → R → R) (br : (P : Prop) → Decidable P → R → R → R) (cl : Nat → List Value → hk_H → (Option Value → hk_H → R) → R) (rt : Option Value → hk_H → R) (scr : Option (Nat × (Nat → Int32)))
/-- a new cell of a shape -/
def hk_mk (L : hk_L) (r : List Value) (h : hk_H) (k n : Nat) : R :=
  match hk_is (SH (hk_np pb big h.2.2.2 n)) k n && !(h.2.2.2.contains (hk_np pb big h.2.2.2 n)) with
  | true => nx L (.ref (hk_np pb big h.2.2.2 n) :: r) (hk_nw h (hk_np pb big h.2.2.2 n))
  | false => sk
def hk_new (a : Nat) (L : hk_L) (st : List Value) (h : hk_H) : R := hk_mk SH pb big sk nx L st h 1 a
def hk_newa (t : ArrayType) (L : hk_L) (st : List Value) (h : hk_H) : R := match st with
  | .int n :: r => as (¬ n < 0 ∧ n.toNatClampNeg ≤ 200000) inferInstance (match t with
    | .int => hk_mk SH pb big sk nx L r h 2 n.toNatClampNeg
    | .boolean => hk_mk SH pb big sk nx L r h 3 n.toNatClampNeg
    | .long => hk_mk SH pb big sk nx L r h 5 n.toNatClampNeg
    | _ => sk)
  | _ => sk
def hk_newq (L : hk_L) (st : List Value) (h : hk_H) : R := match st with
  | .int n :: r => as (¬ n < 0 ∧ n.toNatClampNeg ≤ 200000) inferInstance (hk_mk SH pb big sk nx L r h 4 n.toNatClampNeg)
  | _ => sk
def hk_getf (a c d : Nat) (L : hk_L) (st : List Value) (h : hk_H) : R := match st with
  | .ref p :: r => match hk_is (SH p) 1 a with
    | true => match d with
      | 1 => nx L (hk_rv (h.2.2.1 p c) :: r) h
      | _ => nx L (.int (h.1 p c) :: r) h
    | false => sk
  | _ => sk
def hk_putf (a c d : Nat) (L : hk_L) (st : List Value) (h : hk_H) : R := match st with
  | .int x :: .ref p :: r => match hk_is (SH p) 1 a with
    | true => match d with
      | 0 => nx L r (hk_u2 h.1 p c x, h.2)
      | 2 => as (x = 0 ∨ x = 1) inferInstance (nx L r (hk_u2 h.1 p c x, h.2))
      | _ => sk
    | false => sk
  | .ref (q + 1) :: .ref p :: r => match hk_is (SH p) 1 a with
    | true => match d with
      | 1 => match Nat.beq (SH (q + 1)).1 6 with
        | true => sk
        | false => nx L r (h.1, h.2.1, hk_uR h.2.2.1 p c (q + 1), h.2.2.2)
      | _ => sk
    | false => sk
  | _ => sk
def hk_ial (L : hk_L) (st : List Value) (h : hk_H) : R := match st with
  | .int i :: .ref p :: r => match SH p with
    | (2, n) => as (vp_in i n) (hk_in i n) (nx L (.int (h.1 p i.toNatClampNeg) :: r) h)
    | (6, _) => match scr with
      | some q => as (vp_in i q.1) (hk_in i q.1) (nx L (.int (q.2 i.toNatClampNeg) :: r) h)
      | none => sk
    | _ => sk
  | _ => sk
def hk_ias (L : hk_L) (st : List Value) (h : hk_H) : R := match st with
  | .int x :: .int i :: .ref p :: r => match SH p with
    | (2, n) => as (vp_in i n) (hk_in i n) (nx L r (hk_u2 h.1 p i.toNatClampNeg x, h.2))
    | _ => sk
  | _ => sk
def hk_bal (L : hk_L) (st : List Value) (h : hk_H) : R := match st with
  | .int i :: .ref p :: r => match SH p with
    | (3, n) => as (vp_in i n) (hk_in i n) (nx L (.int (h.1 p i.toNatClampNeg) :: r) h)
    | _ => sk
  | _ => sk
def hk_bas (L : hk_L) (st : List Value) (h : hk_H) : R := match st with
  | .int x :: .int i :: .ref p :: r => match SH p with
    | (3, n) => as (vp_in i n) (hk_in i n) (nx L r (hk_u2 h.1 p i.toNatClampNeg (vp_nar .boolean x), h.2))
    | _ => sk
  | _ => sk
def hk_lal (L : hk_L) (st : List Value) (h : hk_H) : R := match st with
  | .int i :: .ref p :: r => match SH p with
    | (5, n) => as (vp_in i n) (hk_in i n) (nx L (.long (h.2.1 p i.toNatClampNeg) :: r) h)
    | _ => sk
  | _ => sk
def hk_las (L : hk_L) (st : List Value) (h : hk_H) : R := match st with
  | .long x :: .int i :: .ref p :: r => match SH p with
    | (5, n) => as (vp_in i n) (hk_in i n) (nx L r (h.1, hk_uJ h.2.1 p i.toNatClampNeg x, h.2.2))
    | _ => sk
  | _ => sk
def hk_aal (L : hk_L) (st : List Value) (h : hk_H) : R := match st with
  | .int i :: .ref p :: r => match SH p with
    | (4, n) => as (vp_in i n) (hk_in i n) (nx L (hk_rv (h.2.2.1 p i.toNatClampNeg) :: r) h)
    | _ => sk
  | _ => sk
def hk_aas (ch : Nat) (L : hk_L) (st : List Value) (h : hk_H) : R := match st with
  | .ref (q + 1) :: .int i :: .ref p :: r => match hk_is (SH (q + 1)) 1 ch with
    | true => match SH p with
      | (4, n) => as (vp_in i n) (hk_in i n) (nx L r (h.1, h.2.1, hk_uR h.2.2.1 p i.toNatClampNeg (q + 1), h.2.2.2))
      | _ => sk
    | false => sk
  | _ => sk
def hk_len (L : hk_L) (st : List Value) (h : hk_H) : R := match st with
  | .ref p :: r => match SH p with
    | (2, n) => nx L (.int (Int32.ofNat n) :: r) h
    | (6, _) => match scr with
      | some q => nx L (.int (Int32.ofNat q.1) :: r) h
      | none => sk
    | _ => sk
  | _ => sk
/-- System.arraycopy of ints -/
def hk_acp (L : hk_L) (st : List Value) (h : hk_H) : R := match st with
  | .int n :: .int dp :: .ref q :: .int sp :: .ref p :: r => match SH p, SH q with
    | (2, n0), (2, n1) => match Nat.ble (hk_cat r) 8 with
      | true => as (¬ sp < 0 ∧ ¬ dp < 0 ∧ ¬ n < 0 ∧ sp.toNatClampNeg + n.toNatClampNeg ≤ n0 ∧ dp.toNatClampNeg + n.toNatClampNeg ≤ n1) inferInstance (nx L r (hk_cp h.1 p q sp.toNatClampNeg dp.toNatClampNeg n.toNatClampNeg, h.2))
      | false => sk
    | _, _ => sk
  | _ => sk
/-- a call of method a with c arguments (the receiver counts); d: 0 a static one, else 1 and the receiver's class -/
def hk_inv (a c d : Nat) (L : hk_L) (st : List Value) (h : hk_H) : R :=
  match Nat.ble c st.length && Nat.ble (hk_cat (st.drop c)) 8 && (match d with
    | 0 => true
    | ci + 1 => match (st.take c).reverse with
      | .ref p :: _ => hk_is (SH p) 1 ci
      | _ => false) with
  | true => cl a (st.take c).reverse h (fun r h' => match r with
    | none => nx L (st.drop c) h'
    | some v => nx L (v :: st.drop c) h')
  | false => sk
/-- Math's max, min -/
def hk_mi (f : Int32 → Int32 → Int32) (L : hk_L) (st : List Value) (h : hk_H) : R := match st with
  | .int y :: .int x :: r => match Nat.ble (hk_cat r) 8 with
    | true => nx L (.int (f x y) :: r) h
    | false => sk
  | _ => sk
def hk_mj (f : Int64 → Int64 → Int64) (L : hk_L) (st : List Value) (h : hk_H) : R := match st with
  | .long y :: .long x :: r => match Nat.ble (hk_cat r) 8 with
    | true => nx L (.long (f x y) :: r) h
    | false => sk
  | _ => sk
def hk_call1 (a c d : Nat) (L : hk_L) (st : List Value) (h : hk_H) : R := match a with
  | 0 => sk
  | 1 => match st with
    | .ref _ :: r => match Nat.ble (hk_cat r) 8 with
      | true => nx L r h
      | false => sk
    | _ => sk
  | 2 => hk_acp SH sk nx as L st h
  | 3 => hk_mi sk nx (fun x y => if x < y then y else x) L st h
  | 4 => hk_mi sk nx (fun x y => if y < x then y else x) L st h
  | 5 => hk_mj sk nx (fun x y => if y < x then x else y) L st h
  | 6 => hk_mj sk nx (fun x y => if y < x then y else x) L st h
  | y + 7 => hk_inv SH sk nx cl y c d L st h
def hk_stp (ch : Nat) (ins : Instr) (a c d : Nat) (v : Int32) (w : Int64) (sw : List (Int32 × Nat)) (L : hk_L) (st : List Value) (h : hk_H) : R :=
  match ins with
  | .iconst _ => nx L (.int v :: st) h
  | .bipush _ => nx L (.int v :: st) h
  | .sipush _ => nx L (.int v :: st) h
  | .ldc _ => (match a with
    | 0 => nx L (.int v :: st) h
    | _ => sk)
  | .ldc_w _ => nx L (.int v :: st) h
  | .lconst _ => nx L (.long w :: st) h
  | .ldc2_w _ => nx L (.long w :: st) h
  | .iload_n _ => (match L[a]? with
    | some (some (.int x)) => nx L (.int x :: st) h
    | _ => sk)
  | .iload _ => (match L[a]? with
    | some (some (.int x)) => nx L (.int x :: st) h
    | _ => sk)
  | .aload_n _ => (match L[a]? with
    | some (some (.ref x)) => nx L (.ref x :: st) h
    | some (some .null) => nx L (.null :: st) h
    | _ => sk)
  | .aload _ => (match L[a]? with
    | some (some (.ref x)) => nx L (.ref x :: st) h
    | _ => sk)
  | .lload_n _ => (match L[a]? with
    | some (some (.long x)) => nx L (.long x :: st) h
    | _ => sk)
  | .lload _ => (match L[a]? with
    | some (some (.long x)) => nx L (.long x :: st) h
    | _ => sk)
  | .istore_n _ => (match st with
    | .int x :: r => nx (hk_s1 a (.int x) L) r h
    | _ => sk)
  | .istore _ => (match st with
    | .int x :: r => nx (hk_s1 a (.int x) L) r h
    | _ => sk)
  | .astore_n _ => (match st with
    | .ref x :: r => nx (hk_s1 a (.ref x) L) r h
    | .null :: r => nx (hk_s1 a .null L) r h
    | _ => sk)
  | .lstore_n _ => (match st with
    | .long x :: r => nx (hk_s2 a (.long x) L) r h
    | _ => sk)
  | .lstore _ => (match st with
    | .long x :: r => nx (hk_s2 a (.long x) L) r h
    | _ => sk)
  | .iinc _ _ => (match L[a]? with
    | some (some (.int x)) => nx (hk_s1 a (.int (x + v)) L) st h
    | _ => sk)
  | .iadd => hk_i2 sk (fun r => nx L r h) (fun x y => x + y) st
  | .isub => hk_i2 sk (fun r => nx L r h) (fun x y => x - y) st
  | .imul => hk_i2 sk (fun r => nx L r h) (fun x y => x * y) st
  | .iand => hk_i2 sk (fun r => nx L r h) (fun x y => x &&& y) st
  | .ior => hk_i2 sk (fun r => nx L r h) (fun x y => x ||| y) st
  | .ixor => hk_i2 sk (fun r => nx L r h) (fun x y => x ^^^ y) st
  | .ishl => hk_i2 sk (fun r => nx L r h) (fun x y => x <<< (y &&& 31)) st
  | .ishr => hk_i2 sk (fun r => nx L r h) (fun x y => x >>> (y &&& 31)) st
  | .iushr => hk_i2 sk (fun r => nx L r h) (fun x y => (x.toUInt32 >>> (y.toUInt32 &&& Int32.toUInt32 31)).toInt32) st
  | .ladd => hk_l2 sk (fun r => nx L r h) (fun x y => x + y) st
  | .lsub => hk_l2 sk (fun r => nx L r h) (fun x y => x - y) st
  | .lmul => hk_l2 sk (fun r => nx L r h) (fun x y => x * y) st
  | .idiv => (match st with
    | .int y :: .int x :: r => as (¬ y = 0) inferInstance (nx L (.int (x / y) :: r) h)
    | _ => sk)
  | .irem => (match st with
    | .int y :: .int x :: r => as (¬ y = 0) inferInstance (nx L (.int (x - x / y * y) :: r) h)
    | _ => sk)
  | .ldiv => (match st with
    | .long y :: .long x :: r => as (¬ y = 0) inferInstance (nx L (.long (x / y) :: r) h)
    | _ => sk)
  | .lneg => (match st with
    | .long x :: r => nx L (.long (-x) :: r) h
    | _ => sk)
  | .i2l => (match st with
    | .int x :: r => nx L (.long x.toInt64 :: r) h
    | _ => sk)
  | .l2i => (match st with
    | .long x :: r => nx L (.int x.toInt32 :: r) h
    | _ => sk)
  | .lcmp => (match st with
    | .long y :: .long x :: r => nx L (.int (lg_cmp x y) :: r) h
    | _ => sk)
  | .dup => (match st with
    | .int x :: r => nx L (.int x :: .int x :: r) h
    | .ref x :: r => nx L (.ref x :: .ref x :: r) h
    | _ => sk)
  | .dup2 => (match st with
    | .int x :: .ref y :: r => nx L (.int x :: .ref y :: .int x :: .ref y :: r) h
    | _ => sk)
  | .pop => (match st with
    | .int _ :: r => nx L r h
    | _ => sk)
  | .pop2 => (match st with
    | .long _ :: r => nx L r h
    | _ => sk)
  | .goto _ => jm a L st h
  | .if_icmp cnd _ => (match st with
    | .int y :: .int x :: r => hk_cmp br cnd x y (jm a L r h) (nx L r h)
    | _ => sk)
  | .ifCond cnd _ => (match st with
    | .int x :: r => hk_cmp br cnd x 0 (jm a L r h) (nx L r h)
    | _ => sk)
  | .ifnonnull _ => (match st with
    | .ref _ :: r => jm a L r h
    | .null :: r => nx L r h
    | _ => sk)
  | .tableswitch _ _ _ _ => (match st with
    | .int x :: r => hk_sw br x (jm a L r h) (fun t => jm t L r h) sw
    | _ => sk)
  | .lookupswitch _ _ => (match st with
    | .int x :: r => hk_sw br x (jm a L r h) (fun t => jm t L r h) sw
    | _ => sk)
  | .getfield _ => hk_getf SH sk nx a c d L st h
  | .putfield _ => hk_putf SH sk nx as a c d L st h
  | .new _ => hk_new SH pb big sk nx a L st h
  | .newarray t => hk_newa SH pb big sk nx as t L st h
  | .anewarray _ => hk_newq SH pb big sk nx as L st h
  | .arraylength => hk_len SH sk nx scr L st h
  | .iaload => hk_ial SH sk nx as scr L st h
  | .iastore => hk_ias SH sk nx as L st h
  | .baload => hk_bal SH sk nx as L st h
  | .bastore => hk_bas SH sk nx as L st h
  | .laload => hk_lal SH sk nx as L st h
  | .lastore => hk_las SH sk nx as L st h
  | .aaload => hk_aal SH sk nx as L st h
  | .aastore => hk_aas SH sk nx as ch L st h
  | .invokevirtual _ => hk_call1 SH sk nx as cl a c d L st h
  | .invokespecial _ => hk_call1 SH sk nx as cl a c d L st h
  | .invokestatic _ => hk_call1 SH sk nx as cl a c d L st h
  | .ireturn => (match st with
    | [.int x] => (match d with
      | 0 => rt (some (.int x)) h
      | _ => as (x = 0 ∨ x = 1) inferInstance (rt (some (.int x)) h))
    | _ => sk)
  | .lreturn => (match st with
    | [.long x] => rt (some (.long x)) h
    | _ => sk)
  | .return_ => (match st with
    | [] => rt none h
    | _ => sk)
  | _ => sk
end HKS
def hk_sfx (t : Nat) : List hk_E → List hk_E
  | [] => []
  | e :: r => match Nat.beq e.1 t with
    | true => e :: r
    | false => hk_sfx t r
abbrev hk_O : Type := Option (Option Value × hk_H)
section HKR
variable (SH : Nat → hk_Sh) (pb big ch : Nat)
/-- a run of a method's body -/
def hk_run (cl : Nat → List Value → hk_H → hk_O) (scr : Option (Nat × (Nat → Int32))) (cd : List hk_E) : Nat → List hk_E → hk_L → List Value → hk_H → hk_O
  | 0, _, _, _, _ => none
  | _ + 1, [], _, _, _ => none
  | n + 1, e :: cs, L, st, h => hk_stp SH pb big (R := hk_O) none (fun L st h => hk_run cl scr cd n cs L st h) (fun t L st h => hk_run cl scr cd n (hk_sfx t cd) L st h) (fun P d k => @ite _ P d k none) (fun P d k0 k1 => @ite _ P d k0 k1) (fun y a h k => (cl y a h).bind (fun q => k q.1 q.2)) (fun r h => some (r, h)) scr ch e.2.1 e.2.2.2.2.1.1 e.2.2.2.2.1.2.2.1 e.2.2.2.2.1.2.2.2 e.2.2.2.2.2.1 e.2.2.2.2.2.2.1 e.2.2.2.2.2.2.2 L st h
def hk_as : List Value → hk_L
  | [] => []
  | .long x :: r => some (.long x) :: none :: hk_as r
  | .double x :: r => some (.double x) :: none :: hk_as r
  | v :: r => some v :: hk_as r
def hk_loc (mx : Nat) (a : List Value) : hk_L := hk_as a ++ List.replicate (mx - (hk_as a).length) none
/-- a call, so deep -/
def hk_call (mt : Nat → Option hk_Q) (F : Nat) : Nat → Nat → List Value → hk_H → hk_O
  | 0, _, _, _ => none
  | d + 1, y, a, h => match mt y with
    | none => none
    | some q => match Nat.ble (hk_as a).length q.2.2.1 && Nat.beq a.length q.2.2.2.2.1.1 with
      | true => hk_run SH pb big ch (hk_call mt F d) none q.2.2.2.2.2 F q.2.2.2.2.2 (hk_loc q.2.2.1 a) [] h
      | false => none
end HKR
