/-! ONE STEP OF THE ABSTRACT MACHINE, AND ITS RUNS -/
def oget (sc : SC) (h : AH) (v : AV) : Option AO := match v with
  | .inr (.inl p) => hget h p
  | .inr (.inr (.inl k)) => kobj sc k
  | _ => none
def getF (sc : SC) (h : AH) (v : AV) (c k : Nat) : Option AV := match oget sc h v with
  | some (.inl (c', fs)) => if c' = c then fs[k]? else none
  | _ => none
/-- a field of an object that was made is written -/
def putF (h : AH) (p c k t : Nat) (v : AV) : Option AH := match hget h p with
  | some (.inl (c', fs)) => if c' = c ∧ k < fs.length ∧ fitK t v = true then some (hset h p (.inl (c', fs.set k v))) else none
  | _ => none
def ldI (sc : SC) (h : AH) (t : Nat → Bool) (v : AV) (i : Int32) : Option Int32 := match oget sc h v with
  | some (.inr (.inl (t', n, f))) => if t t' = true ∧ inb i n = true then some (f i.toNatClampNeg) else none
  | _ => none
def stI (h : AH) (t : Nat → Bool) (p : Nat) (i x : Int32) : Option AH := match hget h p with
  | some (.inr (.inl (t', n, f))) => if t t' = true ∧ inb i n = true then some (hset h p (.inr (.inl (t', n, upd f i.toNatClampNeg (narK t' x))))) else none
  | _ => none
def lenA (sc : SC) (h : AH) (v : AV) : Option Nat := match oget sc h v with
  | some (.inr (.inl (_, n, _))) => some n
  | some (.inr (.inr (.inr (.inr (n, _))))) => some n
  | _ => none
def ldR (sc : SC) (h : AH) (v : AV) (i : Int32) : Option AV := match oget sc h v with
  | some (.inr (.inr (.inr (.inr (n, f))))) => if inb i n = true ∧ aObj (f i.toNatClampNeg) = true then some (f i.toNatClampNeg) else none
  | _ => none
def stR (h : AH) (p : Nat) (i : Int32) (v : AV) : Option AH := match hget h p, v with
  | some (.inr (.inr (.inr (.inr (n, f))))), .inr (.inl k) => match hget h k with
    | some (.inl (c, _)) => if inb i n = true ∧ c = ciProg then some (hset h p (.inr (.inr (.inr (.inr (n, fun j => if j = i.toNatClampNeg then .inr (.inl k) else f j)))))) else none
    | _ => none
  | _, _ => none
def cpy (f g : Nat → Int32) (sp dp n : Nat) : Nat → Int32 := va_cpy f g sp dp n
/-- what arraycopy does: a row of numbers into a row of the same kind -/
def copyA (sc : SC) (h : AH) (v : AV) (sp : Int32) (q : Nat) (dp n : Int32) : Option AH := match oget sc h v, hget h q with
  | some (.inr (.inl (t, n0, f))), some (.inr (.inl (t', n1, g))) => if t = t' ∧ (t = 2 ∨ (t = 0 ∧ (match v with | .inr (.inl _) => true | _ => false) = true)) ∧ ¬ sp < 0 ∧ ¬ dp < 0 ∧ ¬ n < 0 ∧ sp.toNatClampNeg + n.toNatClampNeg ≤ n0 ∧ dp.toNatClampNeg + n.toNatClampNeg ≤ n1 ∧ (if t = 0 then true else (List.range n.toNatClampNeg).all (fun i => decide (narK t (f (sp.toNatClampNeg + i)) = f (sp.toNatClampNeg + i)))) = true then some (hset h q (.inr (.inl (t', n1, cpy f g sp.toNatClampNeg dp.toNatClampNeg n.toNatClampNeg)))) else none
  | _, _ => none
/-- the tag of a new row -/
def newT (a : ArrayType) (n : Nat) : Option AO := match a with
  | .int => some (oI 0 n (fun _ => 0))
  | .char => some (oI 1 n (fun _ => 0))
  | .byte => some (oI 2 n (fun _ => 0))
  | .boolean => some (oI 3 n (fun _ => 0))
  | .long => some (oL n (fun _ => 0))
  | .double => some (oE n (fun _ => 0))
  | _ => none
/-- the call's rest: method y by kind kd, the arguments out of the stack -/
def callA (sc : SC) (mi : MI) (y kd pc : Nat) (L : List AV) (dl : DL) (st : List AV) (h : AH) : Option Act := match MT y with
  | some my => if mNa my ≤ st.length ∧ mRk my < mRk mi ∧ aWt (st.drop (mNa my)) ≤ 8 ∧ ((st.take (mNa my)).all fun v => aCat v == 1) = true then
      (if kd = 0 ∨ kd = 3 ∨ kd = 4 then
        (match (st.take (mNa my)).getLast? with
          | some v => match oget sc h v with
            | some (.inl (c, _)) => if c = mRci my then some (.inr (.inr (.inl (y, kd, (st.take (mNa my)).reverse, (pc + 3, L, dl, st.drop (mNa my), h))))) else none
            | _ => none
          | none => none)
       else if kd = 2 ∨ kd = 5 then
        (match (st.take (mNa my)).getLast? with
          | some v => if aObj v = true then some (.inr (.inr (.inl (y, kd, (st.take (mNa my)).reverse, (pc + 3, L, dl, st.drop (mNa my), h))))) else none
          | none => none)
       else some (.inr (.inr (.inl (y, kd, (st.take (mNa my)).reverse, (pc + 3, L, dl, st.drop (mNa my), h))))))
    else none
  | none => none
def throwA (mi : MI) (pc E : Nat) (L : List AV) (st : List AV) (h : AH) : Option Act :=
  if mHH mi = [] ∧ aWt st ≤ 8 then
    match decode (mB mi) (pc + 3), decode (mB mi) (pc + 4) with
    | .ok (.dup, 1), .ok (.ldc a, 2) => match decode (mB mi) (pc + 6), decode (mB mi) (pc + 9), rs (mCn mi) a with
      | .ok (.invokespecial b, 3), .ok (.athrow, 1), some (8, _) => match rs (mCn mi) b with
        | some (9, E', _) => if E' = E then some (.inr (.inr (.inr (E, (h.1, h.2 + 1))))) else none
        | _ => none
      | _, _, _ => none
    | .ok (.dup, 1), .ok (.ldc_w a, 3) => match decode (mB mi) (pc + 7), decode (mB mi) (pc + 10), rs (mCn mi) a with
      | .ok (.invokespecial b, 3), .ok (.athrow, 1), some (8, _) => match rs (mCn mi) b with
        | some (9, E', _) => if E' = E then some (.inr (.inr (.inr (E, (h.1, h.2 + 1))))) else none
        | _ => none
      | _, _, _ => none
    | _, _ => none
  else none
def kOK (iv kd : Nat) : Bool := match iv, kd with
  | 0, 0 => true
  | 0, 3 => true
  | 1, 2 => true
  | 1, 4 => true
  | 1, 5 => true
  | 2, 1 => true
  | 2, 6 => true
  | _, _ => false
/-- an invocation (iv: 0 virtual, 1 special, 2 static) -/
def invA (sc : SC) (mi : MI) (iv : Nat) (idx pc : Nat) (L : List AV) (dl : DL) (st : List AV) (h : AH) : Option Act := match rs (mCn mi) idx with
  | some (2, y, kd, _) => if kOK iv kd = true then callA sc mi y kd pc L dl st h else none
  | some (6, _) => if iv ≠ 1 then none else match st with
    | v :: r => if aObj v = true ∧ aWt r ≤ 8 then go (pc + 3) L dl r h else none
    | [] => none
  | some (11, f, _) => if iv ≠ 2 then none else match f, st with
    | 0, .inl y :: .inl x :: r => if aWt r ≤ 8 then go (pc + 3) L dl (aI (if y < x then y else x) :: r) h else none
    | 1, .inl y :: .inl x :: r => if aWt r ≤ 8 then go (pc + 3) L dl (aI (if x < y then y else x) :: r) h else none
    | 2, .inl x :: r => if aWt r ≤ 8 then go (pc + 3) L dl (aI (if 0 ≤ x then x else 0 - x) :: r) h else none
    | _, _ => none
  | some (7, _) => if iv ≠ 2 then none else match st with
    | .inl n :: .inl dp :: .inr (.inl q) :: .inl sp :: v :: r => if aWt r ≤ 8 then (match copyA sc h v sp q dp n with
        | some h' => go (pc + 3) L dl r h'
        | none => none) else none
    | _ => none
  | _ => none
/-- a final field is written in the constructor of its class alone -/
def finOK (mi : MI) (c k : Nat) : Bool := !((FNl.getD c []).getD k true) || Nat.beq (mIni mi) c
def icmp (P : Int32 → Int32 → Prop) [∀ x y, Decidable (P x y)] (pc : Nat) (off : Int) (L : List AV) (dl : DL) (st : List AV) (h : AH) : Option Act := match st, tgt pc off with
  | .inl y :: .inl x :: r, some t => go (if P x y then t else pc + 3) L dl r h
  | _, _ => none
/-- the answer's kind, as the method has it -/
def retA (r : Option FieldType) : Bool := match r with
  | some (.object _) => true
  | some (.array _) => true
  | _ => false
def retD (r : Option FieldType) : Bool := match r with
  | some .double => true
  | _ => false
def retF (r : Option FieldType) : Bool := match r with
  | some .float => true
  | _ => false
def retV (r : Option FieldType) : Bool := match r with
  | none => true
  | _ => false
/-- one step: what the instruction ins at pc does -/
def st1 (sc : SC) (mi : MI) (ins : Instr) (len pc : Nat) (L : List AV) (dl : DL) (st : List AV) (h : AH) : Option Act := match ins with
  | .aconst_null => go (pc + 1) L dl (aN :: st) h
  | .iconst n => go (pc + 1) L dl (aI (Int32.ofInt n) :: st) h
  | .bipush n => go (pc + 2) L dl (aI (Int8.ofInt n).toInt32 :: st) h
  | .sipush n => go (pc + 3) L dl (aI (Int16.ofInt n).toInt32 :: st) h
  | .lconst n => go (pc + 1) L dl (aL (Int64.ofNat (n : Nat)) :: st) h
  | .ldc a => match rs (mCn mi) a with
    | some (5, i, _) => match SVl[i]? with
      | some (.inl x) => go (pc + 2) L dl (aI x :: st) h
      | _ => none
    | _ => none
  | .ldc_w a => match rs (mCn mi) a with
    | some (5, i, _) => match SVl[i]? with
      | some (.inl x) => go (pc + 3) L dl (aI x :: st) h
      | _ => none
    | _ => none
  | .iload k => nl L k 2 pc dl st h
  | .iload_n k => nl L k 1 pc dl st h
  | .aload k => al L k 2 pc dl st h
  | .aload_n k => al L k 1 pc dl st h
  | .fload k => fl L k 2 pc dl st h
  | .fload_n k => fl L k 1 pc dl st h
  | .dload k => el L k 2 pc dl st h
  | .dload_n k => el L k 1 pc dl st h
  | .istore k => ns (mL mi) L k 2 pc dl st h
  | .istore_n k => ns (mL mi) L k 1 pc dl st h
  | .astore k => as' (mL mi) L k 2 pc dl st h
  | .astore_n k => as' (mL mi) L k 1 pc dl st h
  | .fstore k => fs' (mL mi) L k 2 pc dl st h
  | .fstore_n k => fs' (mL mi) L k 1 pc dl st h
  | .dstore k => es (mL mi) L k 2 pc st h
  | .dstore_n k => es (mL mi) L k 1 pc st h
  | .iinc k n => match L[k]? with
    | some (.inl x) => if k < mL mi then go (pc + 3) (L.set k (aI (x + Int32.ofInt n))) (dlc k dl) st h else none
    | _ => none
  | .iadd => bin (fun x y => x + y) pc L dl st h
  | .isub => bin (fun x y => x - y) pc L dl st h
  | .imul => bin (fun x y => x * y) pc L dl st h
  | .iand => bin (fun x y => x &&& y) pc L dl st h
  | .ior => bin (fun x y => x ||| y) pc L dl st h
  | .ixor => bin (fun x y => x ^^^ y) pc L dl st h
  | .ishl => bin (fun x y => x <<< (y &&& 31)) pc L dl st h
  | .ishr => bin (fun x y => x >>> (y &&& 31)) pc L dl st h
  | .iushr => bin (fun x y => (x.toUInt32 >>> (y.toUInt32 &&& Int32.toUInt32 31)).toInt32) pc L dl st h
  | .idiv => match st with
    | .inl y :: .inl x :: r => if y = 0 then none else go (pc + 1) L dl (aI (x / y) :: r) h
    | _ => none
  | .irem => match st with
    | .inl y :: .inl x :: r => if y = 0 then none else go (pc + 1) L dl (aI (x - x / y * y) :: r) h
    | _ => none
  | .ineg => una (fun x => aI (-x)) pc L dl st h
  | .i2l => una (fun x => aL x.toInt64) pc L dl st h
  | .i2b => una (fun x => aI x.toInt8.toInt32) pc L dl st h
  | .i2c => una (fun x => aI (x.toUInt32 % 65536).toInt32) pc L dl st h
  | .i2d => una (fun x => aE (FP.i2d x)) pc L dl st h
  | .i2f => una (fun x => aF (FP.i2f x)) pc L dl st h
  | .f2d => match st with
    | .inr (.inr (.inr (.inr (.inr (.inr (.inl x)))))) :: r => if FP.f2d x &&& 0x7fffffffffffffff ≤ 0x7ff0000000000000 then go (pc + 1) L dl (aE (FP.f2d x) :: r) h else none
    | _ => none
  | .ddiv => match st with
    | .inr (.inr (.inr (.inr (.inr (.inl y))))) :: .inr (.inr (.inr (.inr (.inr (.inl x))))) :: r => if FP.ddiv x y &&& 0x7fffffffffffffff ≤ 0x7ff0000000000000 then go (pc + 1) L dl (aE (FP.ddiv x y) :: r) h else none
    | _ => none
  | .fdiv => match st with
    | .inr (.inr (.inr (.inr (.inr (.inr (.inl y)))))) :: .inr (.inr (.inr (.inr (.inr (.inr (.inl x)))))) :: r => if FP.fdiv x y &&& 0x7fffffff ≤ 0x7f800000 then go (pc + 1) L dl (aF (FP.fdiv x y) :: r) h else none
    | _ => none
  | .dcmp op => match st with
    | .inr (.inr (.inr (.inr (.inr (.inl y))))) :: .inr (.inr (.inr (.inr (.inr (.inl x))))) :: r => go (pc + 1) L dl (aI (Op.cmpValue (FP.dcmp x y) op) :: r) h
    | _ => none
  | .lcmp => match st with
    | .inr (.inr (.inr (.inr (.inl y)))) :: .inr (.inr (.inr (.inr (.inl x)))) :: r => go (pc + 1) L dl (aI (if x < y then -1 else if x = y then 0 else 1) :: r) h
    | _ => none
  | .dup => match st with
    | v :: r => if aCat v = 1 then go (pc + 1) L dl (v :: v :: r) h else none
    | _ => none
  | .dup2 => match st with
    | v :: w :: r => if aCat v = 1 ∧ aCat w = 1 then go (pc + 1) L dl (v :: w :: v :: w :: r) h else none
    | _ => none
  | .dup_x1 => match st with
    | v :: w :: r => if aCat v = 1 ∧ aCat w = 1 then go (pc + 1) L dl (v :: w :: v :: r) h else none
    | _ => none
  | .pop => match st with
    | v :: r => if aCat v = 1 then go (pc + 1) L dl r h else none
    | _ => none
  | .if_icmp .eq off => icmp (fun x y => x = y) pc off L dl st h
  | .if_icmp .ne off => icmp (fun x y => ¬ x = y) pc off L dl st h
  | .if_icmp .lt off => icmp (fun x y => x < y) pc off L dl st h
  | .if_icmp .ge off => icmp (fun x y => y ≤ x) pc off L dl st h
  | .if_icmp .gt off => icmp (fun x y => y < x) pc off L dl st h
  | .if_icmp .le off => icmp (fun x y => x ≤ y) pc off L dl st h
  | .ifCond .eq off => icmp (fun x y => x = y) pc off L dl (aI 0 :: st) h
  | .ifCond .ne off => icmp (fun x y => ¬ x = y) pc off L dl (aI 0 :: st) h
  | .ifCond .lt off => icmp (fun x y => x < y) pc off L dl (aI 0 :: st) h
  | .ifCond .ge off => icmp (fun x y => y ≤ x) pc off L dl (aI 0 :: st) h
  | .ifCond .gt off => icmp (fun x y => y < x) pc off L dl (aI 0 :: st) h
  | .ifCond .le off => icmp (fun x y => x ≤ y) pc off L dl (aI 0 :: st) h
  | .if_acmp .eq off => match st, tgt pc off with
    | .inr (.inr (.inl j)) :: .inr (.inr (.inl i)) :: r, some t => if 1 ≤ i ∧ i < 13 ∧ 1 ≤ j ∧ j < 13 then go (if i = j then t else pc + 3) L dl r h else none
    | _, _ => none
  | .if_acmp .ne off => match st, tgt pc off with
    | .inr (.inr (.inl j)) :: .inr (.inr (.inl i)) :: r, some t => if 1 ≤ i ∧ i < 13 ∧ 1 ≤ j ∧ j < 13 then go (if ¬ i = j then t else pc + 3) L dl r h else none
    | _, _ => none
  | .ifnull off => match st, tgt pc off with
    | .inr (.inl _) :: r, some _ => go (pc + 3) L dl r h
    | .inr (.inr (.inl _)) :: r, some _ => go (pc + 3) L dl r h
    | _, _ => none
  | .ifnonnull off => match st, tgt pc off with
    | .inr (.inl _) :: r, some t => go t L dl r h
    | .inr (.inr (.inl _)) :: r, some t => go t L dl r h
    | _, _ => none
  | .goto off => match tgt pc off with
    | some t => go t L dl st h
    | none => none
  | .tableswitch d lo hi offs => match st with
    | .inl x :: r => if x.toInt < lo ∨ hi < x.toInt then (match tgt pc d with
        | some t => go t L dl r h
        | none => none) else (match offs[(x.toInt - lo).toNat]? with
        | some off => (match tgt pc off with
          | some t => go t L dl r h
          | none => none)
        | none => none)
    | _ => none
  | .getfield a => match st, rs (mCn mi) a with
    | v :: r, some (0, c, k, _) => match getF sc h v c k with
      | some w => if aUnk w = true then none else go (pc + 3) L dl (w :: r) h
      | none => none
    | _, _ => none
  | .putfield a => match st, rs (mCn mi) a with
    | v :: .inr (.inl p) :: r, some (0, c, k, _) => match FTl[c]? with
      | some ts => match ts[k]? with
        | some t => if finOK mi c k = true then (match putF h p c k t v with
          | some h' => go (pc + 3) L dl r h'
          | none => none) else none
        | none => none
      | none => none
    | _, _ => none
  | .getstatic a => match rs (mCn mi) a with
    | some (1, i, _) => match SVl[i]? with
      | some v => go (pc + 3) L dl (v :: st) h
      | none => none
    | _ => none
  | .iaload => match st with
    | .inl i :: v :: r => match ldI sc h (fun t => t == 0) v i with
      | some x => go (pc + 1) L dl (aI x :: r) h
      | none => none
    | _ => none
  | .caload => match st with
    | .inl i :: v :: r => match ldI sc h (fun t => t == 1) v i with
      | some x => go (pc + 1) L dl (aI x :: r) h
      | none => none
    | _ => none
  | .baload => match st with
    | .inl i :: v :: r => match ldI sc h (fun t => t == 2 || t == 3) v i with
      | some x => go (pc + 1) L dl (aI x :: r) h
      | none => none
    | _ => none
  | .laload => match st with
    | .inl i :: .inr (.inl p) :: r => match hget h p with
      | some (.inr (.inr (.inl (n, f)))) => if inb i n = true then go (pc + 1) L dl (aL (f i.toNatClampNeg) :: r) h else none
      | _ => none
    | _ => none
  | .daload => match st with
    | .inl i :: .inr (.inl p) :: r => match hget h p with
      | some (.inr (.inr (.inr (.inl (n, f))))) => if inb i n = true then go (pc + 1) L dl (aE (f i.toNatClampNeg) :: r) h else none
      | _ => none
    | _ => none
  | .aaload => match st with
    | .inl i :: v :: r => match ldR sc h v i with
      | some w => go (pc + 1) L dl (w :: r) h
      | none => none
    | _ => none
  | .iastore => match st with
    | .inl x :: .inl i :: .inr (.inl p) :: r => match stI h (fun t => t == 0) p i x with
      | some h' => go (pc + 1) L dl r h'
      | none => none
    | _ => none
  | .castore => match st with
    | .inl x :: .inl i :: .inr (.inl p) :: r => match stI h (fun t => t == 1) p i x with
      | some h' => go (pc + 1) L dl r h'
      | none => none
    | _ => none
  | .bastore => match st with
    | .inl x :: .inl i :: .inr (.inl p) :: r => match stI h (fun t => t == 2 || t == 3) p i x with
      | some h' => go (pc + 1) L dl r h'
      | none => none
    | _ => none
  | .lastore => match st with
    | .inr (.inr (.inr (.inr (.inl x)))) :: .inl i :: .inr (.inl p) :: r => match hget h p with
      | some (.inr (.inr (.inl (n, f)))) => if inb i n = true then go (pc + 1) L dl r (hset h p (oL n (vp_updL f i.toNatClampNeg x))) else none
      | _ => none
    | _ => none
  | .dastore => match st with
    | .inr (.inr (.inr (.inr (.inr (.inl x))))) :: .inl i :: .inr (.inl p) :: r => match hget h p with
      | some (.inr (.inr (.inr (.inl (n, f))))) => if inb i n = true then go (pc + 1) L dl r (hset h p (oE n (vf_upd f i.toNatClampNeg x))) else none
      | _ => none
    | _ => none
  | .aastore => match st with
    | v :: .inl i :: .inr (.inl p) :: r => match stR h p i v with
      | some h' => go (pc + 1) L dl r h'
      | none => none
    | _ => none
  | .arraylength => match st with
    | v :: r => match lenA sc h v with
      | some n => go (pc + 1) L dl (aI (nI n) :: r) h
      | none => none
    | _ => none
  | .newarray a => match st with
    | .inl n :: r => if n < 0 ∨ 67108864 < n.toNatClampNeg then none else match newT a n.toNatClampNeg with
      | some o => go (pc + 2) L dl (aD h.1.length :: r) (hpush h o)
      | none => none
    | _ => none
  | .anewarray a => match st, rs (mCn mi) a with
    | .inl n :: r, some (3, c, _, _) => if n < 0 ∨ 67108864 < n.toNatClampNeg ∨ ¬ c = ciProg then none else go (pc + 3) L dl (aD h.1.length :: r) (hpush h (oR n.toNatClampNeg (fun _ => aN)))
    | _, _ => none
  | .new a => match rs (mCn mi) a with
    | some (3, c, _, _) => match FTl[c]? with
      | some ts => go (pc + 3) L dl (aD h.1.length :: st) (hpush h (oO c (ts.map dfl)))
      | none => none
    | some (4, E, _, _) => throwA mi pc E L st h
    | _ => none
  | .invokevirtual a => invA sc mi 0 a pc L dl st h
  | .invokespecial a => invA sc mi 1 a pc L dl st h
  | .invokestatic a => invA sc mi 2 a pc L dl st h
  | .ireturn => match st with
    | .inl x :: _ => if retK (mRet mi) x = true then some (.inr (.inl (some (aI x), h))) else none
    | _ => none
  | .areturn => match st with
    | v :: _ => if aObj v = true ∧ retA (mRet mi) = true then some (.inr (.inl (some v, h))) else none
    | _ => none
  | .dreturn => match st with
    | .inr (.inr (.inr (.inr (.inr (.inl x))))) :: _ => if retD (mRet mi) = true then some (.inr (.inl (some (aE x), h))) else none
    | _ => none
  | .freturn => match st with
    | .inr (.inr (.inr (.inr (.inr (.inr (.inl x)))))) :: _ => if retF (mRet mi) = true then some (.inr (.inl (some (aF x), h))) else none
    | _ => none
  | .return_ => if retV (mRet mi) = true then some (.inr (.inl (none, h))) else none
  | _ => none
def lenOK (ins : Instr) (len : Nat) : Bool := match ins with
  | .bipush _ | .ldc _ | .iload _ | .aload _ | .fload _ | .dload _ | .istore _ | .astore _ | .fstore _ | .dstore _ | .newarray _ => Nat.beq len 2
  | .sipush _ | .ldc_w _ | .iinc _ _ | .if_icmp _ _ | .ifCond _ _ | .if_acmp _ _ | .ifnull _ | .ifnonnull _ | .goto _ | .getfield _ | .putfield _ | .getstatic _ | .new _ | .anewarray _ | .invokevirtual _ | .invokespecial _ | .invokestatic _ => Nat.beq len 3
  | .tableswitch _ _ _ _ => true
  | _ => Nat.beq len 1
def stp (sc : SC) (mi : MI) (pc : Nat) (L : List AV) (dl : DL) (st : List AV) (h : AH) : Option Act := match decode (mB mi) pc with
  | .ok (ins, len) => if lenOK ins len = true then st1 sc mi ins len pc L dl st h else none
  | .error _ => none
/-- where a throw of E at pc goes: the local that takes it, and the next instruction; none inside: it leaves; none: not known -/
def hnd (mi : MI) (pc E : Nat) : List (Nat × Nat × Nat × Nat) → Option (Option (Nat × Nat))
  | [] => some none
  | r :: l => if r.1 ≤ pc ∧ pc < r.2.1 then
      (match rs (mCn mi) r.2.2.2 with
        | some (4, E', _) => if E' = E then
            (match decode (mB mi) r.2.2.1 with
              | .ok (.astore_n k, 1) => if (k : Nat) < mL mi then some (some ((k : Nat), r.2.2.1 + 1)) else none
              | .ok (.astore k, 2) => if k < mL mi then some (some (k, r.2.2.1 + 2)) else none
              | _ => none)
          else hnd mi pc E l
        | _ => none)
    else hnd mi pc E l
def ex (sc : SC) : Nat → Nat → Nat → List AV → DL → List AV → AH → Option Res
  | 0, _, _, _, _, _, _ => none
  | n + 1, k, pc, L, dl, st, h => match MT k with
    | none => none
    | some mi => match stp sc mi pc L dl st h with
      | none => none
      | some (.inl c) => ex sc n k c.1 c.2.1 c.2.2.1 c.2.2.2.1 c.2.2.2.2
      | some (.inr (.inl r)) => some (.inl r.1, r.2)
      | some (.inr (.inr (.inl (y, kd, args, c)))) => match MT y with
        | none => none
        | some my => match ex sc n y 0 (ent (mL my) args) none [] c.2.2.2.2 with
          | none => none
          | some (.inl v, h1) => ex sc n k c.1 c.2.1 c.2.2.1 (v.toList ++ c.2.2.2.1) h1
          | some (.inr E, h1) => if kd = 0 ∨ kd = 1 then
              (match hnd mi pc E (mHH mi) with
                | some none => some (.inr E, h1)
                | some (some (i, t)) => ex sc n k t (c.2.1.set i aU) (dlc i c.2.2.1) [] h1
                | none => none)
            else none
      | some (.inr (.inr (.inr r))) => some (.inr r.1, r.2)
