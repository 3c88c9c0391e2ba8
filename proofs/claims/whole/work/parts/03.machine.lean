/-! THE ABSTRACT MACHINE: values, objects, one step of an instruction. Places of objects are numbers (aD p: the p-th object made), constants of the launch are numbers (aC k). -/
abbrev AV : Type := Int32 ⊕ Nat ⊕ Nat ⊕ Unit ⊕ Int64 ⊕ UInt64 ⊕ UInt32 ⊕ Unit
abbrev aI (x : Int32) : AV := .inl x
abbrev aD (p : Nat) : AV := .inr (.inl p)
abbrev aC (k : Nat) : AV := .inr (.inr (.inl k))
abbrev aN : AV := .inr (.inr (.inr (.inl ())))
abbrev aL (x : Int64) : AV := .inr (.inr (.inr (.inr (.inl x))))
abbrev aE (x : UInt64) : AV := .inr (.inr (.inr (.inr (.inr (.inl x)))))
abbrev aF (x : UInt32) : AV := .inr (.inr (.inr (.inr (.inr (.inr (.inl x))))))
abbrev aU : AV := .inr (.inr (.inr (.inr (.inr (.inr (.inr ()))))))
/-- objects: (class, fields), rows of whole numbers (kind 0 int, 1 char, 2 byte, 3 boolean), of longs, of doubles, of references -/
abbrev AO : Type := (Nat × List AV) ⊕ (Nat × Nat × (Nat → Int32)) ⊕ (Nat × (Nat → Int64)) ⊕ (Nat × (Nat → UInt64)) ⊕ (Nat × (Nat → AV))
abbrev oO (c : Nat) (fs : List AV) : AO := .inl (c, fs)
abbrev oI (t n : Nat) (f : Nat → Int32) : AO := .inr (.inl (t, n, f))
abbrev oL (n : Nat) (f : Nat → Int64) : AO := .inr (.inr (.inl (n, f)))
abbrev oE (n : Nat) (f : Nat → UInt64) : AO := .inr (.inr (.inr (.inl (n, f))))
abbrev oR (n : Nat) (f : Nat → AV) : AO := .inr (.inr (.inr (.inr (n, f))))
/-- the objects made, and how many exceptions were made beside them -/
abbrev AH : Type := List AO × Nat
/-- the script -/
abbrev SC : Type := Nat × (Nat → Int32)
abbrev DL : Type := Option (Nat × UInt64)
/-- a method: class number, class, name, code, locals, answer, handlers, arguments (with the receiver), class of the receiver's object, rank, the class that it constructs -/
abbrev MI : Type := Nat × String × MethodName × ByteArray × Nat × Option FieldType × List (Nat × Nat × Nat × Nat) × Nat × Nat × Nat × Nat
abbrev mCn (m : MI) : Nat := m.1
abbrev mOwn (m : MI) : String := m.2.1
abbrev mY (m : MI) : MethodName := m.2.2.1
abbrev mB (m : MI) : ByteArray := m.2.2.2.1
abbrev mL (m : MI) : Nat := m.2.2.2.2.1
abbrev mRet (m : MI) : Option FieldType := m.2.2.2.2.2.1
abbrev mHH (m : MI) : List (Nat × Nat × Nat × Nat) := m.2.2.2.2.2.2.1
abbrev mNa (m : MI) : Nat := m.2.2.2.2.2.2.2.1
abbrev mRci (m : MI) : Nat := m.2.2.2.2.2.2.2.2.1
abbrev mRk (m : MI) : Nat := m.2.2.2.2.2.2.2.2.2.1
abbrev mIni (m : MI) : Nat := m.2.2.2.2.2.2.2.2.2.2
/-- what an entry of a constant pool is: a tag and two numbers -/
abbrev RS : Type := Nat × Nat × Nat
abbrev Cfg : Type := Nat × List AV × DL × List AV × AH
/-- go on, answer, call (method, kind of the call, arguments, where it goes on), throw -/
abbrev Act : Type := Cfg ⊕ (Option AV × AH) ⊕ (Nat × Nat × List AV × Cfg) ⊕ (Nat × AH)
abbrev Res : Type := (Option AV ⊕ Nat) × AH
def go (pc : Nat) (L : List AV) (dl : DL) (st : List AV) (h : AH) : Option Act := some (.inl (pc, L, dl, st, h))
def aCat (v : AV) : Nat := match v with
  | .inr (.inr (.inr (.inr (.inl _)))) => 2
  | .inr (.inr (.inr (.inr (.inr (.inl _))))) => 2
  | _ => 1
def aWt (st : List AV) : Nat := (st.map aCat).sum
/-- is it a reference (or null) -/
def aRef (v : AV) : Bool := match v with
  | .inr (.inl _) => true
  | .inr (.inr (.inl _)) => true
  | .inr (.inr (.inr (.inl _))) => true
  | _ => false
def aObj (v : AV) : Bool := match v with
  | .inr (.inl _) => true
  | .inr (.inr (.inl _)) => true
  | _ => false
def aUnk (v : AV) : Bool := match v with
  | .inr (.inr (.inr (.inr (.inr (.inr (.inr _)))))) => true
  | _ => false
/-- the double in the locals is gone where one of its two places is written -/
def dlc (k : Nat) (dl : DL) : DL := match dl with
  | some (i, x) => if k = i ∨ k = i + 1 then none else some (i, x)
  | none => none
def tgt (pc : Nat) (off : Int) : Option Nat := if 0 ≤ (pc : Int) + off then some ((pc : Int) + off).toNat else none
def inb (i : Int32) (n : Nat) : Bool := decide (¬ (i < 0 ∨ n ≤ i.toNatClampNeg))
def hget (h : AH) (p : Nat) : Option AO := h.1[p]?
def hset (h : AH) (p : Nat) (o : AO) : AH := (h.1.set p o, h.2)
def hpush (h : AH) (o : AO) : AH := (h.1 ++ [o], h.2)
def osize (o : AO) : Nat := match o with
  | .inl (_, fs) => fs.length
  | .inr (.inl (_, n, _)) => n
  | .inr (.inr (.inl (n, _))) => n
  | .inr (.inr (.inr (.inl (n, _)))) => n
  | .inr (.inr (.inr (.inr (n, _)))) => n
def costC (h : AH) : Nat := h.1.length + h.2
def costS (h : AH) : Nat := (h.1.map osize).sum + 6 * h.2
/-- may v stand in a field of this kind: 0 int, 1 boolean, 2 byte, 3 a reference -/
def fitK (t : Nat) (v : AV) : Bool := match t, v with
  | 0, .inl _ => true
  | 1, .inl x => decide (x = 0) || decide (x = 1)
  | 2, .inl x => decide (x = 0) || decide (x = 1)
  | 3, v => aRef v
  | _, _ => false
/-- the kind that a row of numbers narrows to -/
def narK (t : Nat) (x : Int32) : Int32 := match t with
  | 0 => x
  | 1 => vp_nar .char x
  | 2 => vp_nar .byte x
  | _ => vp_nar .boolean x
/-- a constant's own answer of a method's kind: what an ireturn narrows -/
def retK (r : Option FieldType) (x : Int32) : Bool := match r with
  | some .int => true
  | some .boolean => decide (x = 0) || decide (x = 1)
  | some .char => decide (narrow .char (.int x) = .int x)
  | some .byte => decide (x = 0) || decide (x = 1)
  | _ => false
def nl (L : List AV) (k : Nat) (n pc : Nat) (dl : DL) (st : List AV) (h : AH) : Option Act := match L[k]? with
  | some (.inl x) => go (pc + n) L dl (.inl x :: st) h
  | _ => none
def al (L : List AV) (k : Nat) (n pc : Nat) (dl : DL) (st : List AV) (h : AH) : Option Act := match L[k]? with
  | some v => if aObj v = true then go (pc + n) L dl (v :: st) h else none
  | _ => none
def fl (L : List AV) (k : Nat) (n pc : Nat) (dl : DL) (st : List AV) (h : AH) : Option Act := match L[k]? with
  | some (.inr (.inr (.inr (.inr (.inr (.inr (.inl x))))))) => go (pc + n) L dl (aF x :: st) h
  | _ => none
def el (L : List AV) (k : Nat) (n pc : Nat) (dl : DL) (st : List AV) (h : AH) : Option Act := match dl with
  | some (i, x) => if i = k then go (pc + n) L dl (aE x :: st) h else none
  | _ => none
def ns (m : Nat) (L : List AV) (k : Nat) (n pc : Nat) (dl : DL) (st : List AV) (h : AH) : Option Act := match st with
  | .inl x :: r => if k < m then go (pc + n) (L.set k (.inl x)) (dlc k dl) r h else none
  | _ => none
def as' (m : Nat) (L : List AV) (k : Nat) (n pc : Nat) (dl : DL) (st : List AV) (h : AH) : Option Act := match st with
  | v :: r => if aObj v = true ∧ k < m then go (pc + n) (L.set k v) (dlc k dl) r h else none
  | _ => none
def fs' (m : Nat) (L : List AV) (k : Nat) (n pc : Nat) (dl : DL) (st : List AV) (h : AH) : Option Act := match st with
  | .inr (.inr (.inr (.inr (.inr (.inr (.inl x)))))) :: r => if k < m then go (pc + n) (L.set k (aF x)) (dlc k dl) r h else none
  | _ => none
def es (m : Nat) (L : List AV) (k : Nat) (n pc : Nat) (st : List AV) (h : AH) : Option Act := match st with
  | .inr (.inr (.inr (.inr (.inr (.inl x))))) :: r => if k + 1 < m then go (pc + n) ((L.set k aU).set (k + 1) aU) (some (k, x)) r h else none
  | _ => none
def bin (f : Int32 → Int32 → Int32) (pc : Nat) (L : List AV) (dl : DL) (st : List AV) (h : AH) : Option Act := match st with
  | .inl y :: .inl x :: r => go (pc + 1) L dl (.inl (f x y) :: r) h
  | _ => none
def una (f : Int32 → AV) (pc : Nat) (L : List AV) (dl : DL) (st : List AV) (h : AH) : Option Act := match st with
  | .inl x :: r => go (pc + 1) L dl (f x :: r) h
  | _ => none
def br2 (P : Int32 → Int32 → Bool) (pc : Nat) (off : Int) (L : List AV) (dl : DL) (st : List AV) (h : AH) : Option Act := match st, tgt pc off with
  | .inl y :: .inl x :: r, some t => go (if P x y = true then t else pc + 3) L dl r h
  | _, _ => none
def br1 (P : Int32 → Bool) (pc : Nat) (off : Int) (L : List AV) (dl : DL) (st : List AV) (h : AH) : Option Act := match st, tgt pc off with
  | .inl x :: r, some t => go (if P x = true then t else pc + 3) L dl r h
  | _, _ => none
/-- the entry of a body: the arguments, then what is not set -/
def ent (m : Nat) (args : List AV) : List AV := args ++ List.replicate (m - args.length) aU
