/-! EQUATIONS OF RUNS, AN INSTRUCTION EACH: what may fail stands as a bind -/
def bO {α : Type} (x : Option α) (f : α → Option Res) : Option Res := match x with
  | some y => f y
  | none => none
def bF (x : Option AV) (f : AV → Option Res) : Option Res := match x with
  | some y => if aUnk y = true then none else f y
  | none => none
def bC (r : Option Res) (f : Option AV → AH → Option Res) (x : Nat → AH → Option Res) : Option Res := match r with
  | none => none
  | some (.inl v, h1) => f v h1
  | some (.inr E, h1) => x E h1
def bI (c : Prop) [Decidable c] (f : Option Res) : Option Res := if c then f else none
theorem bO_some {α : Type} (y : α) (f : α → Option Res) : bO (some y) f = f y := rfl
theorem bF_I (y : Int32) (f : AV → Option Res) : bF (some (aI y)) f = f (aI y) := rfl
theorem bF_D (y : Nat) (f : AV → Option Res) : bF (some (aD y)) f = f (aD y) := rfl
theorem bF_C (y : Nat) (f : AV → Option Res) : bF (some (aC y)) f = f (aC y) := rfl
theorem bF_N (f : AV → Option Res) : bF (some aN) f = f aN := rfl
theorem bC_v (v : Option AV) (h1 : AH) (f : Option AV → AH → Option Res) (x : Nat → AH → Option Res) : bC (some (.inl v, h1)) f x = f v h1 := rfl
theorem bC_x (E : Nat) (h1 : AH) (f : Option AV → AH → Option Res) (x : Nat → AH → Option Res) : bC (some (.inr E, h1)) f x = x E h1 := rfl
theorem bI_t {c : Prop} [Decidable c] (h : c) (f : Option Res) : bI c f = f := if_pos h
theorem bI_f {c : Prop} [Decidable c] (h : ¬ c) (f : Option Res) : bI c f = none := if_neg h
theorem stp_ok {sc : SC} {mi : MI} {pc : Nat} {L : List AV} {dl : DL} {st : List AV} {h : AH} {ins : Instr} {len : Nat} {a : Option Act} (hd : decode (mB mi) pc = .ok (ins, len)) (ha : st1 sc mi ins len pc L dl st h = a) (hlen : lenOK ins len = true := by rfl) : stp sc mi pc L dl st h = a := by
  unfold stp
  rw [hd]
  simp only
  rw [if_pos hlen]
  exact ha
theorem Run_none {sc : SC} {k pc : Nat} {mi : MI} {L : List AV} {dl : DL} {st : List AV} {h : AH} (hm : MT k = some mi) (hs : stp sc mi pc L dl st h = none) : Run sc k pc L dl st h = none := by
  cases hr : Run sc k pc L dl st h with
  | none => rfl
  | some r =>
    obtain ⟨n, e⟩ := Run_iff.mp hr
    cases n with
    | zero => simp [ex] at e
    | succ n =>
      rw [ex] at e
      simp [hm, hs] at e
theorem Run_callN {sc : SC} {k pc y kd : Nat} {mi : MI} {L : List AV} {dl : DL} {st args : List AV} {h : AH} {c : Cfg} (hm : MT k = some mi) (hs : stp sc mi pc L dl st h = some (.inr (.inr (.inl (y, kd, args, c))))) (hr : Call sc y args c.2.2.2.2 = none) : Run sc k pc L dl st h = none := by
  cases hq : Run sc k pc L dl st h with
  | none => rfl
  | some r =>
    obtain ⟨n, e⟩ := Run_iff.mp hq
    cases n with
    | zero => simp [ex] at e
    | succ n =>
      rw [ex] at e
      simp only [hm, hs] at e
      unfold Call at hr
      cases hy : MT y with
      | none => simp [hy] at e
      | some my =>
        rw [hy] at hr
        simp only [hy] at e
        cases hz : ex sc n y 0 (ent (mL my) args) none [] c.2.2.2.2 with
        | none => simp [hz] at e
        | some z =>
          have h9 := Run_iff.mpr ⟨n, hz⟩
          have h8 : Run sc y 0 (ent (mL my) args) none [] c.2.2.2.2 = none := hr
          rw [h8] at h9
          cases h9
section
variable {sc : SC} {k pc : Nat} {mi : MI} {L : List AV} {dl : DL} {r : List AV} {h : AH}
theorem s_go {st : List AV} {ins : Instr} {len : Nat} {c : Cfg} (hm : MT k = some mi) (hd : decode (mB mi) pc = .ok (ins, len)) (ha : st1 sc mi ins len pc L dl st h = some (.inl c)) (hlen : lenOK ins len = true := by rfl) : Run sc k pc L dl st h = Run sc k c.1 c.2.1 c.2.2.1 c.2.2.2.1 c.2.2.2.2 := Run_go hm (stp_ok hd ha hlen)
theorem q_ret {st : List AV} {ins : Instr} {len : Nat} {c : Option AV × AH} (hm : MT k = some mi) (hd : decode (mB mi) pc = .ok (ins, len)) (ha : st1 sc mi ins len pc L dl st h = some (.inr (.inl c))) (hlen : lenOK ins len = true := by rfl) : Run sc k pc L dl st h = some (.inl c.1, c.2) := Run_ret hm (stp_ok hd ha hlen)
theorem q_iret {st : List AV} {x : Int32} (hm : MT k = some mi) (hd : decode (mB mi) pc = .ok (.ireturn, 1)) : Run sc k pc L dl (aI x :: st) h = bI (retK (mRet mi) x = true) (some (.inl (some (aI x)), h)) := by
  by_cases hx : retK (mRet mi) x = true
  · rw [bI_t hx]
    exact Run_ret (c := (some (aI x), h)) hm (stp_ok hd (by simp only [st1]; rw [if_pos hx]))
  · rw [bI_f hx]
    exact Run_none hm (stp_ok hd (by simp only [st1]; rw [if_neg hx]))
theorem q_getfield {v : AV} {a c i w : Nat} (hm : MT k = some mi) (hd : decode (mB mi) pc = .ok (.getfield a, 3)) (hr : rs (mCn mi) a = some (0, c, i, w)) : Run sc k pc L dl (v :: r) h = bF (getF sc h v c i) (fun x => Run sc k (pc + 3) L dl (x :: r) h) := by
  cases hg : getF sc h v c i with
  | none => exact Run_none hm (stp_ok hd (by simp only [st1, hr, hg]))
  | some x =>
    by_cases hu : aUnk x = true
    · show _ = if aUnk x = true then none else _
      rw [if_pos hu]
      exact Run_none hm (stp_ok hd (by simp only [st1, hr, hg]; rw [if_pos hu]))
    · show _ = if aUnk x = true then none else _
      rw [if_neg hu]
      exact Run_go (c := (pc + 3, L, dl, x :: r, h)) hm (stp_ok hd (by simp only [st1, hr, hg]; rw [if_neg hu]; rfl))
theorem q_putfield {v : AV} {p a c i w t : Nat} {ts : List Nat} (hm : MT k = some mi) (hd : decode (mB mi) pc = .ok (.putfield a, 3)) (hr : rs (mCn mi) a = some (0, c, i, w)) (ht : FTl[c]? = some ts) (ht2 : ts[i]? = some t) (hf : finOK mi c i = true) : Run sc k pc L dl (v :: aD p :: r) h = bO (putF h p c i t v) (fun h' => Run sc k (pc + 3) L dl r h') := by
  cases hg : putF h p c i t v with
  | none => exact Run_none hm (stp_ok hd (by simp only [st1, hr, ht, ht2, hf, if_true, hg]))
  | some x => exact Run_go (c := (pc + 3, L, dl, r, x)) hm (stp_ok hd (by simp only [st1, hr, ht, ht2, hf, if_true, hg]; rfl))
theorem q_iaload {v : AV} {i : Int32} (hm : MT k = some mi) (hd : decode (mB mi) pc = .ok (.iaload, 1)) : Run sc k pc L dl (aI i :: v :: r) h = bO (ldI sc h (fun t => t == 0) v i) (fun x => Run sc k (pc + 1) L dl (aI x :: r) h) := by
  cases hg : ldI sc h (fun t => t == 0) v i with
  | none => exact Run_none hm (stp_ok hd (by simp only [st1, hg]))
  | some x => exact Run_go (c := (pc + 1, L, dl, aI x :: r, h)) hm (stp_ok hd (by simp only [st1, hg]; rfl))
theorem q_caload {v : AV} {i : Int32} (hm : MT k = some mi) (hd : decode (mB mi) pc = .ok (.caload, 1)) : Run sc k pc L dl (aI i :: v :: r) h = bO (ldI sc h (fun t => t == 1) v i) (fun x => Run sc k (pc + 1) L dl (aI x :: r) h) := by
  cases hg : ldI sc h (fun t => t == 1) v i with
  | none => exact Run_none hm (stp_ok hd (by simp only [st1, hg]))
  | some x => exact Run_go (c := (pc + 1, L, dl, aI x :: r, h)) hm (stp_ok hd (by simp only [st1, hg]; rfl))
theorem q_baload {v : AV} {i : Int32} (hm : MT k = some mi) (hd : decode (mB mi) pc = .ok (.baload, 1)) : Run sc k pc L dl (aI i :: v :: r) h = bO (ldI sc h (fun t => t == 2 || t == 3) v i) (fun x => Run sc k (pc + 1) L dl (aI x :: r) h) := by
  cases hg : ldI sc h (fun t => t == 2 || t == 3) v i with
  | none => exact Run_none hm (stp_ok hd (by simp only [st1, hg]))
  | some x => exact Run_go (c := (pc + 1, L, dl, aI x :: r, h)) hm (stp_ok hd (by simp only [st1, hg]; rfl))
theorem q_iastore {p : Nat} {i x : Int32} (hm : MT k = some mi) (hd : decode (mB mi) pc = .ok (.iastore, 1)) : Run sc k pc L dl (aI x :: aI i :: aD p :: r) h = bO (stI h (fun t => t == 0) p i x) (fun h' => Run sc k (pc + 1) L dl r h') := by
  cases hg : stI h (fun t => t == 0) p i x with
  | none => exact Run_none hm (stp_ok hd (by simp only [st1, hg]))
  | some y => exact Run_go (c := (pc + 1, L, dl, r, y)) hm (stp_ok hd (by simp only [st1, hg]; rfl))
theorem q_castore {p : Nat} {i x : Int32} (hm : MT k = some mi) (hd : decode (mB mi) pc = .ok (.castore, 1)) : Run sc k pc L dl (aI x :: aI i :: aD p :: r) h = bO (stI h (fun t => t == 1) p i x) (fun h' => Run sc k (pc + 1) L dl r h') := by
  cases hg : stI h (fun t => t == 1) p i x with
  | none => exact Run_none hm (stp_ok hd (by simp only [st1, hg]))
  | some y => exact Run_go (c := (pc + 1, L, dl, r, y)) hm (stp_ok hd (by simp only [st1, hg]; rfl))
theorem q_bastore {p : Nat} {i x : Int32} (hm : MT k = some mi) (hd : decode (mB mi) pc = .ok (.bastore, 1)) : Run sc k pc L dl (aI x :: aI i :: aD p :: r) h = bO (stI h (fun t => t == 2 || t == 3) p i x) (fun h' => Run sc k (pc + 1) L dl r h') := by
  cases hg : stI h (fun t => t == 2 || t == 3) p i x with
  | none => exact Run_none hm (stp_ok hd (by simp only [st1, hg]))
  | some y => exact Run_go (c := (pc + 1, L, dl, r, y)) hm (stp_ok hd (by simp only [st1, hg]; rfl))
theorem q_aaload {v : AV} {i : Int32} (hm : MT k = some mi) (hd : decode (mB mi) pc = .ok (.aaload, 1)) : Run sc k pc L dl (aI i :: v :: r) h = bO (ldR sc h v i) (fun x => Run sc k (pc + 1) L dl (x :: r) h) := by
  cases hg : ldR sc h v i with
  | none => exact Run_none hm (stp_ok hd (by simp only [st1, hg]))
  | some x => exact Run_go (c := (pc + 1, L, dl, x :: r, h)) hm (stp_ok hd (by simp only [st1, hg]; rfl))
theorem q_aastore {p : Nat} {i : Int32} {v : AV} (hm : MT k = some mi) (hd : decode (mB mi) pc = .ok (.aastore, 1)) : Run sc k pc L dl (v :: aI i :: aD p :: r) h = bO (stR h p i v) (fun h' => Run sc k (pc + 1) L dl r h') := by
  cases hg : stR h p i v with
  | none => exact Run_none hm (stp_ok hd (by simp only [st1, hg]))
  | some y => exact Run_go (c := (pc + 1, L, dl, r, y)) hm (stp_ok hd (by simp only [st1, hg]; rfl))
theorem q_alen {v : AV} (hm : MT k = some mi) (hd : decode (mB mi) pc = .ok (.arraylength, 1)) : Run sc k pc L dl (v :: r) h = bO (lenA sc h v) (fun n => Run sc k (pc + 1) L dl (aI (nI n) :: r) h) := by
  cases hg : lenA sc h v with
  | none => exact Run_none hm (stp_ok hd (by simp only [st1, hg]))
  | some y => exact Run_go (c := (pc + 1, L, dl, aI (nI y) :: r, h)) hm (stp_ok hd (by simp only [st1, hg]; rfl))
def ldL (h : AH) (p : Nat) (i : Int32) : Option Int64 := match hget h p with
  | some (.inr (.inr (.inl (n, f)))) => if inb i n = true then some (f i.toNatClampNeg) else none
  | _ => none
def stL (h : AH) (p : Nat) (i : Int32) (x : Int64) : Option AH := match hget h p with
  | some (.inr (.inr (.inl (n, f)))) => if inb i n = true then some (hset h p (oL n (vp_updL f i.toNatClampNeg x))) else none
  | _ => none
def ldE (h : AH) (p : Nat) (i : Int32) : Option UInt64 := match hget h p with
  | some (.inr (.inr (.inr (.inl (n, f))))) => if inb i n = true then some (f i.toNatClampNeg) else none
  | _ => none
def stE (h : AH) (p : Nat) (i : Int32) (x : UInt64) : Option AH := match hget h p with
  | some (.inr (.inr (.inr (.inl (n, f))))) => if inb i n = true then some (hset h p (oE n (vf_upd f i.toNatClampNeg x))) else none
  | _ => none
theorem q_laload {p : Nat} {i : Int32} (hm : MT k = some mi) (hd : decode (mB mi) pc = .ok (.laload, 1)) : Run sc k pc L dl (aI i :: aD p :: r) h = bO (ldL h p i) (fun x => Run sc k (pc + 1) L dl (aL x :: r) h) := by
  have e : st1 sc mi .laload 1 pc L dl (aI i :: aD p :: r) h = (match ldL h p i with | some x => go (pc + 1) L dl (aL x :: r) h | none => none) := by
    simp only [st1, ldL]
    repeat' split <;> first | rfl | simp_all
  cases hg : ldL h p i with
  | none => exact Run_none hm (stp_ok hd (by rw [e, hg]))
  | some y => exact Run_go (c := (pc + 1, L, dl, aL y :: r, h)) hm (stp_ok hd (by rw [e, hg]; rfl))
theorem q_lastore {p : Nat} {i : Int32} {x : Int64} (hm : MT k = some mi) (hd : decode (mB mi) pc = .ok (.lastore, 1)) : Run sc k pc L dl (aL x :: aI i :: aD p :: r) h = bO (stL h p i x) (fun h' => Run sc k (pc + 1) L dl r h') := by
  have e : st1 sc mi .lastore 1 pc L dl (aL x :: aI i :: aD p :: r) h = (match stL h p i x with | some h' => go (pc + 1) L dl r h' | none => none) := by
    simp only [st1, stL]
    repeat' split <;> first | rfl | simp_all
  cases hg : stL h p i x with
  | none => exact Run_none hm (stp_ok hd (by rw [e, hg]))
  | some y => exact Run_go (c := (pc + 1, L, dl, r, y)) hm (stp_ok hd (by rw [e, hg]; rfl))
theorem q_daload {p : Nat} {i : Int32} (hm : MT k = some mi) (hd : decode (mB mi) pc = .ok (.daload, 1)) : Run sc k pc L dl (aI i :: aD p :: r) h = bO (ldE h p i) (fun x => Run sc k (pc + 1) L dl (aE x :: r) h) := by
  have e : st1 sc mi .daload 1 pc L dl (aI i :: aD p :: r) h = (match ldE h p i with | some x => go (pc + 1) L dl (aE x :: r) h | none => none) := by
    simp only [st1, ldE]
    repeat' split <;> first | rfl | simp_all
  cases hg : ldE h p i with
  | none => exact Run_none hm (stp_ok hd (by rw [e, hg]))
  | some y => exact Run_go (c := (pc + 1, L, dl, aE y :: r, h)) hm (stp_ok hd (by rw [e, hg]; rfl))
theorem q_dastore {p : Nat} {i : Int32} {x : UInt64} (hm : MT k = some mi) (hd : decode (mB mi) pc = .ok (.dastore, 1)) : Run sc k pc L dl (aE x :: aI i :: aD p :: r) h = bO (stE h p i x) (fun h' => Run sc k (pc + 1) L dl r h') := by
  have e : st1 sc mi .dastore 1 pc L dl (aE x :: aI i :: aD p :: r) h = (match stE h p i x with | some h' => go (pc + 1) L dl r h' | none => none) := by
    simp only [st1, stE]
    repeat' split <;> first | rfl | simp_all
  cases hg : stE h p i x with
  | none => exact Run_none hm (stp_ok hd (by rw [e, hg]))
  | some y => exact Run_go (c := (pc + 1, L, dl, r, y)) hm (stp_ok hd (by rw [e, hg]; rfl))
theorem q_newarray {n : Int32} {a : ArrayType} {mk : Nat → AO} (hm : MT k = some mi) (hd : decode (mB mi) pc = .ok (.newarray a, 2)) (ha : ∀ m, newT a m = some (mk m)) : Run sc k pc L dl (aI n :: r) h = bI (¬ (n < 0 ∨ 67108864 < n.toNatClampNeg)) (Run sc k (pc + 2) L dl (aD h.1.length :: r) (hpush h (mk n.toNatClampNeg))) := by
  by_cases hn : n < 0 ∨ 67108864 < n.toNatClampNeg
  · rw [bI_f (fun q => q hn)]
    exact Run_none hm (stp_ok hd (by simp only [st1]; rw [if_pos hn]))
  · rw [bI_t hn]
    exact Run_go (c := (pc + 2, L, dl, aD h.1.length :: r, hpush h (mk n.toNatClampNeg))) hm (stp_ok hd (by simp only [st1]; rw [if_neg hn, ha]; rfl))
theorem q_anewarray {n : Int32} {a i w : Nat} (hm : MT k = some mi) (hd : decode (mB mi) pc = .ok (.anewarray a, 3)) (hr : rs (mCn mi) a = some (3, ciProg, i, w)) : Run sc k pc L dl (aI n :: r) h = bI (¬ (n < 0 ∨ 67108864 < n.toNatClampNeg)) (Run sc k (pc + 3) L dl (aD h.1.length :: r) (hpush h (oR n.toNatClampNeg (fun _ => aN)))) := by
  by_cases hn : n < 0 ∨ 67108864 < n.toNatClampNeg
  · rw [bI_f (fun q => q hn)]
    refine Run_none hm (stp_ok hd ?_)
    simp only [st1, hr]
    rw [if_pos]
    rcases hn with h1 | h1
    · exact Or.inl h1
    · exact Or.inr (Or.inl h1)
  · rw [bI_t hn]
    refine Run_go (c := (pc + 3, L, dl, aD h.1.length :: r, hpush h (oR n.toNatClampNeg (fun _ => aN)))) hm (stp_ok hd ?_)
    simp only [st1, hr]
    rw [if_neg]
    · rfl
    · rintro (q | q | q)
      · exact hn (Or.inl q)
      · exact hn (Or.inr q)
      · exact absurd trivial (by simpa using q)
theorem q_idiv {x y : Int32} (hm : MT k = some mi) (hd : decode (mB mi) pc = .ok (.idiv, 1)) : Run sc k pc L dl (aI y :: aI x :: r) h = bI (¬ y = 0) (Run sc k (pc + 1) L dl (aI (x / y) :: r) h) := by
  by_cases hn : y = 0
  · rw [bI_f (fun q => q hn)]
    exact Run_none hm (stp_ok hd (by simp only [st1]; rw [if_pos hn]))
  · rw [bI_t hn]
    exact Run_go (c := (pc + 1, L, dl, aI (x / y) :: r, h)) hm (stp_ok hd (by simp only [st1]; rw [if_neg hn]; rfl))
theorem q_irem {x y : Int32} (hm : MT k = some mi) (hd : decode (mB mi) pc = .ok (.irem, 1)) : Run sc k pc L dl (aI y :: aI x :: r) h = bI (¬ y = 0) (Run sc k (pc + 1) L dl (aI (x - x / y * y) :: r) h) := by
  by_cases hn : y = 0
  · rw [bI_f (fun q => q hn)]
    exact Run_none hm (stp_ok hd (by simp only [st1]; rw [if_pos hn]))
  · rw [bI_t hn]
    exact Run_go (c := (pc + 1, L, dl, aI (x - x / y * y) :: r, h)) hm (stp_ok hd (by simp only [st1]; rw [if_neg hn]; rfl))
theorem q_ddiv {x y : UInt64} (hm : MT k = some mi) (hd : decode (mB mi) pc = .ok (.ddiv, 1)) : Run sc k pc L dl (aE y :: aE x :: r) h = bI (FP.ddiv x y &&& 0x7fffffffffffffff ≤ 0x7ff0000000000000) (Run sc k (pc + 1) L dl (aE (FP.ddiv x y) :: r) h) := by
  by_cases hn : FP.ddiv x y &&& 0x7fffffffffffffff ≤ 0x7ff0000000000000
  · rw [bI_t hn]
    exact Run_go (c := (pc + 1, L, dl, aE (FP.ddiv x y) :: r, h)) hm (stp_ok hd (by simp only [st1]; rw [if_pos hn]; rfl))
  · rw [bI_f hn]
    exact Run_none hm (stp_ok hd (by simp only [st1]; rw [if_neg hn]))
theorem q_fdiv {x y : UInt32} (hm : MT k = some mi) (hd : decode (mB mi) pc = .ok (.fdiv, 1)) : Run sc k pc L dl (aF y :: aF x :: r) h = bI (FP.fdiv x y &&& 0x7fffffff ≤ 0x7f800000) (Run sc k (pc + 1) L dl (aF (FP.fdiv x y) :: r) h) := by
  by_cases hn : FP.fdiv x y &&& 0x7fffffff ≤ 0x7f800000
  · rw [bI_t hn]
    exact Run_go (c := (pc + 1, L, dl, aF (FP.fdiv x y) :: r, h)) hm (stp_ok hd (by simp only [st1]; rw [if_pos hn]; rfl))
  · rw [bI_f hn]
    exact Run_none hm (stp_ok hd (by simp only [st1]; rw [if_neg hn]))
theorem q_f2d {x : UInt32} (hm : MT k = some mi) (hd : decode (mB mi) pc = .ok (.f2d, 1)) : Run sc k pc L dl (aF x :: r) h = bI (FP.f2d x &&& 0x7fffffffffffffff ≤ 0x7ff0000000000000) (Run sc k (pc + 1) L dl (aE (FP.f2d x) :: r) h) := by
  by_cases hn : FP.f2d x &&& 0x7fffffffffffffff ≤ 0x7ff0000000000000
  · rw [bI_t hn]
    exact Run_go (c := (pc + 1, L, dl, aE (FP.f2d x) :: r, h)) hm (stp_ok hd (by simp only [st1]; rw [if_pos hn]; rfl))
  · rw [bI_f hn]
    exact Run_none hm (stp_ok hd (by simp only [st1]; rw [if_neg hn]))
/-- a call: the abstract step gives the call's act -/
theorem q_call {st args : List AV} {ins : Instr} {len y kd : Nat} {c : Cfg} (hm : MT k = some mi) (hd : decode (mB mi) pc = .ok (ins, len)) (ha : st1 sc mi ins len pc L dl st h = some (.inr (.inr (.inl (y, kd, args, c))))) (hk : kd = 0 ∨ kd = 1) (hh : mHH mi = []) (hlen : lenOK ins len = true := by rfl) :
    Run sc k pc L dl st h = bC (Call sc y args c.2.2.2.2) (fun v h1 => Run sc k c.1 c.2.1 c.2.2.1 (v.toList ++ c.2.2.2.1) h1) (fun E h1 => some (.inr E, h1)) := by
  cases hr : Call sc y args c.2.2.2.2 with
  | none => exact Run_callN hm (stp_ok hd ha hlen) hr
  | some q =>
    obtain ⟨o, h1⟩ := q
    cases o with
    | inl v => exact Run_call hm (stp_ok hd ha hlen) hr
    | inr E => exact Run_callX hm (stp_ok hd ha hlen) hr hk (by rw [hh]; rfl)
theorem q_callD {st args : List AV} {ins : Instr} {len y kd : Nat} {c : Cfg} (hm : MT k = some mi) (hd : decode (mB mi) pc = .ok (ins, len)) (ha : st1 sc mi ins len pc L dl st h = some (.inr (.inr (.inl (y, kd, args, c))))) (hk : ¬ (kd = 0 ∨ kd = 1)) (hlen : lenOK ins len = true := by rfl) :
    Run sc k pc L dl st h = bC (Call sc y args c.2.2.2.2) (fun v h1 => Run sc k c.1 c.2.1 c.2.2.1 (v.toList ++ c.2.2.2.1) h1) (fun _ _ => none) := by
  cases hr : Call sc y args c.2.2.2.2 with
  | none => exact Run_callN hm (stp_ok hd ha hlen) hr
  | some q =>
    obtain ⟨o, h1⟩ := q
    cases o with
    | inl v => exact Run_call hm (stp_ok hd ha hlen) hr
    | inr E =>
      show _ = none
      cases hq : Run sc k pc L dl st h with
      | none => rfl
      | some r9 =>
        obtain ⟨n, e⟩ := Run_iff.mp hq
        cases n with
        | zero => simp [ex] at e
        | succ n =>
          rw [ex] at e
          simp only [hm, stp_ok hd ha hlen] at e
          unfold Call at hr
          cases hy : MT y with
          | none => simp [hy] at e
          | some my =>
            rw [hy] at hr
            simp only [hy] at e
            cases hz : ex sc n y 0 (ent (mL my) args) none [] c.2.2.2.2 with
            | none => simp [hz] at e
            | some z =>
              have h9 := Run_iff.mpr ⟨n, hz⟩
              have := Option.some.inj (h9.symm.trans hr)
              subst this
              simp only [hz, if_neg hk] at e
              cases e
/-- a call under handlers -/
theorem q_callH {st args : List AV} {ins : Instr} {len y kd : Nat} {c : Cfg} (hm : MT k = some mi) (hd : decode (mB mi) pc = .ok (ins, len)) (ha : st1 sc mi ins len pc L dl st h = some (.inr (.inr (.inl (y, kd, args, c))))) (hk : kd = 0 ∨ kd = 1) {v : Option AV} {h1 : AH} (hr : Call sc y args c.2.2.2.2 = some (.inl v, h1)) (hlen : lenOK ins len = true := by rfl) :
    Run sc k pc L dl st h = Run sc k c.1 c.2.1 c.2.2.1 (v.toList ++ c.2.2.2.1) h1 := Run_call hm (stp_ok hd ha hlen) hr
theorem q_callHx {st args : List AV} {ins : Instr} {len y kd E i t : Nat} {c : Cfg} (hm : MT k = some mi) (hd : decode (mB mi) pc = .ok (ins, len)) (ha : st1 sc mi ins len pc L dl st h = some (.inr (.inr (.inl (y, kd, args, c))))) (hk : kd = 0 ∨ kd = 1) {h1 : AH} (hr : Call sc y args c.2.2.2.2 = some (.inr E, h1)) (hh : hnd mi pc E (mHH mi) = some (some (i, t))) (hlen : lenOK ins len = true := by rfl) :
    Run sc k pc L dl st h = Run sc k t (c.2.1.set i aU) (dlc i c.2.2.1) [] h1 := Run_callC hm (stp_ok hd ha hlen) hr hk hh
/-- the receiver is an object of the class c -/
def rOK (sc : SC) (h : AH) (v : AV) (c : Nat) : Bool := match oget sc h v with
  | some (.inl (c', _)) => c' == c
  | _ => false
theorem st1_callR {st : List AV} {y kd : Nat} {my : MI} {v : AV} (hy : MT y = some my) (hk : kd = 0 ∨ kd = 3 ∨ kd = 4) (h1 : mNa my ≤ st.length ∧ mRk my < mRk mi ∧ aWt (st.drop (mNa my)) ≤ 8 ∧ ((st.take (mNa my)).all fun v => aCat v == 1) = true) (hv : (st.take (mNa my)).getLast? = some v) :
    callA sc mi y kd pc L dl st h = if rOK sc h v (mRci my) = true then some (.inr (.inr (.inl (y, kd, (st.take (mNa my)).reverse, (pc + 3, L, dl, st.drop (mNa my), h))))) else none := by
  unfold callA
  simp only [hy]
  rw [if_pos h1, if_pos hk]
  simp only [hv]
  unfold rOK
  cases ho : oget sc h v with
  | none => rfl
  | some o =>
    rcases o with ⟨c, fs⟩ | o
    · simp only [beq_iff_eq]
    · rfl
theorem q_callR {st : List AV} {ins : Instr} {len y kd a : Nat} {my : MI} {v : AV} {w : Nat} (hm : MT k = some mi) (hd : decode (mB mi) pc = .ok (ins, len)) (hi : ∀ (L : List AV) (dl : DL) (st : List AV) (h : AH), st1 sc mi ins len pc L dl st h = invA sc mi 0 a pc L dl st h) (hr : rs (mCn mi) a = some (2, y, kd, w)) (hy : MT y = some my) (hk : kd = 0) (hh : mHH mi = [])
    (h1 : mNa my ≤ st.length ∧ mRk my < mRk mi ∧ aWt (st.drop (mNa my)) ≤ 8 ∧ ((st.take (mNa my)).all fun v => aCat v == 1) = true) (hv : (st.take (mNa my)).getLast? = some v) (hlen : lenOK ins len = true := by rfl) :
    Run sc k pc L dl st h = bI (rOK sc h v (mRci my) = true) (bC (Call sc y (st.take (mNa my)).reverse h) (fun v h1 => Run sc k (pc + 3) L dl (v.toList ++ st.drop (mNa my)) h1) (fun E h1 => some (.inr E, h1))) := by
  have e : st1 sc mi ins len pc L dl st h = if rOK sc h v (mRci my) = true then some (.inr (.inr (.inl (y, kd, (st.take (mNa my)).reverse, (pc + 3, L, dl, st.drop (mNa my), h))))) else none := by
    subst hk
    rw [hi]
    unfold invA
    simp only [hr]
    rw [if_pos (show kOK _ _ = true from rfl)]
    exact st1_callR hy (Or.inl rfl) h1 hv
  by_cases hro : rOK sc h v (mRci my) = true
  · rw [if_pos hro] at e
    rw [bI_t hro]
    exact q_call hm hd e (Or.inl hk) hh hlen
  · rw [if_neg hro] at e
    rw [bI_f hro]
    exact Run_none hm (stp_ok hd e hlen)
theorem q_callRD {st : List AV} {ins : Instr} {len y kd a iv : Nat} {my : MI} {v : AV} {w : Nat} (hm : MT k = some mi) (hd : decode (mB mi) pc = .ok (ins, len)) (hi : ∀ (L : List AV) (dl : DL) (st : List AV) (h : AH), st1 sc mi ins len pc L dl st h = invA sc mi iv a pc L dl st h) (hiv : kOK iv kd = true) (hr : rs (mCn mi) a = some (2, y, kd, w)) (hy : MT y = some my) (hk : kd = 3 ∨ kd = 4)
    (h1 : mNa my ≤ st.length ∧ mRk my < mRk mi ∧ aWt (st.drop (mNa my)) ≤ 8 ∧ ((st.take (mNa my)).all fun v => aCat v == 1) = true) (hv : (st.take (mNa my)).getLast? = some v) (hlen : lenOK ins len = true := by rfl) :
    Run sc k pc L dl st h = bI (rOK sc h v (mRci my) = true) (bC (Call sc y (st.take (mNa my)).reverse h) (fun v h1 => Run sc k (pc + 3) L dl (v.toList ++ st.drop (mNa my)) h1) (fun _ _ => none)) := by
  have e : st1 sc mi ins len pc L dl st h = if rOK sc h v (mRci my) = true then some (.inr (.inr (.inl (y, kd, (st.take (mNa my)).reverse, (pc + 3, L, dl, st.drop (mNa my), h))))) else none := by
    rw [hi]
    unfold invA
    simp only [hr]
    rw [if_pos hiv]
    exact st1_callR hy (Or.inr hk) h1 hv
  by_cases hro : rOK sc h v (mRci my) = true
  · rw [if_pos hro] at e
    rw [bI_t hro]
    exact q_callD hm hd e (by omega) hlen
  · rw [if_neg hro] at e
    rw [bI_f hro]
    exact Run_none hm (stp_ok hd e hlen)
theorem q_copy {v : AV} {q a w1 w2 w3 : Nat} {n dp sp : Int32} (hm : MT k = some mi) (hd : decode (mB mi) pc = .ok (.invokestatic a, 3)) (hr : rs (mCn mi) a = some (7, w1, w2, w3)) (hw : aWt r ≤ 8) : Run sc k pc L dl (aI n :: aI dp :: aD q :: aI sp :: v :: r) h = bO (copyA sc h v sp q dp n) (fun h' => Run sc k (pc + 3) L dl r h') := by
  cases hg : copyA sc h v sp q dp n with
  | none => exact Run_none hm (stp_ok hd (by simp only [st1, invA, hr, hg, if_pos hw]; rfl))
  | some y => exact Run_go (c := (pc + 3, L, dl, r, y)) hm (stp_ok hd (by simp only [st1, invA, hr, hg, if_pos hw]; rfl))
theorem q_icmp {P : Int32 → Int32 → Prop} [∀ x y, Decidable (P x y)] {x y : Int32} {off : Int} {t : Nat} {ins : Instr} (hm : MT k = some mi) (hd : decode (mB mi) pc = .ok (ins, 3)) (hi : ∀ (L : List AV) (dl : DL) (st : List AV) (h : AH), st1 sc mi ins 3 pc L dl st h = icmp P pc off L dl st h) (ht : tgt pc off = some t) (hlen : lenOK ins 3 = true := by rfl) : Run sc k pc L dl (aI y :: aI x :: r) h = Run sc k (if P x y then t else pc + 3) L dl r h :=
  Run_go (c := (if P x y then t else pc + 3, L, dl, r, h)) hm (stp_ok hd (by rw [hi]; unfold icmp; simp only [ht]; rfl) hlen)
theorem q_if {P : Int32 → Int32 → Prop} [∀ x y, Decidable (P x y)] {x : Int32} {off : Int} {t : Nat} {ins : Instr} (hm : MT k = some mi) (hd : decode (mB mi) pc = .ok (ins, 3)) (hi : ∀ (L : List AV) (dl : DL) (st : List AV) (h : AH), st1 sc mi ins 3 pc L dl st h = icmp P pc off L dl (aI 0 :: st) h) (ht : tgt pc off = some t) (hlen : lenOK ins 3 = true := by rfl) : Run sc k pc L dl (aI x :: r) h = Run sc k (if P x 0 then t else pc + 3) L dl r h :=
  Run_go (c := (if P x 0 then t else pc + 3, L, dl, r, h)) hm (stp_ok hd (by rw [hi]; unfold icmp; simp only [ht]; rfl) hlen)
theorem q_acmpeq {i j : Nat} {off : Int} {t : Nat} (hm : MT k = some mi) (hd : decode (mB mi) pc = .ok (.if_acmp .eq off, 3)) (ht : tgt pc off = some t) : Run sc k pc L dl (aC j :: aC i :: r) h = bI (1 ≤ i ∧ i < 13 ∧ 1 ≤ j ∧ j < 13) (Run sc k (if i = j then t else pc + 3) L dl r h) := by
  by_cases hn : 1 ≤ i ∧ i < 13 ∧ 1 ≤ j ∧ j < 13
  · rw [bI_t hn]
    exact Run_go (c := (if i = j then t else pc + 3, L, dl, r, h)) hm (stp_ok hd (by simp only [st1, ht]; rw [if_pos hn]; rfl))
  · rw [bI_f hn]
    exact Run_none hm (stp_ok hd (by simp only [st1, ht]; rw [if_neg hn]))
theorem q_acmpne {i j : Nat} {off : Int} {t : Nat} (hm : MT k = some mi) (hd : decode (mB mi) pc = .ok (.if_acmp .ne off, 3)) (ht : tgt pc off = some t) : Run sc k pc L dl (aC j :: aC i :: r) h = bI (1 ≤ i ∧ i < 13 ∧ 1 ≤ j ∧ j < 13) (Run sc k (if ¬ i = j then t else pc + 3) L dl r h) := by
  by_cases hn : 1 ≤ i ∧ i < 13 ∧ 1 ≤ j ∧ j < 13
  · rw [bI_t hn]
    exact Run_go (c := (if ¬ i = j then t else pc + 3, L, dl, r, h)) hm (stp_ok hd (by simp only [st1, ht]; rw [if_pos hn]; rfl))
  · rw [bI_f hn]
    exact Run_none hm (stp_ok hd (by simp only [st1, ht]; rw [if_neg hn]))
theorem q_table {x : Int32} {d lo hi : Int} {offs : Array Int} {len t0 : Nat} {T : List Nat} (hm : MT k = some mi) (hd : decode (mB mi) pc = .ok (.tableswitch d lo hi offs, len)) (h0 : tgt pc d = some t0) (hT : ∀ j : Nat, j < (hi - lo + 1).toNat → (match offs[j]? with | some off => tgt pc off | none => none) = T[j]? ∧ j < T.length) : Run sc k pc L dl (aI x :: r) h = Run sc k (if x.toInt < lo ∨ hi < x.toInt then t0 else T.getD (x.toInt - lo).toNat 0) L dl r h := by
  refine Run_go (c := (if x.toInt < lo ∨ hi < x.toInt then t0 else T.getD (x.toInt - lo).toNat 0, L, dl, r, h)) hm (stp_ok hd ?_)
  simp only [st1]
  by_cases hx : x.toInt < lo ∨ hi < x.toInt
  · rw [if_pos hx, if_pos hx, h0]
    rfl
  · rw [if_neg hx, if_neg hx]
    obtain ⟨e, hl⟩ := hT (x.toInt - lo).toNat (by omega)
    cases ho : offs[(x.toInt - lo).toNat]? with
    | none =>
      rw [ho] at e
      rw [List.getElem?_eq_getElem hl] at e
      cases e
    | some off =>
      rw [ho] at e
      simp only at e ⊢
      rw [e, List.getElem?_eq_getElem hl, List.getD_eq_getElem?_getD, List.getElem?_eq_getElem hl]
      rfl
end
