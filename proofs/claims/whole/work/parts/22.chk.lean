/-! CHECKS of the tables by the kernel -/
def okw (w : Cond) : Bool := goodWord w || (match w with
  | .castable _ _ => true
  | .declares _ => true
  | .fieldLinkNest _ _ _ _ _ _ => true
  | .methodLinkNest _ _ _ _ => true
  | .stringRef _ _ _ => true
  | .arrayOver (.object _) => true
  | _ => false)
def mOK (mi : MI) (w : Nat × Nat × Nat × Nat) : Bool :=
  (decide (mHH mi = []) && decide (lw_tb2[w.1]? = some (.code (mY mi) (mB mi) (mL mi) (mRet mi))) || (!decide (mHH mi = []) && decide (mRci mi = 999)) && decide (lw_tb2[w.1]? = some (.codeWith (mY mi) (mB mi) (mL mi) (mRet mi) (mHH mi)))) &&
  decide (lw_tb2[w.2.1]? = some (if mRci mi = 999 then .static (mY mi) else .instanceMethod (mY mi))) &&
  (decide (mRci mi = 999) || decide ((mY mi).name = "<init>") || decide (w.2.2.1 = 9999) || decide (lw_tb2[w.2.2.1]? = some (.selects (rcn (mRci mi)) (mY mi) (mY mi)))) &&
  decide (lw_tb2[w.2.2.2]? = some (.initialized (mY mi).cls)) && decide ((RTl[mCn mi]?).map (·.1) = some (mOwn mi)) && decide ((mY mi).cls = mOwn mi) && plainName (mY mi).cls && Nat.ble (mL mi) 20 &&
  decide ((parseMethodDescriptor (mY mi).desc).map (fun d => d.parameters.length + (if mRci mi = 999 then 0 else 1)) = some (mNa mi)) && decide ((mY mi).cls ≠ "java/lang/invoke/MethodHandle" ∧ (mY mi).cls ≠ "java/lang/invoke/VarHandle") && (decide (mRci mi = 999) || Nat.ble 1 (mNa mi)) && Nat.ble (mNa mi) (mL mi)
set_option maxRecDepth 100000 in
set_option maxHeartbeats 4000000 in
theorem mw_ok0 : ((((MTl.zip MWl).take 210).drop 0).take 20).all (fun q => mOK q.1 q.2) = true := by decide +kernel
set_option maxRecDepth 100000 in
set_option maxHeartbeats 4000000 in
theorem mw_ok1 : ((((MTl.zip MWl).take 210).drop 20).take 20).all (fun q => mOK q.1 q.2) = true := by decide +kernel
set_option maxRecDepth 100000 in
set_option maxHeartbeats 4000000 in
theorem mw_ok2 : ((((MTl.zip MWl).take 210).drop 40).take 20).all (fun q => mOK q.1 q.2) = true := by decide +kernel
set_option maxRecDepth 100000 in
set_option maxHeartbeats 4000000 in
theorem mw_ok3 : ((((MTl.zip MWl).take 210).drop 60).take 20).all (fun q => mOK q.1 q.2) = true := by decide +kernel
set_option maxRecDepth 100000 in
set_option maxHeartbeats 4000000 in
theorem mw_ok4 : ((((MTl.zip MWl).take 210).drop 80).take 20).all (fun q => mOK q.1 q.2) = true := by decide +kernel
set_option maxRecDepth 100000 in
set_option maxHeartbeats 4000000 in
theorem mw_ok5 : ((((MTl.zip MWl).take 210).drop 100).take 20).all (fun q => mOK q.1 q.2) = true := by decide +kernel
set_option maxRecDepth 100000 in
set_option maxHeartbeats 4000000 in
theorem mw_ok6 : ((((MTl.zip MWl).take 210).drop 120).take 20).all (fun q => mOK q.1 q.2) = true := by decide +kernel
set_option maxRecDepth 100000 in
set_option maxHeartbeats 4000000 in
theorem mw_ok7 : ((((MTl.zip MWl).take 210).drop 140).take 20).all (fun q => mOK q.1 q.2) = true := by decide +kernel
set_option maxRecDepth 100000 in
set_option maxHeartbeats 4000000 in
theorem mw_ok8 : ((((MTl.zip MWl).take 210).drop 160).take 20).all (fun q => mOK q.1 q.2) = true := by decide +kernel
set_option maxRecDepth 100000 in
set_option maxHeartbeats 4000000 in
theorem mw_ok9 : ((((MTl.zip MWl).take 210).drop 180).take 20).all (fun q => mOK q.1 q.2) = true := by decide +kernel
set_option maxRecDepth 100000 in
set_option maxHeartbeats 4000000 in
theorem mw_ok10 : ((((MTl.zip MWl).take 210).drop 200).take 20).all (fun q => mOK q.1 q.2) = true := by decide +kernel
set_option maxRecDepth 100000 in
set_option maxHeartbeats 4000000 in
theorem mw_ok11 : ((((MTl.zip MWl).take 210).drop 220).take 20).all (fun q => mOK q.1 q.2) = true := by decide +kernel
def lnkF (own : String) (i : Nat) (r n d : String) (w : Option Cond) : Bool := match w with
  | some (.fieldLink o i' r' n' d') => o == own && i' == i && r' == r && n' == n && d' == d
  | some (.fieldLinkNest o i' r' n' d' _) => o == own && i' == i && r' == r && n' == n && d' == d
  | _ => false
def mlk (own : String) (i : Nat) (w : Option Cond) : Option MethodName := match w with
  | some (.methodLink o i' y) => if o == own && i' == i then some y else none
  | _ => none
def eOK2 (own : String) (b : Nat) (mi : MI) (mw : Nat × Nat × Nat × Nat) : Bool := match b with
  | 0 => decide (mRci mi ≠ 999) && decide ((mY mi).name ≠ "<init>") && decide (mw.2.2.1 ≠ 9999) && decide (mHH mi = [])
  | 1 => decide (mRci mi = 999) && decide (mHH mi = [])
  | 2 => decide ((mY mi).name = "<init>") && decide (mRet mi = none) && decide (mHH mi = []) && decide (mRci mi ≠ 999)
  | 6 => decide (mRci mi = 999) && decide (mHH mi ≠ [])
  | _ => false
def eOK (own : String) (e : Nat × Nat × Nat × Nat × Nat) : Bool := match e with
  | (i, 0, a, b, w) => if a = 100 then (match KFl[b]? with | some f => lnkF own i f.1 f.2.1 f.2.2 tables_1[w]? | none => false)
      else if a = 101 then (match SFl[b]? with | some f => lnkF own i f.1 f.2.1 f.2.2 tables_1[w]? | none => false)
      else (match vwCl[a]? with | some q => Nat.blt b q.2.2 && lnkF own i (q.2.1 b).1 (q.2.1 b).2.1 (q.2.1 b).2.2.1 tables_1[w]? | none => false)
  | (i, 1, a, _, w) => (match SZl[a]? with | some f => lnkF own i f.1 f.2.1 f.2.2 tables_1[w]? && decide (f.2.1 ≠ "") | none => false)
  | (i, 2, a, 5, w) => (match tables_1[w]?, MTl[a]? with | some (.methodLinkNest o i' y _), some mi => o == own && i' == i && decide (y = mY mi) && decide (y.name = "<init>") && decide (mRet mi = none) && decide (mHH mi = []) | _, _ => false)
  | (i, 2, a, 3, w) => (match tables_1[w]?, MTl[a]? with | some (.methodLink o i' y), some mi => o == own && i' == i && decide (y = ⟨"BranchSlotFiller$Kind", "ordinal", "()I"⟩) && decide (mY mi = ⟨"java/lang/Enum", "ordinal", "()I"⟩) && decide (mRci mi = 100) && decide (mNa mi = 1) && decide (mHH mi = []) | _, _ => false)
  | (i, 2, a, b, w) => (match mlk own i tables_1[w]?, MTl[a]?, MWl[a]? with | some y, some mi, some mw => decide (y = mY mi) && eOK2 own b mi mw | _, _, _ => false)
  | (i, 3, a, b, w) => (match tables_1[w]?, vwCl[a]? with | some (.classLink o i' C), some q => o == own && i' == i && C == q.1 && decide (b = q.2.2) | _, _ => false)
  | (i, 4, a, _, w) => (match tables_1[w]?, EXl[a]? with | some (.classLink o i' C), some q => o == own && i' == i && C == q.1 | _, _ => false)
  | (i, 5, a, _, w) => (match tables_1[w]?, SVl[a]? with | some (.constant o i' v), some (.inl x) => o == own && i' == i && decide (v = x) | _, _ => false)
  | (i, 6, _, _, w) => decide (mlk own i tables_1[w]? = some objectInit)
  | (i, 7, _, _, w) => decide (mlk own i tables_1[w]? = some arraycopyName)
  | (i, 8, _, _, w) => (match tables_1[w]? with | some (.stringRef o i' _) => o == own && i' == i | _ => false)
  | (i, 9, a, _, w) => (match EXl[a]? with | some q => decide (mlk own i tables_1[w]? = some ⟨q.1, "<init>", "(Ljava/lang/String;)V"⟩) && (vx_atS own i q.1 q.2).all (fun w => lw_tbl.contains w && okw w && vx_ot w) && Bundle.fit q.1 && q.2.all Bundle.fit && Nat.ble q.2.length 4 | none => false)
  | (i, 11, 0, _, w) => decide (mlk own i tables_1[w]? = some Lib.Math.min.name)
  | (i, 11, 1, _, w) => decide (mlk own i tables_1[w]? = some Lib.Math.max.name)
  | (i, 11, 2, _, w) => decide (mlk own i tables_1[w]? = some Lib.Math.abs.name)
  | _ => false
set_option maxRecDepth 100000 in
set_option maxHeartbeats 4000000 in
theorem ent_ok0 : RTl.all (fun r => r.2.all (fun e => !Nat.beq e.2.1 0 || eOK r.1 e)) = true := by decide +kernel
set_option maxRecDepth 100000 in
set_option maxHeartbeats 4000000 in
theorem ent_ok1 : RTl.all (fun r => r.2.all (fun e => !Nat.beq e.2.1 1 || eOK r.1 e)) = true := by decide +kernel
set_option maxRecDepth 100000 in
set_option maxHeartbeats 4000000 in
theorem ent_ok2 : RTl.all (fun r => r.2.all (fun e => !Nat.beq e.2.1 2 || eOK r.1 e)) = true := by decide +kernel
set_option maxRecDepth 100000 in
set_option maxHeartbeats 4000000 in
theorem ent_ok3 : RTl.all (fun r => r.2.all (fun e => !Nat.beq e.2.1 3 || eOK r.1 e)) = true := by decide +kernel
set_option maxRecDepth 100000 in
set_option maxHeartbeats 4000000 in
theorem ent_ok4 : RTl.all (fun r => r.2.all (fun e => !Nat.beq e.2.1 4 || eOK r.1 e)) = true := by decide +kernel
set_option maxRecDepth 100000 in
set_option maxHeartbeats 4000000 in
theorem ent_ok5 : RTl.all (fun r => r.2.all (fun e => !Nat.beq e.2.1 5 || eOK r.1 e)) = true := by decide +kernel
set_option maxRecDepth 100000 in
set_option maxHeartbeats 4000000 in
theorem ent_ok6 : RTl.all (fun r => r.2.all (fun e => !Nat.beq e.2.1 6 || eOK r.1 e)) = true := by decide +kernel
set_option maxRecDepth 100000 in
set_option maxHeartbeats 4000000 in
theorem ent_ok7 : RTl.all (fun r => r.2.all (fun e => !Nat.beq e.2.1 7 || eOK r.1 e)) = true := by decide +kernel
set_option maxRecDepth 100000 in
set_option maxHeartbeats 4000000 in
theorem ent_ok8 : RTl.all (fun r => r.2.all (fun e => !Nat.beq e.2.1 8 || eOK r.1 e)) = true := by decide +kernel
set_option maxRecDepth 100000 in
set_option maxHeartbeats 4000000 in
theorem ent_ok11 : RTl.all (fun r => r.2.all (fun e => !Nat.beq e.2.1 11 || eOK r.1 e)) = true := by decide +kernel
