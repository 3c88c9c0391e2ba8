/-! more equations: references whose kind is not known, calls of static methods and constructors, throws -/
section
variable {sc : SC} {k pc : Nat} {mi : MI} {L : List AV} {dl : DL} {r : List AV} {h : AH}
theorem q_aloadV {v : AV} {i n len : Nat} {ins : Instr} {st : List AV} (hm : MT k = some mi) (hd : decode (mB mi) pc = .ok (ins, len)) (hi : ∀ (L : List AV) (dl : DL) (st : List AV) (h : AH), st1 sc mi ins len pc L dl st h = al L i n pc dl st h) (hv : L[i]? = some v) (hlen : lenOK ins len = true := by rfl) : Run sc k pc L dl st h = bI (aObj v = true) (Run sc k (pc + n) L dl (v :: st) h) := by
  by_cases hn : aObj v = true
  · rw [bI_t hn]
    exact Run_go (c := (pc + n, L, dl, v :: st, h)) hm (stp_ok hd (by rw [hi]; unfold al; rw [hv]; simp only; rw [if_pos hn]; rfl) hlen)
  · rw [bI_f hn]
    exact Run_none hm (stp_ok hd (by rw [hi]; unfold al; rw [hv]; simp only; rw [if_neg hn]) hlen)
theorem q_astoreV {v : AV} {i n len : Nat} {ins : Instr} (hm : MT k = some mi) (hd : decode (mB mi) pc = .ok (ins, len)) (hi : ∀ (L : List AV) (dl : DL) (st : List AV) (h : AH), st1 sc mi ins len pc L dl st h = as' (mL mi) L i n pc dl st h) (hl : i < mL mi) (hlen : lenOK ins len = true := by rfl) : Run sc k pc L dl (v :: r) h = bI (aObj v = true) (Run sc k (pc + n) (L.set i v) (dlc i dl) r h) := by
  by_cases hn : aObj v = true
  · rw [bI_t hn]
    exact Run_go (c := (pc + n, L.set i v, dlc i dl, r, h)) hm (stp_ok hd (by rw [hi]; unfold as'; simp only; rw [if_pos ⟨hn, hl⟩]; rfl) hlen)
  · rw [bI_f hn]
    exact Run_none hm (stp_ok hd (by rw [hi]; unfold as'; simp only; rw [if_neg (fun q => hn q.1)]) hlen)
theorem q_aretV {v : AV} (hm : MT k = some mi) (hd : decode (mB mi) pc = .ok (.areturn, 1)) (hra : retA (mRet mi) = true := by rfl) : Run sc k pc L dl (v :: r) h = bI (aObj v = true) (some (.inl (some v), h)) := by
  by_cases hn : aObj v = true
  · rw [bI_t hn]
    exact Run_ret (c := (some v, h)) hm (stp_ok hd (by simp only [st1]; rw [if_pos ⟨hn, hra⟩]))
  · rw [bI_f hn]
    exact Run_none hm (stp_ok hd (by simp only [st1]; rw [if_neg (fun q => hn q.1)]))
theorem st1_callS {st : List AV} {y kd : Nat} {my : MI} (hy : MT y = some my) (hk : kd = 1 ∨ kd = 6) (h1 : mNa my ≤ st.length ∧ mRk my < mRk mi ∧ aWt (st.drop (mNa my)) ≤ 8 ∧ ((st.take (mNa my)).all fun v => aCat v == 1) = true) :
    callA sc mi y kd pc L dl st h = some (.inr (.inr (.inl (y, kd, (st.take (mNa my)).reverse, (pc + 3, L, dl, st.drop (mNa my), h))))) := by
  unfold callA
  simp only [hy]
  rw [if_pos h1, if_neg (by omega), if_neg (by omega)]
theorem st1_callI {st : List AV} {y kd : Nat} {my : MI} {v : AV} (hy : MT y = some my) (hk : kd = 2 ∨ kd = 5) (h1 : mNa my ≤ st.length ∧ mRk my < mRk mi ∧ aWt (st.drop (mNa my)) ≤ 8 ∧ ((st.take (mNa my)).all fun v => aCat v == 1) = true) (hv : (st.take (mNa my)).getLast? = some v) (hn : aObj v = true) :
    callA sc mi y kd pc L dl st h = some (.inr (.inr (.inl (y, kd, (st.take (mNa my)).reverse, (pc + 3, L, dl, st.drop (mNa my), h))))) := by
  unfold callA
  simp only [hy]
  rw [if_pos h1, if_neg (by omega), if_pos hk]
  simp only [hv]
  rw [if_pos hn]
theorem q_callS {st : List AV} {y a w : Nat} {my : MI} (hm : MT k = some mi) (hd : decode (mB mi) pc = .ok (.invokestatic a, 3)) (hr : rs (mCn mi) a = some (2, y, 1, w)) (hy : MT y = some my) (hh : mHH mi = [])
    (h1 : mNa my ≤ st.length ∧ mRk my < mRk mi ∧ aWt (st.drop (mNa my)) ≤ 8 ∧ ((st.take (mNa my)).all fun v => aCat v == 1) = true) :
    Run sc k pc L dl st h = bC (Call sc y (st.take (mNa my)).reverse h) (fun v h1 => Run sc k (pc + 3) L dl (v.toList ++ st.drop (mNa my)) h1) (fun E h1 => some (.inr E, h1)) :=
  q_call (c := (pc + 3, L, dl, st.drop (mNa my), h)) (kd := 1) hm hd (by simp only [st1, invA, hr]; rw [if_pos (show kOK _ _ = true from rfl)]; exact st1_callS hy (Or.inl rfl) h1) (Or.inr rfl) hh
theorem q_callSD {st : List AV} {y a w : Nat} {my : MI} (hm : MT k = some mi) (hd : decode (mB mi) pc = .ok (.invokestatic a, 3)) (hr : rs (mCn mi) a = some (2, y, 6, w)) (hy : MT y = some my)
    (h1 : mNa my ≤ st.length ∧ mRk my < mRk mi ∧ aWt (st.drop (mNa my)) ≤ 8 ∧ ((st.take (mNa my)).all fun v => aCat v == 1) = true) :
    Run sc k pc L dl st h = bC (Call sc y (st.take (mNa my)).reverse h) (fun v h1 => Run sc k (pc + 3) L dl (v.toList ++ st.drop (mNa my)) h1) (fun _ _ => none) :=
  q_callD (c := (pc + 3, L, dl, st.drop (mNa my), h)) (kd := 6) hm hd (by simp only [st1, invA, hr]; rw [if_pos (show kOK _ _ = true from rfl)]; exact st1_callS hy (Or.inr rfl) h1) (by decide)
theorem q_callI {st : List AV} {y a w kd : Nat} {my : MI} {v : AV} (hm : MT k = some mi) (hd : decode (mB mi) pc = .ok (.invokespecial a, 3)) (hr : rs (mCn mi) a = some (2, y, kd, w)) (hy : MT y = some my) (hk : kd = 2 ∨ kd = 5)
    (h1 : mNa my ≤ st.length ∧ mRk my < mRk mi ∧ aWt (st.drop (mNa my)) ≤ 8 ∧ ((st.take (mNa my)).all fun v => aCat v == 1) = true) (hv : (st.take (mNa my)).getLast? = some v) (hn : aObj v = true) :
    Run sc k pc L dl st h = bC (Call sc y (st.take (mNa my)).reverse h) (fun v h1 => Run sc k (pc + 3) L dl (v.toList ++ st.drop (mNa my)) h1) (fun _ _ => none) :=
  q_callD (c := (pc + 3, L, dl, st.drop (mNa my), h)) (kd := kd) hm hd (by simp only [st1, invA, hr]; rw [if_pos (by rcases hk with rfl | rfl <;> rfl)]; exact st1_callI hy hk h1 hv hn) (by omega)
noncomputable def xh (sc : SC) (k : Nat) (L : List AV) (dl : DL) (h1 : AH) (E : Nat) (x : Option (Option (Nat × Nat))) : Option Res := match x with
  | some none => some (.inr E, h1)
  | some (some (i, t)) => Run sc k t (L.set i aU) (dlc i dl) [] h1
  | none => none
theorem q_callRH {st : List AV} {y a w : Nat} {my : MI} {v : AV} (hm : MT k = some mi) (hd : decode (mB mi) pc = .ok (.invokevirtual a, 3)) (hr : rs (mCn mi) a = some (2, y, 0, w)) (hy : MT y = some my)
    (h1 : mNa my ≤ st.length ∧ mRk my < mRk mi ∧ aWt (st.drop (mNa my)) ≤ 8 ∧ ((st.take (mNa my)).all fun v => aCat v == 1) = true) (hv : (st.take (mNa my)).getLast? = some v) :
    Run sc k pc L dl st h = bI (rOK sc h v (mRci my) = true) (bC (Call sc y (st.take (mNa my)).reverse h) (fun v h1 => Run sc k (pc + 3) L dl (v.toList ++ st.drop (mNa my)) h1) (fun E h1 => xh sc k L dl h1 E (hnd mi pc E (mHH mi)))) := by
  have e : st1 sc mi (.invokevirtual a) 3 pc L dl st h = if rOK sc h v (mRci my) = true then some (.inr (.inr (.inl (y, 0, (st.take (mNa my)).reverse, (pc + 3, L, dl, st.drop (mNa my), h))))) else none := by
    simp only [st1, invA, hr]
    rw [if_pos (show kOK _ _ = true from rfl)]
    exact st1_callR hy (Or.inl rfl) h1 hv
  by_cases hro : rOK sc h v (mRci my) = true
  · rw [if_pos hro] at e
    rw [bI_t hro]
    cases hq : Call sc y (st.take (mNa my)).reverse h with
    | none => exact Run_callN hm (stp_ok hd e) hq
    | some q =>
      obtain ⟨o, h9⟩ := q
      cases o with
      | inl v9 => exact Run_call hm (stp_ok hd e) hq
      | inr E =>
        show _ = xh sc k L dl h9 E (hnd mi pc E (mHH mi))
        cases hx : hnd mi pc E (mHH mi) with
        | some x =>
          cases x with
          | none => exact Run_callX hm (stp_ok hd e) hq (Or.inl rfl) hx
          | some it => exact Run_callC hm (stp_ok hd e) hq (Or.inl rfl) hx
        | none =>
          show _ = none
          cases hz : Run sc k pc L dl st h with
          | none => rfl
          | some r9 =>
            obtain ⟨n, e9⟩ := Run_iff.mp hz
            cases n with
            | zero => simp [ex] at e9
            | succ n =>
              rw [ex] at e9
              simp only [hm, stp_ok hd e] at e9
              unfold Call at hq
              rw [hy] at hq
              simp only [hy] at e9
              cases hw : ex sc n y 0 (ent (mL my) (st.take (mNa my)).reverse) none [] h with
              | none => simp [hw] at e9
              | some z =>
                have h8 := Run_iff.mpr ⟨n, hw⟩
                have := Option.some.inj (h8.symm.trans hq)
                subst this
                simp [hw, hx] at e9
  · rw [if_neg hro] at e
    rw [bI_f hro]
    exact Run_none hm (stp_ok hd e)
theorem q_throw {st : List AV} {ins : Instr} {len : Nat} {c : Nat × AH} (hm : MT k = some mi) (hd : decode (mB mi) pc = .ok (ins, len)) (ha : st1 sc mi ins len pc L dl st h = some (.inr (.inr (.inr c)))) (hlen : lenOK ins len = true := by rfl) : Run sc k pc L dl st h = some (.inr c.1, c.2) := Run_thr hm (stp_ok hd ha hlen)
theorem throwA_S {E a b w1 w2 w3 w4 w5 : Nat} {st : List AV} (h0 : mHH mi = []) (hw : aWt st ≤ 8) (d3 : decode (mB mi) (pc + 3) = .ok (.dup, 1)) (d4 : decode (mB mi) (pc + 4) = .ok (.ldc a, 2)) (d6 : decode (mB mi) (pc + 6) = .ok (.invokespecial b, 3)) (d9 : decode (mB mi) (pc + 9) = .ok (.athrow, 1)) (ha : rs (mCn mi) a = some (8, w1, w2, w5)) (hb : rs (mCn mi) b = some (9, E, w3, w4)) : throwA mi pc E L st h = some (.inr (.inr (.inr (E, (h.1, h.2 + 1))))) := by
  unfold throwA
  rw [if_pos ⟨h0, hw⟩, d3, d4]
  simp only [d6, d9, ha, hb, if_true]
theorem throwA_W {E a b w1 w2 w3 w4 w5 : Nat} {st : List AV} (h0 : mHH mi = []) (hw : aWt st ≤ 8) (d3 : decode (mB mi) (pc + 3) = .ok (.dup, 1)) (d4 : decode (mB mi) (pc + 4) = .ok (.ldc_w a, 3)) (d6 : decode (mB mi) (pc + 7) = .ok (.invokespecial b, 3)) (d9 : decode (mB mi) (pc + 10) = .ok (.athrow, 1)) (ha : rs (mCn mi) a = some (8, w1, w2, w5)) (hb : rs (mCn mi) b = some (9, E, w3, w4)) : throwA mi pc E L st h = some (.inr (.inr (.inr (E, (h.1, h.2 + 1))))) := by
  unfold throwA
  rw [if_pos ⟨h0, hw⟩, d3, d4]
  simp only [d6, d9, ha, hb, if_true]
theorem q_new {st : List AV} {a E i w : Nat} (hm : MT k = some mi) (hd : decode (mB mi) pc = .ok (.new a, 3)) (hr : rs (mCn mi) a = some (4, E, i, w)) (ht : throwA mi pc E L st h = some (.inr (.inr (.inr (E, (h.1, h.2 + 1)))))) : Run sc k pc L dl st h = some (.inr E, (h.1, h.2 + 1)) :=
  Run_thr (c := (E, (h.1, h.2 + 1))) hm (stp_ok hd (by simp only [st1, hr]; exact ht))
end
/-- the conditions of a call, as one check -/
def cOK (my mi : MI) (st : List AV) : Bool := Nat.ble (mNa my) st.length && (Nat.blt (mRk my) (mRk mi) && (Nat.ble (aWt (st.drop (mNa my))) 8 && (st.take (mNa my)).all fun v => aCat v == 1))
theorem cOK_sp {my mi : MI} {st : List AV} (h : cOK my mi st = true) : mNa my ≤ st.length ∧ mRk my < mRk mi ∧ aWt (st.drop (mNa my)) ≤ 8 ∧ ((st.take (mNa my)).all fun v => aCat v == 1) = true := by
  simp only [cOK, Bool.and_eq_true] at h
  obtain ⟨h1, h2, h3, h4⟩ := h
  refine ⟨Nat.le_of_ble_eq_true h1, ?_, Nat.le_of_ble_eq_true h3, h4⟩
  exact Nat.le_of_ble_eq_true h2
section
variable {sc : SC} {k pc : Nat} {mi : MI} {L : List AV} {dl : DL} {r : List AV} {h : AH}
theorem q_cV {st : List AV} {y a w : Nat} {my : MI} {v : AV} (hm : MT k = some mi) (hd : decode (mB mi) pc = .ok (.invokevirtual a, 3)) (hr : rs (mCn mi) a = some (2, y, 0, w)) (hy : MT y = some my) (hh : mHH mi = []) (h1 : cOK my mi st = true) (hv : (st.take (mNa my)).getLast? = some v) :
    Run sc k pc L dl st h = bI (rOK sc h v (mRci my) = true) (bC (Call sc y (st.take (mNa my)).reverse h) (fun v h1 => Run sc k (pc + 3) L dl (v.toList ++ st.drop (mNa my)) h1) (fun E h1 => some (.inr E, h1))) :=
  q_callR hm hd (fun _ _ _ _ => rfl) hr hy rfl hh (cOK_sp h1) hv
theorem q_cU {st : List AV} {y a w : Nat} {my : MI} {v : AV} (hm : MT k = some mi) (hd : decode (mB mi) pc = .ok (.invokevirtual a, 3)) (hr : rs (mCn mi) a = some (2, y, 3, w)) (hy : MT y = some my) (h1 : cOK my mi st = true) (hv : (st.take (mNa my)).getLast? = some v) :
    Run sc k pc L dl st h = bI (rOK sc h v (mRci my) = true) (bC (Call sc y (st.take (mNa my)).reverse h) (fun v h1 => Run sc k (pc + 3) L dl (v.toList ++ st.drop (mNa my)) h1) (fun _ _ => none)) :=
  q_callRD hm hd (fun _ _ _ _ => rfl) rfl hr hy (Or.inl rfl) (cOK_sp h1) hv
theorem q_cSU {st : List AV} {y a w : Nat} {my : MI} {v : AV} (hm : MT k = some mi) (hd : decode (mB mi) pc = .ok (.invokespecial a, 3)) (hr : rs (mCn mi) a = some (2, y, 4, w)) (hy : MT y = some my) (h1 : cOK my mi st = true) (hv : (st.take (mNa my)).getLast? = some v) :
    Run sc k pc L dl st h = bI (rOK sc h v (mRci my) = true) (bC (Call sc y (st.take (mNa my)).reverse h) (fun v h1 => Run sc k (pc + 3) L dl (v.toList ++ st.drop (mNa my)) h1) (fun _ _ => none)) :=
  q_callRD hm hd (fun _ _ _ _ => rfl) rfl hr hy (Or.inr rfl) (cOK_sp h1) hv
theorem q_cS {st : List AV} {y a w : Nat} {my : MI} (hm : MT k = some mi) (hd : decode (mB mi) pc = .ok (.invokestatic a, 3)) (hr : rs (mCn mi) a = some (2, y, 1, w)) (hy : MT y = some my) (hh : mHH mi = []) (h1 : cOK my mi st = true) :
    Run sc k pc L dl st h = bC (Call sc y (st.take (mNa my)).reverse h) (fun v h1 => Run sc k (pc + 3) L dl (v.toList ++ st.drop (mNa my)) h1) (fun E h1 => some (.inr E, h1)) := q_callS hm hd hr hy hh (cOK_sp h1)
theorem q_cSD {st : List AV} {y a w : Nat} {my : MI} (hm : MT k = some mi) (hd : decode (mB mi) pc = .ok (.invokestatic a, 3)) (hr : rs (mCn mi) a = some (2, y, 6, w)) (hy : MT y = some my) (h1 : cOK my mi st = true) :
    Run sc k pc L dl st h = bC (Call sc y (st.take (mNa my)).reverse h) (fun v h1 => Run sc k (pc + 3) L dl (v.toList ++ st.drop (mNa my)) h1) (fun _ _ => none) := q_callSD hm hd hr hy (cOK_sp h1)
theorem q_cI {st : List AV} {y a w : Nat} {my : MI} {v : AV} (hm : MT k = some mi) (hd : decode (mB mi) pc = .ok (.invokespecial a, 3)) (hr : rs (mCn mi) a = some (2, y, 2, w)) (hy : MT y = some my) (h1 : cOK my mi st = true) (hv : (st.take (mNa my)).getLast? = some v) (hn : aObj v = true) :
    Run sc k pc L dl st h = bC (Call sc y (st.take (mNa my)).reverse h) (fun v h1 => Run sc k (pc + 3) L dl (v.toList ++ st.drop (mNa my)) h1) (fun _ _ => none) := q_callI hm hd hr hy (Or.inl rfl) (cOK_sp h1) hv hn
theorem q_cIN {st : List AV} {y a w : Nat} {my : MI} {v : AV} (hm : MT k = some mi) (hd : decode (mB mi) pc = .ok (.invokespecial a, 3)) (hr : rs (mCn mi) a = some (2, y, 5, w)) (hy : MT y = some my) (h1 : cOK my mi st = true) (hv : (st.take (mNa my)).getLast? = some v) (hn : aObj v = true) :
    Run sc k pc L dl st h = bC (Call sc y (st.take (mNa my)).reverse h) (fun v h1 => Run sc k (pc + 3) L dl (v.toList ++ st.drop (mNa my)) h1) (fun _ _ => none) := q_callI hm hd hr hy (Or.inr rfl) (cOK_sp h1) hv hn
theorem q_cH {st : List AV} {y a w : Nat} {my : MI} {v : AV} (hm : MT k = some mi) (hd : decode (mB mi) pc = .ok (.invokevirtual a, 3)) (hr : rs (mCn mi) a = some (2, y, 0, w)) (hy : MT y = some my) (h1 : cOK my mi st = true) (hv : (st.take (mNa my)).getLast? = some v) :
    Run sc k pc L dl st h = bI (rOK sc h v (mRci my) = true) (bC (Call sc y (st.take (mNa my)).reverse h) (fun v h1 => Run sc k (pc + 3) L dl (v.toList ++ st.drop (mNa my)) h1) (fun E h1 => xh sc k L dl h1 E (hnd mi pc E (mHH mi)))) := q_callRH hm hd hr hy (cOK_sp h1) hv
end
