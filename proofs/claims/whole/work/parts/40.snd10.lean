/-! SOUNDNESS 10: a run's cost grows only; which instructions end, call or throw -/
def hle (h h' : AH) : Prop := costC h ≤ costC h' ∧ costS h ≤ costS h' ∧ h.1.length ≤ h'.1.length
theorem hle.rf (h : AH) : hle h h := ⟨Nat.le_refl _, Nat.le_refl _, Nat.le_refl _⟩
theorem hle.tr {a b c : AH} (h1 : hle a b) (h2 : hle b c) : hle a c := ⟨Nat.le_trans h1.1 h2.1, Nat.le_trans h1.2.1 h2.2.1, Nat.le_trans h1.2.2 h2.2.2⟩
def actH (a : Act) : AH := match a with
  | .inl c => c.2.2.2.2
  | .inr (.inl r) => r.2
  | .inr (.inr (.inl q)) => q.2.2.2.2.2.2.2
  | .inr (.inr (.inr r)) => r.2
theorem hle_set {h : AH} {p : Nat} {o o' : AO} (ho : hget h p = some o) (hz : osize o' = osize o) : hle h (hset h p o') := by
  obtain ⟨e1, e2⟩ := cost_set ho hz
  exact ⟨by rw [e1]; exact Nat.le_refl _, by rw [e2]; exact Nat.le_refl _, by simp [hset]⟩
theorem hle_push (h : AH) (o : AO) : hle h (hpush h o) := by
  refine ⟨?_, ?_, ?_⟩
  · show h.1.length + h.2 ≤ (h.1 ++ [o]).length + h.2
    simp
  · show (h.1.map osize).sum + 6 * h.2 ≤ ((h.1 ++ [o]).map osize).sum + 6 * h.2
    simp
  · show h.1.length ≤ (h.1 ++ [o]).length
    simp
theorem hle_exc (h : AH) : hle h (h.1, h.2 + 1) := by
  refine ⟨?_, ?_, Nat.le_refl _⟩
  · show h.1.length + h.2 ≤ h.1.length + (h.2 + 1)
    omega
  · show (h.1.map osize).sum + 6 * h.2 ≤ (h.1.map osize).sum + 6 * (h.2 + 1)
    omega
theorem hle_putF {h h' : AH} {p c k t : Nat} {v : AV} (e : putF h p c k t v = some h') : hle h h' := by
  unfold putF at e
  split at e
  · rename_i c' fs ho
    split at e
    · cases e
      exact hle_set ho (by simp [osize])
    · cases e
  · cases e
theorem hle_stI {h h' : AH} {T : Nat → Bool} {p : Nat} {i x : Int32} (e : stI h T p i x = some h') : hle h h' := by
  unfold stI at e
  split at e
  · rename_i t n f ho
    split at e
    · cases e
      exact hle_set ho rfl
    · cases e
  · cases e
theorem hle_stR {h h' : AH} {p : Nat} {i : Int32} {v : AV} (e : stR h p i v = some h') : hle h h' := by
  unfold stR at e
  split at e
  · rename_i n f k ho
    split at e
    · split at e
      · cases e
        exact hle_set ho rfl
      · cases e
    · cases e
  · cases e
theorem hle_copy {sc : SC} {h h' : AH} {v : AV} {sp dp n : Int32} {q : Nat} (e : copyA sc h v sp q dp n = some h') : hle h h' := by
  unfold copyA at e
  split at e
  · rename_i t n0 f t' n1 g ho ho1
    obtain ⟨-, e⟩ := ite_some9 e
    rw [← e]
    exact hle_set ho1 rfl
  · cases e
/-- the instructions that end a frame, call or throw -/
def sp (ins : Instr) : Bool := match ins with
  | .ireturn | .areturn | .dreturn | .freturn | .return_ | .new _ | .invokevirtual _ | .invokespecial _ | .invokestatic _ => true
  | _ => false
def GG (h : AH) (a : Act) (ins : Instr) : Prop := hle h (actH a) ∧ ((∃ c, a = .inl c) ∨ sp ins = true)
section
variable {sc : SC} {mi : MI} {pc : Nat} {L : List AV} {dl : DL} {st : List AV} {h : AH} {a : Act} {ins : Instr}
theorem h_go2 {h' : AH} (hh : hle h h') (e : go pc L dl st h' = some a) : GG h a ins := by
  unfold go at e
  cases e
  exact ⟨hh, Or.inl ⟨_, rfl⟩⟩
theorem h_go (e : go pc L dl st h = some a) : GG h a ins := h_go2 (hle.rf h) e
theorem h_nl {k n : Nat} (e : nl L k n pc dl st h = some a) : GG h a ins := by
  unfold nl at e
  repeat' split at e
  all_goals first | exact h_go e | (cases e; done)
theorem h_al {k n : Nat} (e : al L k n pc dl st h = some a) : GG h a ins := by
  unfold al at e
  repeat' split at e
  all_goals first | exact h_go e | (cases e; done)
theorem h_fl {k n : Nat} (e : fl L k n pc dl st h = some a) : GG h a ins := by
  unfold fl at e
  repeat' split at e
  all_goals first | exact h_go e | (cases e; done)
theorem h_el {k n : Nat} (e : el L k n pc dl st h = some a) : GG h a ins := by
  unfold el at e
  repeat' split at e
  all_goals first | exact h_go e | (cases e; done)
theorem h_ns {m k n : Nat} (e : ns m L k n pc dl st h = some a) : GG h a ins := by
  unfold ns at e
  repeat' split at e
  all_goals first | exact h_go e | (cases e; done)
theorem h_as {m k n : Nat} (e : as' m L k n pc dl st h = some a) : GG h a ins := by
  unfold as' at e
  repeat' split at e
  all_goals first | exact h_go e | (cases e; done)
theorem h_fs {m k n : Nat} (e : fs' m L k n pc dl st h = some a) : GG h a ins := by
  unfold fs' at e
  repeat' split at e
  all_goals first | exact h_go e | (cases e; done)
theorem h_es {m k n : Nat} (e : es m L k n pc st h = some a) : GG h a ins := by
  unfold es at e
  repeat' split at e
  all_goals first | exact h_go e | (cases e; done)
theorem h_bin {f : Int32 → Int32 → Int32} (e : bin f pc L dl st h = some a) : GG h a ins := by
  unfold bin at e
  repeat' split at e
  all_goals first | exact h_go e | (cases e; done)
theorem h_una {f : Int32 → AV} (e : una f pc L dl st h = some a) : GG h a ins := by
  unfold una at e
  repeat' split at e
  all_goals first | exact h_go e | (cases e; done)
theorem h_icmp {P : Int32 → Int32 → Prop} [∀ x y, Decidable (P x y)] {off : Int} (e : icmp P pc off L dl st h = some a) : GG h a ins := by
  unfold icmp at e
  split at e
  · exact h_go e
  · cases e
theorem h_thr {E : Nat} (hs : sp ins = true) (e : throwA mi pc E L st h = some a) : GG h a ins := by
  unfold throwA at e
  repeat' split at e
  all_goals first | (cases e; done) | (cases e; exact ⟨hle_exc h, Or.inr hs⟩)
theorem h_call {y kd : Nat} (hs : sp ins = true) (e : callA sc mi y kd pc L dl st h = some a) : GG h a ins := by
  unfold callA at e
  repeat' split at e
  all_goals first | (cases e; done) | (cases e; exact ⟨hle.rf h, Or.inr hs⟩)
theorem h_inv {iv idx : Nat} (hs : sp ins = true) (e : invA sc mi iv idx pc L dl st h = some a) : GG h a ins := by
  unfold invA at e
  repeat' split at e
  all_goals first | (cases e; done) | exact h_call hs e | exact h_go e | (rename_i hc; exact h_go2 (hle_copy hc) e)
theorem st1_G {len : Nat} (hst : st1 sc mi ins len pc L dl st h = some a) : GG h a ins := by
  cases ins with
  | iload k => exact h_nl hst
  | iload_n k => exact h_nl hst
  | aload k => exact h_al hst
  | aload_n k => exact h_al hst
  | fload k => exact h_fl hst
  | fload_n k => exact h_fl hst
  | dload k => exact h_el hst
  | dload_n k => exact h_el hst
  | istore k => exact h_ns hst
  | istore_n k => exact h_ns hst
  | astore k => exact h_as hst
  | astore_n k => exact h_as hst
  | fstore k => exact h_fs hst
  | fstore_n k => exact h_fs hst
  | dstore k => exact h_es hst
  | dstore_n k => exact h_es hst
  | iadd => exact h_bin hst
  | isub => exact h_bin hst
  | imul => exact h_bin hst
  | iand => exact h_bin hst
  | ior => exact h_bin hst
  | ixor => exact h_bin hst
  | ishl => exact h_bin hst
  | ishr => exact h_bin hst
  | iushr => exact h_bin hst
  | ineg => exact h_una hst
  | i2l => exact h_una hst
  | i2b => exact h_una hst
  | i2c => exact h_una hst
  | i2d => exact h_una hst
  | i2f => exact h_una hst
  | if_icmp c off => cases c <;> exact h_icmp hst
  | ifCond c off => cases c <;> exact h_icmp hst
  | invokevirtual i => exact h_inv rfl hst
  | invokespecial i => exact h_inv rfl hst
  | invokestatic i => exact h_inv rfl hst
  | new i =>
    simp only [st1] at hst
    repeat' split at hst
    all_goals first | (cases hst; done) | exact h_thr rfl hst | exact h_go2 (hle_push _ _) hst
  | newarray t =>
    simp only [st1] at hst
    repeat' split at hst
    all_goals first | (cases hst; done) | exact h_go2 (hle_push _ _) hst
  | anewarray i =>
    simp only [st1] at hst
    repeat' split at hst
    all_goals first | (cases hst; done) | exact h_go2 (hle_push _ _) hst
  | putfield i =>
    simp only [st1] at hst
    repeat' split at hst
    all_goals first | (cases hst; done) | exact h_go2 (hle_putF (by assumption)) hst
  | iastore =>
    simp only [st1] at hst
    repeat' split at hst
    all_goals first | (cases hst; done) | exact h_go2 (hle_stI (by assumption)) hst
  | castore =>
    simp only [st1] at hst
    repeat' split at hst
    all_goals first | (cases hst; done) | exact h_go2 (hle_stI (by assumption)) hst
  | bastore =>
    simp only [st1] at hst
    repeat' split at hst
    all_goals first | (cases hst; done) | exact h_go2 (hle_stI (by assumption)) hst
  | aastore =>
    simp only [st1] at hst
    repeat' split at hst
    all_goals first | (cases hst; done) | exact h_go2 (hle_stR (by assumption)) hst
  | lastore =>
    simp only [st1] at hst
    repeat' split at hst
    all_goals first | (cases hst; done) | (rename_i ho _; refine h_go2 ?_ hst; exact hle_set ho rfl)
  | dastore =>
    simp only [st1] at hst
    repeat' split at hst
    all_goals first | (cases hst; done) | (rename_i ho _; refine h_go2 ?_ hst; exact hle_set ho rfl)
  | ireturn =>
    simp only [st1] at hst
    repeat' split at hst
    all_goals first | (cases hst; done) | (cases hst; exact ⟨hle.rf h, Or.inr rfl⟩)
  | areturn =>
    simp only [st1] at hst
    repeat' split at hst
    all_goals first | (cases hst; done) | (cases hst; exact ⟨hle.rf h, Or.inr rfl⟩)
  | dreturn =>
    simp only [st1] at hst
    repeat' split at hst
    all_goals first | (cases hst; done) | (cases hst; exact ⟨hle.rf h, Or.inr rfl⟩)
  | freturn =>
    simp only [st1] at hst
    repeat' split at hst
    all_goals first | (cases hst; done) | (cases hst; exact ⟨hle.rf h, Or.inr rfl⟩)
  | return_ =>
    simp only [st1] at hst
    repeat' split at hst
    all_goals first | (cases hst; done) | (cases hst; exact ⟨hle.rf h, Or.inr rfl⟩)
  | if_acmp c off =>
    cases c <;> simp only [st1] at hst <;> repeat' split at hst
    all_goals first | (cases hst; done) | exact h_go hst
  | _ =>
    simp only [st1] at hst
    repeat' split at hst
    all_goals first | (cases hst; done) | exact h_go hst
theorem stp_G (hst : stp sc mi pc L dl st h = some a) : ∃ ins len, decode (mB mi) pc = .ok (ins, len) ∧ lenOK ins len = true ∧ st1 sc mi ins len pc L dl st h = some a ∧ GG h a ins := by
  unfold stp at hst
  cases hd : decode (mB mi) pc with
  | error z => rw [hd] at hst; cases hst
  | ok z =>
    obtain ⟨ins, len⟩ := z
    rw [hd] at hst
    simp only at hst
    split at hst
    · rename_i hlen
      exact ⟨ins, len, rfl, hlen, hst, st1_G hst⟩
    · cases hst
theorem stp_le (hst : stp sc mi pc L dl st h = some a) : hle h (actH a) := by
  obtain ⟨ins, len, e1, e2, e3, g⟩ := stp_G hst
  exact g.1
end
theorem ex_hle (sc : SC) : ∀ (n k pc : Nat) (L : List AV) (dl : DL) (st : List AV) (h : AH) (r : Res), ex sc n k pc L dl st h = some r → hle h r.2 := by
  intro n
  induction n with
  | zero => intro k pc L dl st h r e; simp [ex] at e
  | succ n ih =>
    intro k pc L dl st h r e
    rw [ex] at e
    cases hm : MT k with
    | none => simp [hm] at e
    | some mi =>
      simp only [hm] at e
      cases hs : stp sc mi pc L dl st h with
      | none => simp [hs] at e
      | some a =>
        have hl := stp_le hs
        simp only [hs] at e
        rcases a with c | c | ⟨y, kd, args, c⟩ | c
        · exact hl.tr (ih _ _ _ _ _ _ _ e)
        · simp only [Option.some.injEq] at e
          rw [← e]
          exact hl
        · simp only at e
          have hl2 : hle h c.2.2.2.2 := hl
          cases hy : MT y with
          | none => simp [hy] at e
          | some my =>
            simp only [hy] at e
            cases hr : ex sc n y 0 (ent (mL my) args) none [] c.2.2.2.2 with
            | none => simp [hr] at e
            | some q =>
              have h1 := ih _ _ _ _ _ _ _ hr
              simp only [hr] at e
              obtain ⟨o, h2⟩ := q
              cases o with
              | inl v => exact (hl2.tr h1).tr (ih _ _ _ _ _ _ _ e)
              | inr E =>
                simp only at e
                by_cases hk : kd = 0 ∨ kd = 1
                · rw [if_pos hk] at e
                  cases hh : hnd mi pc E (mHH mi) with
                  | none => rw [hh] at e; cases e
                  | some x =>
                    rw [hh] at e
                    cases x with
                    | none =>
                      simp only [Option.some.injEq] at e
                      rw [← e]
                      exact hl2.tr h1
                    | some q => exact (hl2.tr h1).tr (ih _ _ _ _ _ _ _ e)
                · rw [if_neg hk] at e
                  cases e
        · simp only [Option.some.injEq] at e
          rw [← e]
          exact hl
