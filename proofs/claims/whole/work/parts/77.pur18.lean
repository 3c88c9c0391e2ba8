/-! PURE 18: executions: agreement, the loop -/
/-- two executions that show the same -/
def AG (s s' : XS) : Prop := s.1 = s'.1 ∧ s.2.1 = s'.2.1 ∧ (∀ j, j < 24 → s.2.2.1 j = s'.2.2.1 j) ∧ (∀ j, j < s.2.2.2.2.1 → s.2.2.2.1 j = s'.2.2.2.1 j) ∧ s.2.2.2.2.1 = s'.2.2.2.2.1 ∧ s.2.2.2.2.2 = s'.2.2.2.2.2
theorem upd_ag {v v' : Nat → Int32} {n a : Nat} {x : Int32} (hh : ∀ j, j < n → v j = v' j) : ∀ j, j < n → upd v a x j = upd v' a x j := by
  intro j hj
  rw [upd_eq, upd_eq]
  split
  · rfl
  · exact hh j hj
theorem cs1_ag {X : Nat → Nat → Int32} {n : Nat} {hs : Bool} {s s' : XS} (hg : VG n X) (ha : s.1 < n) (hh : AG s s') : AG (cs1 X n hs s) (cs1 X n hs s') := by
  obtain ⟨a, af, v, o, m, st⟩ := s
  obtain ⟨a', af', v', o', m', st'⟩ := s'
  obtain ⟨h1, h2, h3, h4, h5, h6⟩ := hh
  simp only at h1 h2 h3 h4 h5 h6 ha
  subst h1 h2 h5 h6
  have r1 := hg.r1 ha
  have r2 := hg.r2 ha
  have e1 := h3 (rg X a 1) (by omega)
  have e2 := h3 (rg X a 2) (by omega)
  have htk : tkX X a v = tkX X a v' := by
    unfold tkX
    rw [e1, e2]
  have hnx : nxX X hs a v = nxX X hs a v' := by
    unfold nxX
    rw [htk]
  have hdu : dueX X hs a v = dueX X hs a v' := by
    unfold dueX
    rw [htk]
  have hce : cell X v a = cell X v' a := by
    unfold cell
    rw [e2]
  unfold cs1
  simp only
  rw [hnx, hdu]
  split
  · split
    · exact ⟨rfl, rfl, h3, h4, rfl, rfl⟩
    · exact ⟨rfl, rfl, h3, h4, rfl, rfl⟩
  · split
    · exact ⟨rfl, rfl, h3, h4, rfl, rfl⟩
    · refine ⟨rfl, rfl, ?_, ?_, rfl, rfl⟩
      · show ∀ j, j < 24 → pfV X a v j = pfV X a v' j
        unfold pfV
        rw [e1, e2, hce, h3 (cell X v' a) (cell_ok X v' a).2]
        split
        · exact upd_ag h3
        · split
          · exact upd_ag h3
          · split
            · rename_i h9
              rw [h3 (rg X a 3) (by have := (hg.r3 ha (by rw [h9]; rfl)).2; omega)]
              exact upd_ag h3
            · split
              · rename_i h9
                rw [h3 (rg X a 3) (by have := (hg.r3 ha (by rw [h9]; rfl)).2; omega)]
                exact upd_ag h3
              · split
                · exact upd_ag h3
                · split
                  · exact upd_ag h3
                  · exact h3
      · show ∀ j, j < pfN X a m → pfO X a v o m j = pfO X a v' o' m j
        unfold pfN pfO
        rw [e1]
        split
        · intro j hj
          rw [upd_eq, upd_eq]
          split
          · rfl
          · exact h4 j (by omega)
        · exact h4
theorem cs_ag {X : Nat → Nat → Int32} {n : Nat} {hs : Bool} (hg : VG n X) : ∀ d (s s' : XS), AG s s' → AG (csX X n hs d s) (csX X n hs d s') := by
  intro d
  induction d with
  | zero => exact fun s s' hh => hh
  | succ d ih =>
    intro s s' hh
    unfold csX
    by_cases ha : s.1 < n
    · rw [if_pos ha, if_pos (by rw [← hh.1]; exact ha)]
      exact ih _ _ (cs1_ag hg ha hh)
    · rw [if_neg ha, if_neg (by rw [← hh.1]; exact ha)]
      exact hh
section
variable {sc : SC} {h h' : AH} {p q p3 N n a i j k No m st m' st' L nx : Nat} {f f3 v o v' o' : Nat → Int32} {x x6 : Int32} {S : Nat → Prop} {v7 v8 v9 v10 : AV} {hs : Bool}
theorem l_exec (hpq : p + 2 < q ∨ q + 1 < p) (hv : VK n (xC n f)) (hg : VG n (xC n f)) (ht : VT n (xC n f)) (hf : VF n (xC n f) ∨ (hs = false ∧ ∀ k, k < n → kBr (kx (xC n f) k) = true → ltX (xC n f) k ≤ n)) (hL : L ≤ No) : ∀ d (s : XS), s.2.2.2.2.2 + d = L → AO1 n s → ∀ h v7 v8 v9 v10, MA h p s.2.2.1 No s.2.2.2.1 s.2.2.2.2.1 s.2.2.2.2.2 → PG h q N n f → ∃ h', Run sc n_X5_executes 31 [aD p, aD q, aI (zI hs), aD p3, aI (nI L), aI (nI s.1), aI (enc s.2.1), v7, v8, v9, v10] none [] h = some (.inl (some (aI (zI (decide (n ≤ (csX (xC n f) n hs d s).1))))), h') ∧ MA h' p (csX (xC n f) n hs d s).2.2.1 No (csX (xC n f) n hs d s).2.2.2.1 (csX (xC n f) n hs d s).2.2.2.2.1 (csX (xC n f) n hs d s).2.2.2.2.2 ∧ Fr (fun x => x = p ∨ x = p + 1 ∨ x = p + 2) h h' := by
  intro d
  have T216 : ∀ {h v7 v8 v9 v10 x6} {a : Nat}, PG h q N n f → a ≤ n → Run sc n_X5_executes 216 [aD p, aD q, aI (zI hs), aD p3, aI (nI L), aI (nI a), aI x6, v7, v8, v9, v10] none [] h = some (.inl (some (aI (zI (decide (n ≤ a))))), h) := by
    intro h v7 v8 v9 v10 x6 a gp ha
    have hn := gp.n60
    rw [e_X5_executes_216, gp.f1, bF_I]
    rw [e_X5_executes_222]
    by_cases h1 : n ≤ a
    · rw [decide_eq_true h1, if_neg (Int32.not_lt.mpr (nI_le h1 (by omega))), e_X5_executes_225, e_X5_executes_230]
      exact bI_t rfl _
    · rw [decide_eq_false h1, if_pos (Int32.not_le.mp (nI_ge (by omega) (by omega))), e_X5_executes_229, e_X5_executes_230]
      exact bI_t rfl _
  induction d with
  | zero =>
    intro s hs1 hao h v7 v8 v9 v10 g gp
    have hN := g.2.2.2
    refine ⟨h, ?_, g, Fr.rfl⟩
    rw [e_X5_executes_31, g.f3, bF_I, e_X5_executes_35, if_pos (nI_le (by omega) (by omega))]
    exact T216 gp hao.1
  | succ d ih =>
    intro s hs1 hao h v7 v8 v9 v10 g gp
    have hN := g.2.2.2
    have hn := gp.n60
    by_cases ha : s.1 < n
    · have h1 := cs1_ok (hs := hs) hf hao ha
      obtain ⟨h', w7, w8, w9, w10, q1, q2, q3⟩ := l_step (sc := sc) (hs := hs) (p3 := p3) (L := L) g gp hpq hv hg ht ha (by have := hao.2.2; omega) hao.2.1 (by omega) (by omega) v7 v8 v9 v10
      obtain ⟨h'', s1, s2, s3⟩ := ih (cs1 (xC n f) n hs s) (by rw [h1.2]; omega) h1.1 h' w7 w8 w9 w10 q2 (gp.keep q3 (by omega) (by omega))
      have hcs : csX (xC n f) n hs (d + 1) s = csX (xC n f) n hs d (cs1 (xC n f) n hs s) := by
        show (if s.1 < n then _ else _) = _
        rw [if_pos ha]
      rw [hcs]
      exact ⟨h'', q1.trans s1, s2, q3.trans s3⟩
    · have hcs : csX (xC n f) n hs (d + 1) s = s := by
        show (if s.1 < n then _ else _) = _
        rw [if_neg ha]
      rw [hcs]
      refine ⟨h, ?_, g, Fr.rfl⟩
      rw [e_X5_executes_31, g.f3, bF_I, e_X5_executes_35, if_neg (nI_ge (show s.2.2.2.2.2 < L by omega) (by omega)), e_X5_executes_40, gp.f1, bF_I, e_X5_executes_46, if_pos (nI_le (by omega) (by have := hao.1; omega))]
      exact T216 gp hao.1
/-- an execution from the values f3 -/
def runX (X : Nat → Nat → Int32) (n : Nat) (hs : Bool) (f3 : Nat → Int32) (L : Nat) : XS := csX X n hs L (0, none, f3, fun _ => 0, 0, 0)
theorem c_X5_executes (g : MA h p v No o m st) (gp : PG h q N n f) (g3 : hget h p3 = some (oI 0 24 f3)) (hpq : p + 2 < q ∨ q + 1 < p) (hp3 : p3 < p ∨ p + 2 < p3) (hv : VK n (xC n f)) (hg : VG n (xC n f)) (ht : VT n (xC n f)) (hf : VF n (xC n f) ∨ (hs = false ∧ ∀ k, k < n → kBr (kx (xC n f) k) = true → ltX (xC n f) k ≤ n)) (hL : L ≤ No) : ∃ h' v' o', Call sc n_X5_executes [aD p, aD q, aI (zI hs), aD p3, aI (nI L)] h = some (.inl (some (aI (zI (decide (n ≤ (runX (xC n f) n hs f3 L).1))))), h') ∧ MA h' p v' No o' (runX (xC n f) n hs f3 L).2.2.2.2.1 (runX (xC n f) n hs f3 L).2.2.2.2.2 ∧ (∀ j, j < 24 → v' j = (runX (xC n f) n hs f3 L).2.2.1 j) ∧ (∀ j, j < (runX (xC n f) n hs f3 L).2.2.2.2.1 → o' j = (runX (xC n f) n hs f3 L).2.2.2.1 j) ∧ Fr (fun x => x = p ∨ x = p + 1 ∨ x = p + 2) h h' := by
  have hc : copyA sc h (aD p3) (nI 0) (p + 1) (nI 0) (nI 24) = some (mset h p (cpy f3 v 0 0 24) No o m st) := by
    unfold copyA oget
    simp only [g3, g.2.1]
    rw [nI_clamp (show 24 < 2 ^ 31 by omega), if_pos ⟨trivial, Or.inr ⟨trivial, trivial⟩, by decide, by decide, by decide, by decide, by decide, rfl⟩]
    show some (hset h (p + 1) (oI 0 24 (cpy f3 v 0 0 24))) = _
    unfold mset
    rw [hset_self g.1, hset_self (p := p + 2) (by rw [hget_ne (by omega)]; exact g.2.2.1)]
  have g1 := g.to (v' := cpy f3 v 0 0 24) (o' := o) (m' := m) (st' := st)
  have s1 := g1.p2 (m' := 0)
  rw [mset_mset] at s1
  have g2 := g.to (v' := cpy f3 v 0 0 24) (o' := o) (m' := 0) (st' := st)
  have s2 := g2.p3 (st' := 0)
  rw [mset_mset] at s2
  have hl : lenA sc h (aD (p + 1)) = some 24 := lenA_D g.2.1
  have g3 := g.to (v' := cpy f3 v 0 0 24) (o' := o) (m' := 0) (st' := 0)
  have gp3 := gp.keep (g.fr (v' := cpy f3 v 0 0 24) (o' := o) (m' := 0) (st' := 0)) (by omega) (by omega)
  obtain ⟨h', q1, q2, q3⟩ := l_exec (sc := sc) (p3 := p3) hpq hv hg ht hf hL L (0, none, cpy f3 v 0 0 24, o, 0, 0) (Nat.zero_add L) ⟨Nat.zero_le n, (fun b hb => by cases hb), Nat.le_refl 0⟩ _ aU aU aU aU g3 gp3
  have hag := cs_ag (n := n) (hs := hs) hg L (0, none, cpy f3 v 0 0 24, o, 0, 0) (0, none, f3, fun _ => 0, 0, 0) ⟨rfl, rfl, (fun j hj => by
    show cpy f3 v 0 0 24 j = f3 j
    rw [cpy_eq, if_pos (by omega)]
    congr 1
    omega), (fun j hj => by
    have : j < 0 := hj
    omega), rfl, rfl⟩
  obtain ⟨a1, a2, a3, a4, a5, a6⟩ := hag
  refine ⟨h', (csX (xC n f) n hs L (0, none, cpy f3 v 0 0 24, o, 0, 0)).2.2.1, (csX (xC n f) n hs L (0, none, cpy f3 v 0 0 24, o, 0, 0)).2.2.2.1, ?_, ?_, a3, ?_, (g.fr (v' := cpy f3 v 0 0 24) (o' := o) (m' := 0) (st' := 0)).trans q3⟩
  · unfold runX
    rw [← a1, ← q1]
    simp only [c0_X5_executes, e_X5_executes_0, e_X5_executes_6, e_X5_executes_11, e_X5_executes_12, e_X5_executes_15, e_X5_executes_20, g.f0, hl, hc, s1, s2, bO_some, bF_I, bF_D, bF_C, bC_v, pk_mul, nI_add, Option.toList, List.cons_append, List.nil_append]
    rfl
  · unfold runX
    rw [← a5, ← a6]
    exact q2
  · unfold runX
    rw [← a5]
    exact a4
end
