/-! PURE 1: numbers, fields and rows of the abstract heap; the kinds; a program's object -/
theorem inb_nI {i n : Nat} (h : i < n) (hn : n < 2 ^ 31) : inb (nI i) n = true := by
  unfold inb
  rw [decide_eq_true_eq, nI_clamp (by omega)]
  rintro (h1 | h1)
  · exact nI_pos (by omega) h1
  · omega
theorem hget_lt {h : AH} {p : Nat} {o : AO} (e : hget h p = some o) : p < h.1.length := (List.getElem?_eq_some_iff.mp e).1
theorem hget_set {h : AH} {p : Nat} {o o' : AO} (e : hget h p = some o') : hget (hset h p o) p = some o := by
  show (h.1.set p o)[p]? = some o
  rw [List.getElem?_set_self (hget_lt e)]
theorem hget_ne {h : AH} {p q : Nat} {o : AO} (n : ¬ q = p) : hget (hset h p o) q = hget h q := by
  show (h.1.set p o)[q]? = h.1[q]?
  rw [List.getElem?_set_ne (fun z => n z.symm)]
theorem hset_hset {h : AH} {p : Nat} {o o' : AO} : hset (hset h p o) p o' = hset h p o' := by
  show ((h.1.set p o).set p o', h.2) = (h.1.set p o', h.2)
  rw [List.set_set]
theorem hset_comm {h : AH} {p q : Nat} {o o' : AO} (n : p ≠ q) : hset (hset h p o) q o' = hset (hset h q o') p o := by
  show ((h.1.set p o).set q o', h.2) = ((h.1.set q o').set p o, h.2)
  rw [List.set_comm _ _ n]
section
variable {sc : SC} {h : AH} {p c k : Nat} {fs : List AV} {v : AV} {t N i : Nat} {f : Nat → Int32} {x : Int32} {T : Nat → Bool}
theorem getF_D (hp : hget h p = some (oO c fs)) (hk : fs[k]? = some v) : getF sc h (aD p) c k = some v := by
  unfold getF oget
  simp only [hp]
  rw [if_pos trivial]
  exact hk
theorem rOK_D (hp : hget h p = some (oO c fs)) : rOK sc h (aD p) c = true := by
  unfold rOK oget
  simp only [hp]
  exact beq_self_eq_true c
theorem putF_D (hp : hget h p = some (oO c fs)) (hk : k < fs.length) (hf : fitK t v = true) : putF h p c k t v = some (hset h p (oO c (fs.set k v))) := by
  unfold putF
  simp only [hp]
  rw [if_pos ⟨trivial, hk, hf⟩]
theorem ldI_D (hp : hget h p = some (oI t N f)) (hT : T t = true) (hi : i < N) (hN : N < 2 ^ 31) : ldI sc h T (aD p) (nI i) = some (f i) := by
  unfold ldI oget
  simp only [hp]
  rw [if_pos ⟨hT, inb_nI hi hN⟩, nI_clamp (by omega)]
theorem stI_D (hp : hget h p = some (oI t N f)) (hT : T t = true) (hi : i < N) (hN : N < 2 ^ 31) : stI h T p (nI i) x = some (hset h p (oI t N (upd f i (narK t x)))) := by
  unfold stI
  simp only [hp]
  rw [if_pos ⟨hT, inb_nI hi hN⟩, nI_clamp (by omega)]
theorem lenA_D (hp : hget h p = some (oI t N f)) : lenA sc h (aD p) = some N := by
  unfold lenA oget
  simp only [hp]
end
/-! the kinds, by their numbers -/
def zI (b : Bool) : Int32 := if b = true then 1 else 0
def kBr (k : Nat) : Bool := Nat.ble 8 k && Nat.ble k 10
def kCo (k : Nat) : Bool := Nat.ble 8 k && Nat.ble k 9
def kWA (k : Nat) : Bool := Nat.ble 1 k && Nat.ble k 5
def kRA (k : Nat) : Bool := Nat.ble 6 k && Nat.ble k 9
def kRB (k : Nat) : Bool := (Nat.ble 2 k && Nat.ble k 6) || (Nat.ble 8 k && Nat.ble k 9)
def kRC (k : Nat) : Bool := Nat.ble 3 k && Nat.ble k 4
theorem zI_ret (b : Bool) : retK (some FieldType.boolean) (zI b) = true := by cases b <;> rfl
theorem zI_0 (b : Bool) : (zI b = 0) ↔ b = false := by cases b <;> decide
theorem twelve {k : Nat} (h : k < 12) : k = 0 ∨ k = 1 ∨ k = 2 ∨ k = 3 ∨ k = 4 ∨ k = 5 ∨ k = 6 ∨ k = 7 ∨ k = 8 ∨ k = 9 ∨ k = 10 ∨ k = 11 := by omega
section
variable {sc : SC} {h : AH} {k : Nat}
theorem kf_w (hk : k < 12) : getF sc h (aC (k + 1)) 100 2 = some (aI (zI (kWA k))) := by
  rcases twelve hk with rfl | rfl | rfl | rfl | rfl | rfl | rfl | rfl | rfl | rfl | rfl | rfl <;> rfl
theorem kf_a (hk : k < 12) : getF sc h (aC (k + 1)) 100 3 = some (aI (zI (kRA k))) := by
  rcases twelve hk with rfl | rfl | rfl | rfl | rfl | rfl | rfl | rfl | rfl | rfl | rfl | rfl <;> rfl
theorem kf_b (hk : k < 12) : getF sc h (aC (k + 1)) 100 4 = some (aI (zI (kRB k))) := by
  rcases twelve hk with rfl | rfl | rfl | rfl | rfl | rfl | rfl | rfl | rfl | rfl | rfl | rfl <;> rfl
theorem kf_c (hk : k < 12) : getF sc h (aC (k + 1)) 100 5 = some (aI (zI (kRC k))) := by
  rcases twelve hk with rfl | rfl | rfl | rfl | rfl | rfl | rfl | rfl | rfl | rfl | rfl | rfl <;> rfl
theorem kf_br (hk : k < 12) : getF sc h (aC (k + 1)) 100 6 = some (aI (zI (kBr k))) := by
  rcases twelve hk with rfl | rfl | rfl | rfl | rfl | rfl | rfl | rfl | rfl | rfl | rfl | rfl <;> rfl
theorem kf_co (hk : k < 12) : getF sc h (aC (k + 1)) 100 7 = some (aI (zI (kCo k))) := by
  rcases twelve hk with rfl | rfl | rfl | rfl | rfl | rfl | rfl | rfl | rfl | rfl | rfl | rfl <;> rfl
theorem kf_o (hk : k < 12) : getF sc h (aC (k + 1)) 100 8 = some (aI (nI k)) := by
  rcases twelve hk with rfl | rfl | rfl | rfl | rfl | rfl | rfl | rfl | rfl | rfl | rfl | rfl <;> rfl
theorem kok (hk : k < 12) : rOK sc h (aC (k + 1)) 100 = true := by
  rcases twelve hk with rfl | rfl | rfl | rfl | rfl | rfl | rfl | rfl | rfl | rfl | rfl | rfl <;> rfl
theorem kinds_at (hk : k < 12) : ldR sc h (aC 13) (nI k) = some (aC (k + 1)) := by
  show (if inb (nI k) 12 = true ∧ aObj (aC ((nI k).toNatClampNeg + 1)) = true then some (aC ((nI k).toNatClampNeg + 1)) else none) = _
  rw [if_pos ⟨inb_nI hk (by omega), rfl⟩, nI_clamp (by omega)]
end
/-! a program, as numbers by entry and place -/
def nm (n : Nat) (X : Nat → Nat → Int32) : Nat → Nat → Int32 := fun i w => if i < n ∧ w < 5 then X i w else 0
def xC (n : Nat) (f : Nat → Int32) : Nat → Nat → Int32 := nm n (fun i w => f (i * 5 + w))
def xM (n : Nat) (g : Nat → Int32) : Nat → Nat → Int32 := nm n (fun i w => g (1 + 5 * i + w))
theorem xC_at {n : Nat} {f : Nat → Int32} {i w : Nat} (hi : i < n) (hw : w < 5) : f (i * 5 + w) = xC n f i w := by
  unfold xC nm
  rw [if_pos ⟨hi, hw⟩]
theorem xM_at {n : Nat} {g : Nat → Int32} {i w : Nat} (hi : i < n) (hw : w < 5) : g (1 + 5 * i + w) = xM n g i w := by
  unfold xM nm
  rw [if_pos ⟨hi, hw⟩]
def kx (X : Nat → Nat → Int32) (i : Nat) : Nat := (X i 0).toNatClampNeg
/-- the kinds are numbers below 12 -/
def VK (n : Nat) (X : Nat → Nat → Int32) : Prop := ∀ i, i < n → X i 0 = nI (kx X i) ∧ kx X i < 12
/-- a program's object p, with its row p + 1 -/
def PG (h : AH) (p N n : Nat) (f : Nat → Int32) : Prop := hget h p = some (oO 8 [aD (p + 1), aI (nI n)]) ∧ hget h (p + 1) = some (oI 0 N f) ∧ n * 5 ≤ N ∧ N ≤ 300
section
variable {sc : SC} {h : AH} {p N n : Nat} {f : Nat → Int32}
theorem PG.f0 (g : PG h p N n f) : getF sc h (aD p) 8 0 = some (aD (p + 1)) := getF_D g.1 rfl
theorem PG.f1 (g : PG h p N n f) : getF sc h (aD p) 8 1 = some (aI (nI n)) := getF_D g.1 rfl
theorem PG.ok (g : PG h p N n f) : rOK sc h (aD p) 8 = true := rOK_D g.1
theorem PG.ld (g : PG h p N n f) {j : Nat} (hj : j < N) : ldI sc h (fun t => t == 0) (aD (p + 1)) (nI j) = some (f j) := ldI_D g.2.1 rfl hj (by have := g.2.2.2; omega)
theorem PG.ldx (g : PG h p N n f) {i w : Nat} (hi : i < n) (hw : w < 5) : ldI sc h (fun t => t == 0) (aD (p + 1)) (nI (i * 5 + w)) = some (xC n f i w) := by
  rw [g.ld (by have := g.2.2.1; omega), xC_at (f := f) hi hw]
theorem PG.n60 (g : PG h p N n f) : n ≤ 60 := by
  have := g.2.2.1
  have := g.2.2.2
  omega
end
/-- how many i below n have P -/
def cnt : Nat → (Nat → Bool) → Nat
  | 0, _ => 0
  | n + 1, P => cnt n P + (if P n = true then 1 else 0)
theorem cnt_le : ∀ (n : Nat) (P : Nat → Bool), cnt n P ≤ n := by
  intro n P
  induction n with
  | zero => exact Nat.le_refl _
  | succ n ih =>
    unfold cnt
    split <;> omega
