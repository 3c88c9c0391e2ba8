/-! PURE 70: both sides: what stands between two calls -/
/-- h' is h but for the objects of S, which have kept their sizes; e exceptions were made -/
def LK (S : Nat → Prop) (e : Nat) (h h' : AH) : Prop := h'.2 = h.2 + e ∧ h'.1.length = h.1.length ∧ (∀ p, ¬ S p → hget h' p = hget h p) ∧ costS h' = costS h + 6 * e
def HG (S : Nat → Prop) (h h' : AH) : Prop := ∀ p, ¬ S p → hget h' p = hget h p
theorem LK.of {S : Nat → Prop} {h h' : AH} (a : Fr S h h') : LK S 0 h h' := ⟨a.1, a.2.1, a.2.2.1, a.2.2.2⟩
theorem LK.trans {S : Nat → Prop} {h h' h'' : AH} {e e' : Nat} (a : LK S e h h') (b : LK S e' h' h'') : LK S (e + e') h h'' := ⟨by rw [b.1, a.1]; omega, b.2.1.trans a.2.1, fun p hp => (b.2.2.1 p hp).trans (a.2.2.1 p hp), by rw [b.2.2.2, a.2.2.2]; omega⟩
theorem LK.mono {S T : Nat → Prop} {h h' : AH} {e : Nat} (a : LK S e h h') (hh : ∀ p, S p → T p) : LK T e h h' := ⟨a.1, a.2.1, fun p hp => a.2.2.1 p (fun z => hp (hh p z)), a.2.2.2⟩
theorem LK.exc (S : Nat → Prop) (h : AH) : LK S 1 h (h.1, h.2 + 1) := ⟨rfl, rfl, fun _ _ => rfl, by show (h.1.map osize).sum + 6 * (h.2 + 1) = (h.1.map osize).sum + 6 * h.2 + 6 * 1; omega⟩
theorem LK.rfl {S : Nat → Prop} {h : AH} : LK S 0 h h := LK.of Fr.rfl
abbrev KTy : Type := Option ((Nat → Int32) × (Nat → Int32) × Nat)
abbrev VTy : Type := Option (Nat × (Nat → Nat → Int32) × Nat × (Nat → Nat → Int32) × (Nat → Int32))
abbrev HTy : Type := Nat → Nat × (Nat → Nat → Int32)
/-- a source -/
def SG (sn : Nat) (S : Nat → Nat → Int32) : Prop := SV sn S ∧ ∀ i, i < sn → -100 < (S i 3).toInt ∧ (S i 3).toInt < 100
def C1 (h : AH) (len : Nat) (c : Nat → Int32) : Prop := ∃ pos num m f, hget h 1 = some (oO 9 [aD 2, aI (nI len), aI (nI pos), aI num, aD 3]) ∧ hget h 2 = some (oI 1 120 c) ∧ PG h 3 150 m f
def C2 (h : AH) (L : List Int32) : Prop := SBL h 5 6 L ∧ h.1.length = 73 ∧ costS h ≤ 30000 + 6 * h.2
def C3 (h : AH) (sn : Nat) (S : Nat → Nat → Int32) : Prop := ∃ f, PG h 7 150 sn f ∧ xC sn f = S
def C4 (h : AH) (n : Nat) (X : Nat → Nat → Int32) (ch : Nat) (H : HTy) : Prop := FI h 16 9 11 ∧ (∃ l r w s, FL h 11 9 l r w s) ∧ (∃ f, PG h 9 300 n f ∧ xC n f = X) ∧ ∃ nx, HI h 17 19 nx ch ∧ nx < 8 ∧ ch ≤ 8 ∧ ∀ i, i < 8 → ∃ ni fi, PG h (19 + 2 * i) 300 ni fi ∧ ∀ k, k < ch → i = (nx + 8 - ch + k) % 8 → (ni, xC ni fi) = H k
def C5 (h : AH) (ini : Nat → Int32) : Prop := ∃ f, hget h 35 = some (oI 0 24 f) ∧ ∀ j, j < 24 → f j = ini j
def BO (h : AH) (km ks : Nat) (kp sv : Bool) : Prop := hget h 0 = some (oO 11 [aD 1, aD 5, aD 7, aD 9, aD 11, aD 16, aD 17, aD 35, aD 36, aD km, aD ks, aD 43, aI (zI kp), aD 46, aD 48, aD 50, aI (zI sv)])
def CK (h : AH) (km : Nat) (K : KTy) : Prop := ∃ v o m st, MA h km v 2000 o m st ∧ ∀ k, K = some k → (∀ j, j < 24 → v j = k.1 j) ∧ m = k.2.2 ∧ ∀ j, j < m → o j = k.2.1 j
def C6 (h : AH) (K : KTy) (sv : Bool) : Prop := ∃ km ks, BO h km ks K.isSome sv ∧ (km = 37 ∧ ks = 40 ∨ km = 40 ∧ ks = 37) ∧ CK h km K ∧ CK h ks none ∧ (∃ v o m st, MA h 43 v 300 o m st) ∧ ∃ f, hget h 36 = some (oI 0 24 f)
def C7 (h : AH) (V : VTy) : Prop := ∃ n1 f1 n2 f2 f3, PG h 46 150 n1 f1 ∧ PG h 48 300 n2 f2 ∧ hget h 50 = some (oI 0 24 f3) ∧ ∀ v, V = some v → n1 = v.1 ∧ xC n1 f1 = v.2.1 ∧ n2 = v.2.2.1 ∧ xC n2 f2 = v.2.2.2.1 ∧ ∀ j, j < 24 → f3 j = v.2.2.2.2 j
section
variable {sc : SC} {h h' : AH} {S : Nat → Prop} {e km ks len sn n ch : Nat} {c ini : Nat → Int32} {X SX : Nat → Nat → Int32} {H : HTy} {L : List Int32} {K : KTy} {V : VTy} {kp sv : Bool} {φ φ' : Nat → Int32} {ρ ρ' : Nat → Nat → Int32}
theorem PG.hg {p N m : Nat} {f : Nat → Int32} (g : PG h p N m f) (hf : HG S h h') (h1 : ¬ S p) (h2 : ¬ S (p + 1)) : PG h' p N m f := ⟨(hf p h1).trans g.1, (hf _ h2).trans g.2.1, g.2.2⟩
theorem PG.lk {p N m : Nat} {f : Nat → Int32} (g : PG h p N m f) (hf : LK S e h h') (h1 : ¬ S p) (h2 : ¬ S (p + 1)) : PG h' p N m f := g.hg hf.2.2.1 h1 h2
theorem MA.hg {p N m st : Nat} {v o : Nat → Int32} (g : MA h p v N o m st) (hf : HG S h h') (h0 : ¬ S p) (h1 : ¬ S (p + 1)) (h2 : ¬ S (p + 2)) : MA h' p v N o m st := ⟨(hf _ h0).trans g.1, (hf _ h1).trans g.2.1, (hf _ h2).trans g.2.2.1, g.2.2.2⟩
theorem MA.lk {p N m st : Nat} {v o : Nat → Int32} (g : MA h p v N o m st) (hf : LK S e h h') (h0 : ¬ S p) (h1 : ¬ S (p + 1)) (h2 : ¬ S (p + 2)) : MA h' p v N o m st := g.hg hf.2.2.1 h0 h1 h2
theorem C1.hg (g : C1 h len c) (hf : HG S h h') (hs : ∀ p, 1 ≤ p → p ≤ 4 → ¬ S p) : C1 h' len c := by
  obtain ⟨pos, num, m, f, g1, g2, g3⟩ := g
  exact ⟨pos, num, m, f, (hf 1 (hs 1 (by omega) (by omega))).trans g1, (hf 2 (hs 2 (by omega) (by omega))).trans g2, g3.hg hf (hs 3 (by omega) (by omega)) (hs 4 (by omega) (by omega))⟩
theorem C1.lk (g : C1 h len c) (hf : LK S e h h') (hs : ∀ p, 1 ≤ p → p ≤ 4 → ¬ S p) : C1 h' len c := g.hg hf.2.2.1 hs
theorem C2.lk (g : C2 h L) (hf : LK S e h h') (hs : ∀ p, 5 ≤ p ∧ p ≤ 6 → ¬ S p) : C2 h' L := by
  obtain ⟨⟨b, g1, g2, g3, g4, g5⟩, g6, g7⟩ := g
  refine ⟨⟨b, (hf.2.2.1 5 (hs 5 (by omega))).trans g1, (hf.2.2.1 6 (hs 6 (by omega))).trans g2, g3, g4, g5⟩, hf.2.1.trans g6, ?_⟩
  rw [hf.2.2.2, hf.1]
  omega
theorem C3.hg (g : C3 h sn SX) (hf : HG S h h') (hs : ∀ p, 7 ≤ p → p ≤ 8 → ¬ S p) : C3 h' sn SX := by
  obtain ⟨f, g1, g2⟩ := g
  exact ⟨f, g1.hg hf (hs 7 (by omega) (by omega)) (hs 8 (by omega) (by omega)), g2⟩
theorem C3.lk (g : C3 h sn SX) (hf : LK S e h h') (hs : ∀ p, 7 ≤ p → p ≤ 8 → ¬ S p) : C3 h' sn SX := g.hg hf.2.2.1 hs
theorem FL.hg {t q : Nat} {l r w s : Nat → Int32} (g : FL h t q l r w s) (hf : HG S h h') (hs : ∀ p, t ≤ p → p ≤ t + 4 → ¬ S p) : FL h' t q l r w s := ⟨(hf _ (hs _ (by omega) (by omega))).trans g.1, (hf _ (hs _ (by omega) (by omega))).trans g.2.1, (hf _ (hs _ (by omega) (by omega))).trans g.2.2.1, (hf _ (hs _ (by omega) (by omega))).trans g.2.2.2.1, (hf _ (hs _ (by omega) (by omega))).trans g.2.2.2.2⟩
theorem FL.lk {t q : Nat} {l r w s : Nat → Int32} (g : FL h t q l r w s) (hf : LK S e h h') (hs : ∀ p, t ≤ p → p ≤ t + 4 → ¬ S p) : FL h' t q l r w s := g.hg hf.2.2.1 hs
theorem HI.hg {p r0 nx : Nat} (g : HI h p r0 nx ch) (hf : HG S h h') (h0 : ¬ S p) (h1 : ¬ S (p + 1)) : HI h' p r0 nx ch := ⟨(hf _ h0).trans g.1, g.2.choose, (hf _ h1).trans g.2.choose_spec.1, g.2.choose_spec.2⟩
theorem HI.lk {p r0 nx : Nat} (g : HI h p r0 nx ch) (hf : LK S e h h') (h0 : ¬ S p) (h1 : ¬ S (p + 1)) : HI h' p r0 nx ch := g.hg hf.2.2.1 h0 h1
theorem C4.hg (g : C4 h n X ch H) (hf : HG S h h') (hs : ∀ p, 9 ≤ p → p ≤ 34 → ¬ S p) : C4 h' n X ch H := by
  obtain ⟨g1, ⟨l, r, w, s, g2⟩, ⟨f, g3, g4⟩, nx, g5, g6, g7, g8⟩ := g
  refine ⟨(hf 16 (hs 16 (by omega) (by omega))).trans g1, ⟨l, r, w, s, g2.hg hf (fun p h1 h2 => hs p (by omega) (by omega))⟩, ⟨f, g3.hg hf (hs 9 (by omega) (by omega)) (hs 10 (by omega) (by omega)), g4⟩, nx, g5.hg hf (hs 17 (by omega) (by omega)) (hs 18 (by omega) (by omega)), g6, g7, fun i hi => ?_⟩
  obtain ⟨ni, fi, q1, q2⟩ := g8 i hi
  exact ⟨ni, fi, q1.hg hf (hs _ (by omega) (by omega)) (hs _ (by omega) (by omega)), q2⟩
theorem C4.lk (g : C4 h n X ch H) (hf : LK S e h h') (hs : ∀ p, 9 ≤ p → p ≤ 34 → ¬ S p) : C4 h' n X ch H := g.hg hf.2.2.1 hs
theorem C5.hg (g : C5 h ini) (hf : HG S h h') (hs : ¬ S 35) : C5 h' ini := by
  obtain ⟨f, g1, g2⟩ := g
  exact ⟨f, (hf 35 hs).trans g1, g2⟩
theorem C5.lk (g : C5 h ini) (hf : LK S e h h') (hs : ¬ S 35) : C5 h' ini := g.hg hf.2.2.1 hs
theorem BO.hg (g : BO h km ks kp sv) (hf : HG S h h') (hs : ¬ S 0) : BO h' km ks kp sv := (hf 0 hs).trans g
theorem BO.lk (g : BO h km ks kp sv) (hf : LK S e h h') (hs : ¬ S 0) : BO h' km ks kp sv := g.hg hf.2.2.1 hs
theorem CK.hg (g : CK h km K) (hf : HG S h h') (hs : ∀ p, km ≤ p → p ≤ km + 2 → ¬ S p) : CK h' km K := by
  obtain ⟨v, o, m, st, g1, g2⟩ := g
  exact ⟨v, o, m, st, g1.hg hf (hs _ (by omega) (by omega)) (hs _ (by omega) (by omega)) (hs _ (by omega) (by omega)), g2⟩
theorem CK.lk (g : CK h km K) (hf : LK S e h h') (hs : ∀ p, km ≤ p → p ≤ km + 2 → ¬ S p) : CK h' km K := g.hg hf.2.2.1 hs
theorem C6.hg (g : C6 h K sv) (hf : HG S h h') (hs0 : ¬ S 0) (hs : ∀ p, 36 ≤ p → p ≤ 45 → ¬ S p) : C6 h' K sv := by
  obtain ⟨km, ks, g1, g2, g3, g4, ⟨v, o, m, st, g5⟩, f, g6⟩ := g
  exact ⟨km, ks, g1.hg hf hs0, g2, g3.hg hf (fun p h1 h2 => hs p (by omega) (by omega)), g4.hg hf (fun p h1 h2 => hs p (by omega) (by omega)), ⟨v, o, m, st, g5.hg hf (hs _ (by omega) (by omega)) (hs _ (by omega) (by omega)) (hs _ (by omega) (by omega))⟩, f, (hf 36 (hs 36 (by omega) (by omega))).trans g6⟩
theorem C6.lk (g : C6 h K sv) (hf : LK S e h h') (hs0 : ¬ S 0) (hs : ∀ p, 36 ≤ p → p ≤ 45 → ¬ S p) : C6 h' K sv := g.hg hf.2.2.1 hs0 hs
theorem C7.hg (g : C7 h V) (hf : HG S h h') (hs : ∀ p, 46 ≤ p → p ≤ 50 → ¬ S p) : C7 h' V := by
  obtain ⟨n1, f1, n2, f2, f3, g1, g2, g3, g4⟩ := g
  exact ⟨n1, f1, n2, f2, f3, g1.hg hf (hs _ (by omega) (by omega)) (hs _ (by omega) (by omega)), g2.hg hf (hs _ (by omega) (by omega)) (hs _ (by omega) (by omega)), (hf 50 (hs 50 (by omega) (by omega))).trans g3, g4⟩
theorem C7.lk (g : C7 h V) (hf : LK S e h h') (hs : ∀ p, 46 ≤ p → p ≤ 50 → ¬ S p) : C7 h' V := g.hg hf.2.2.1 hs
theorem BO.f0 (g : BO h km ks kp sv) : getF sc h (aD 0) 11 0 = some (aD 1) := getF_D g rfl
theorem BO.f1 (g : BO h km ks kp sv) : getF sc h (aD 0) 11 1 = some (aD 5) := getF_D g rfl
theorem BO.f2 (g : BO h km ks kp sv) : getF sc h (aD 0) 11 2 = some (aD 7) := getF_D g rfl
theorem BO.f3 (g : BO h km ks kp sv) : getF sc h (aD 0) 11 3 = some (aD 9) := getF_D g rfl
theorem BO.f4 (g : BO h km ks kp sv) : getF sc h (aD 0) 11 4 = some (aD 11) := getF_D g rfl
theorem BO.f5 (g : BO h km ks kp sv) : getF sc h (aD 0) 11 5 = some (aD 16) := getF_D g rfl
theorem BO.f6 (g : BO h km ks kp sv) : getF sc h (aD 0) 11 6 = some (aD 17) := getF_D g rfl
theorem BO.f7 (g : BO h km ks kp sv) : getF sc h (aD 0) 11 7 = some (aD 35) := getF_D g rfl
theorem BO.f8 (g : BO h km ks kp sv) : getF sc h (aD 0) 11 8 = some (aD 36) := getF_D g rfl
theorem BO.f9 (g : BO h km ks kp sv) : getF sc h (aD 0) 11 9 = some (aD km) := getF_D g rfl
theorem BO.f10 (g : BO h km ks kp sv) : getF sc h (aD 0) 11 10 = some (aD ks) := getF_D g rfl
theorem BO.f11 (g : BO h km ks kp sv) : getF sc h (aD 0) 11 11 = some (aD 43) := getF_D g rfl
theorem BO.f12 (g : BO h km ks kp sv) : getF sc h (aD 0) 11 12 = some (aI (zI kp)) := getF_D g rfl
theorem BO.f13 (g : BO h km ks kp sv) : getF sc h (aD 0) 11 13 = some (aD 46) := getF_D g rfl
theorem BO.f14 (g : BO h km ks kp sv) : getF sc h (aD 0) 11 14 = some (aD 48) := getF_D g rfl
theorem BO.f15 (g : BO h km ks kp sv) : getF sc h (aD 0) 11 15 = some (aD 50) := getF_D g rfl
theorem BO.f16 (g : BO h km ks kp sv) : getF sc h (aD 0) 11 16 = some (aI (zI sv)) := getF_D g rfl
theorem BO.ok (g : BO h km ks kp sv) (r : Option Res) : bI (rOK sc h (aD 0) 11 = true) r = r := bI_t (rOK_D g) r
/-- the class's side -/
def CI (h : AH) (len : Nat) (c : Nat → Int32) (L : List Int32) (sn : Nat) (SX : Nat → Nat → Int32) (n : Nat) (X : Nat → Nat → Int32) (ch : Nat) (H : HTy) (ini : Nat → Int32) (K : KTy) (V : VTy) : Prop := C1 h len c ∧ C2 h L ∧ C3 h sn SX ∧ C4 h n X ch H ∧ C5 h ini ∧ C6 h K V.isSome ∧ C7 h V
/-- the reference's side -/
def RI (φ : Nat → Int32) (ρ : Nat → Nat → Int32) (len : Nat) (c : Nat → Int32) (L : List Int32) (sn : Nat) (SX : Nat → Nat → Int32) (n : Nat) (X : Nat → Nat → Int32) (ch : Nat) (H : HTy) (ini : Nat → Int32) (K : KTy) (V : VTy) : Prop :=
  (φ 7 = nI len ∧ ρ 55 = c) ∧ (φ 16 = nI L.length ∧ TX (ρ 59) L) ∧ (φ 2 = nI sn ∧ xS sn (ρ 52) = SX) ∧ (ρ 53 0 = nI n ∧ xM n (ρ 53) = X ∧ φ 5 = nI ch ∧ ∀ k, k < ch → ρ 54 (301 * k) = nI (H k).1 ∧ xM (H k).1 (fun j => ρ 54 (301 * k + j)) = (H k).2) ∧ (∀ j, j < 24 → ρ 60 j = ini j) ∧ (φ 22 = zI K.isSome ∧ ∀ k, K = some k → φ 25 = nI k.2.2 ∧ (∀ j, j < 24 → ρ 63 j = k.1 j) ∧ ∀ j, j < k.2.2 → ρ 64 j = k.2.1 j) ∧ (φ 30 = zI V.isSome ∧ ∀ v, V = some v → φ 32 = nI v.1 ∧ xS v.1 (ρ 68) = v.2.1 ∧ ρ 69 0 = nI v.2.2.1 ∧ xM v.2.2.1 (ρ 69) = v.2.2.2.1 ∧ ∀ j, j < 24 → ρ 70 j = v.2.2.2.2 j)
/-- what is shown is a state of the document -/
def VST (len : Nat) (L : List Int32) (sn : Nat) (SX : Nat → Nat → Int32) (n : Nat) (X : Nat → Nat → Int32) (ch : Nat) (H : HTy) (K : KTy) (V : VTy) : Prop := len ≤ 120 ∧ (L.length ≤ 1200 ∧ ∀ c, c ∈ L → AS c) ∧ (sn ≤ 30 ∧ SG sn SX) ∧ (n ≤ 60 ∧ WF n X) ∧ (ch ≤ 8 ∧ ∀ k, k < ch → (H k).1 ≤ 60 ∧ WF (H k).1 (H k).2) ∧ (∀ k, K = some k → k.2.2 ≤ 2000) ∧ ∀ v, V = some v → (v.1 ≤ 30 ∧ SG v.1 v.2.1) ∧ v.2.2.1 ≤ 60 ∧ WF v.2.2.1 v.2.2.2.1
def OUT (h : AH) : Prop := (∃ f, hget h 71 = some (oL 1 f)) ∧ ∃ f, hget h 72 = some (oE 1 f)
/-- what stands before the call i -/
def INV (h : AH) (i : Nat) : Prop := h.2 ≤ i ∧ OUT h ∧ ∃ φ ρ len c L sn SX n X ch H ini K V, RH h φ ρ ∧ CI h len c L sn SX n X ch H ini K V ∧ RI φ ρ len c L sn SX n X ch H ini K V ∧ VST len L sn SX n X ch H K V
def SCl : Nat → Prop := fun p => p < 51
theorem CI.lng (g : CI h len c L sn SX n X ch H ini K V) : 73 ≤ h.1.length := by
  rw [g.2.1.2.1]
  exact Nat.le_refl 73
theorem RH.lk (g : RH h φ ρ) (hf : LK S e h h') (hs : ∀ p, 51 ≤ p → p ≤ 70 → ¬ S p) : RH h' φ ρ := ⟨by rw [hf.2.1]; exact g.1, (hf.2.2.1 51 (hs 51 (by omega) (by omega))).trans g.2.1, fun q h1 h2 => (hf.2.2.1 q (hs q (by omega) (by omega))).trans (g.2.2 q h1 h2)⟩
theorem OUT.lk (g : OUT h) (hf : LK S e h h') (h1 : ¬ S 71) (h2 : ¬ S 72) : OUT h' := ⟨⟨g.1.choose, (hf.2.2.1 71 h1).trans g.1.choose_spec⟩, g.2.choose, (hf.2.2.1 72 h2).trans g.2.choose_spec⟩
theorem CI.lk (g : CI h len c L sn SX n X ch H ini K V) (hf : LK S e h h') (hs : ∀ p, p < 51 ∨ 73 ≤ p → ¬ S p) : CI h' len c L sn SX n X ch H ini K V :=
  ⟨g.1.lk hf (fun p _ _ => hs p (by omega)), g.2.1.lk hf (fun p _ => hs p (by omega)), g.2.2.1.lk hf (fun p _ _ => hs p (by omega)), g.2.2.2.1.lk hf (fun p _ _ => hs p (by omega)), g.2.2.2.2.1.lk hf (hs 35 (by omega)), g.2.2.2.2.2.1.lk hf (hs 0 (by omega)) (fun p _ _ => hs p (by omega)), g.2.2.2.2.2.2.lk hf (fun p _ _ => hs p (by omega))⟩
theorem CI.exc (g : CI h len c L sn SX n X ch H ini K V) : CI (h.1, h.2 + 1) len c L sn SX n X ch H ini K V := g.lk (LK.exc (fun _ => False) h) (fun _ _ z => z)
end
