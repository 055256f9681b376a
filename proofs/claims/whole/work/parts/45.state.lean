/-! One state told apart from the cells, and how the class (cells under 70) and the model (70 to 88) hold it. -/
def ST : Type := Nat → Nat → Int → Int
def up (s : ST) (a b : Nat) (v : Int → Int) : ST := fun a' b' => if a' = a ∧ b' = b then v else s a' b'
theorem up_at (s : ST) (a b : Nat) (v : Int → Int) (a' b' : Nat) : up s a b v a' b' = if a' = a ∧ b' = b then v else s a' b' := rfl
def cd (s : ST) : Int := s 3 0 0
abbrev gg (s : ST) : G := s 0
/-- of the class -/
def BX (k : Nat) (I : MM) (g : G) (c : Int) : Prop := At k I g ∧ I k 4 = c
def TX (I : MM) (t : Int → Int) : Prop := I 18 1 = t (-1) ∧ ∀ i, 0 ≤ i → i < t (-1) → I 19 i = t i
def RX (k : Nat) (I : MM) (r : Int → Int) : Prop := I k 1 = r (-1) ∧ ∀ i, 0 ≤ i → i < r (-1) → I (k + 1) i = r i
def PX (k : Nat) (I : MM) (p : Int → Int) : Prop := I k 1 = p (-1) ∧ ∀ i, 0 ≤ i → i < p (-1) → I (k + 1) i = p i
def CTX (I : MM) (n : Int → Int) : Prop := I 1 11 = n 0 ∧ I 1 12 = n 1 ∧ I 1 13 = n 2
def lsz (p : Int) : Int := if p ≤ 0 then 0 else if p < 1073741824 then 1 else if p < 1152921504606846976 then 2 else if p < 1237940039285380274899124224 then 3 else 4
def lmb (p i : Int) : Int := p / 1073741824 ^ i.toNat % 1073741824
def FX (I : MM) (f : Int → Int) : Prop := (∀ i, 0 ≤ i → i < 4 → I 37 i = lmb (f 0) i) ∧ (∀ i, 0 ≤ i → i < 4 → I 38 i = lmb (f 1) i) ∧ I 36 3 = lsz (f 0) ∧ I 36 4 = lsz (f 1)
def IX (k : Nat) (I : MM) (g : G) (r : Nat → Int → Int) : Prop := I k 0 = r 6 0 ∧ (r 6 0 = 1 → BX (k + 1) I g (r 0 0) ∧ RX (k + 9) I (r 2) ∧ PX (k + 13) I (r 3))
def KX (I : MM) : Prop := I 97 0 = 0 ∧ I 98 0 = 0
def XR (I : MM) (s : ST) : Prop := BX 2 I (s 0) (cd s) ∧ TX I (s 3 1) ∧ RX 21 I (s 3 2) ∧ PX 25 I (s 3 3) ∧ CTX I (s 3 4) ∧ FX I (s 3 5) ∧ IX 40 I (s 1) (s 4) ∧ IX 55 I (s 2) (s 5) ∧ KX I
/-- of the model -/
def RGf (f : Int → Int) (g : G) : Prop := (f 8 = g.last ∧ f 67 = g.nW ∧ f 68 = g.nB) ∧ (∀ p, 0 ≤ p → p ≤ g.last → f p = ground g p) ∧ (∀ w, 0 ≤ w → w < g.nW → f (9 + 3 * w) = g.wt w ∧ f (9 + 3 * w + 2) = g.gl w) ∧ (∀ b, 0 ≤ b → b < g.nB → f (18 + 4 * b) = g.kd b ∧ f (18 + 4 * b + 1) = g.ln b ∧ f (18 + 4 * b + 2) = g.br b)
def NSf (f : Int → Int) (g : G) (c : Int) : Prop := (∀ w, 0 ≤ w → w < g.nW → f (9 + 3 * w + 1) = wAt c w) ∧ (∀ b, 0 ≤ b → b < g.nB → f (18 + 4 * b + 3) = lie (bAt c b))
def RMf (f : Int → Int) (r : Int → Int) : Prop := f 26 = r (-1) ∧ ∀ i, 0 ≤ i → i < r (-1) → f (27 + i) = r i
def PMf (f : Int → Int) (g : G) (p : Int → Int) : Prop := f 69 = p (-1) ∧ ∀ k, 0 ≤ k → k < p (-1) → (∀ w, 0 ≤ w → w < g.nW → f (70 + 5 * k + w) = wAt (p k) w) ∧ (∀ b, 0 ≤ b → b < g.nB → f (70 + 5 * k + 3 + b) = lie (bAt (p k) b))
def NM (f : Int → Int) (g : G) (r : Nat → Int → Int) : Prop := RGf f g ∧ NSf f g (r 0 0) ∧ RMf f (r 2) ∧ PMf f g (r 3)
def TM (I : MM) (t : Int → Int) : Prop := I 70 20 = t (-1) ∧ ∀ i, 0 ≤ i → i < t (-1) → I 84 i = t i
def CM (I : MM) (n : Int → Int) : Prop := I 74 0 = n 0 ∧ I 74 1 = n 1 ∧ I 74 2 = n 2
def FM (I : MM) (f : Int → Int) : Prop := (∀ i, 0 ≤ i → i < lsz (f 0) → I 75 i = lmb (f 0) i) ∧ (∀ i, 0 ≤ i → i < lsz (f 1) → I 75 (64 + i) = lmb (f 1) i) ∧ I 76 0 = lsz (f 0) ∧ I 76 1 = lsz (f 1) ∧ I 70 6 = (if f 0 = 0 then 0 else 1)
def IM (k : Int) (I : MM) (g : G) (r : Nat → Int → Int) : Prop := I 73 k = r 6 0 ∧ (r 6 0 = 1 → NM (fun i => I 72 (110 * k + i)) g r)
def MR (I : MM) (s : ST) : Prop := NM (I 71) (s 0) (s 3) ∧ TM I (s 3 1) ∧ CM I (s 3 4) ∧ FM I (s 3 5) ∧ IM 0 I (s 1) (s 4) ∧ IM 1 I (s 2) (s 5)
/-- no board is nowhere but while lost ones are looked at -/
def NV (g : G) (c : Int) : Prop := ∀ b, 0 ≤ b → b < g.nB → bAt c b ≠ 15
def VN (g : G) (c : Int) : Prop := VC g c ∧ NV g c
/-- what holds of every state -/
def OG (g : G) (r : Nat → Int → Int) : Prop := WG g ∧ VN g (r 0 0) ∧ (0 ≤ r 2 (-1) ∧ r 2 (-1) ≤ 40) ∧ (∀ i, 0 ≤ i → i < r 2 (-1) → 0 ≤ r 2 i ∧ r 2 i < 128) ∧ (0 ≤ r 3 (-1) ∧ r 3 (-1) ≤ 8) ∧ (∀ i, 0 ≤ i → i < r 3 (-1) → VN g (r 3 i))
def OI (g : G) (r : Nat → Int → Int) : Prop := (r 6 0 = 0 ∨ r 6 0 = 1) ∧ (r 6 0 = 1 → OG g r)
def OK (s : ST) : Prop := OG (s 0) (s 3) ∧ (0 ≤ s 3 1 (-1) ∧ s 3 1 (-1) ≤ 200) ∧ (0 ≤ s 3 5 0 ∧ s 3 5 0 < 1329227995784915872903807060280344576) ∧ (0 ≤ s 3 5 1 ∧ s 3 5 1 < 1329227995784915872903807060280344576) ∧ OI (s 1) (s 4) ∧ OI (s 2) (s 5)
theorem rg_f (I : MM) (g : G) : RGf (I 71) g ↔ RG I g := Iff.rfl
theorem ns_f (I : MM) (g : G) (c : Int) : NSf (I 71) g c ↔ NS I g c := Iff.rfl
theorem XR.B {I : MM} {s : ST} (h : XR I s) : BX 2 I (gg s) (cd s) := h.1
theorem XR.A {I : MM} {s : ST} (h : XR I s) : At 2 I (gg s) := h.1.1
theorem XR.n {I : MM} {s : ST} (h : XR I s) : I 2 4 = cd s := h.1.2
theorem XR.T {I : MM} {s : ST} (h : XR I s) : TX I (s 3 1) := h.2.1
theorem XR.R {I : MM} {s : ST} (h : XR I s) : RX 21 I (s 3 2) := h.2.2.1
theorem XR.P {I : MM} {s : ST} (h : XR I s) : PX 25 I (s 3 3) := h.2.2.2.1
theorem XR.C {I : MM} {s : ST} (h : XR I s) : CTX I (s 3 4) := h.2.2.2.2.1
theorem XR.F {I : MM} {s : ST} (h : XR I s) : FX I (s 3 5) := h.2.2.2.2.2.1
theorem XR.I0 {I : MM} {s : ST} (h : XR I s) : IX 40 I (s 1) (s 4) := h.2.2.2.2.2.2.1
theorem XR.I1 {I : MM} {s : ST} (h : XR I s) : IX 55 I (s 2) (s 5) := h.2.2.2.2.2.2.2.1
theorem XR.K {I : MM} {s : ST} (h : XR I s) : KX I := h.2.2.2.2.2.2.2.2
theorem MR.N {I : MM} {s : ST} (h : MR I s) : NM (I 71) (s 0) (s 3) := h.1
theorem MR.R {I : MM} {s : ST} (h : MR I s) : RG I (gg s) := h.1.1
theorem MR.S {I : MM} {s : ST} (h : MR I s) : NS I (gg s) (cd s) := h.1.2.1
theorem MR.T {I : MM} {s : ST} (h : MR I s) : TM I (s 3 1) := h.2.1
theorem MR.C {I : MM} {s : ST} (h : MR I s) : CM I (s 3 4) := h.2.2.1
theorem MR.F {I : MM} {s : ST} (h : MR I s) : FM I (s 3 5) := h.2.2.2.1
theorem MR.I0 {I : MM} {s : ST} (h : MR I s) : IM 0 I (s 1) (s 4) := h.2.2.2.2.1
theorem MR.I1 {I : MM} {s : ST} (h : MR I s) : IM 1 I (s 2) (s 5) := h.2.2.2.2.2
theorem OK.W {s : ST} (h : OK s) : WG (gg s) := h.1.1
theorem OK.V {s : ST} (h : OK s) : VC (gg s) (cd s) := h.1.2.1.1
theorem OK.vn {s : ST} (h : OK s) : VN (gg s) (cd s) := h.1.2.1
/-- each part looks at few cells alone -/
theorem At.cong {k : Nat} {I J : MM} {g : G} (e : ∀ a, k ≤ a → a < k + 8 → ∀ i, J a i = I a i) (h : At k I g) : At k J g := fun j i hj hn => (e (k + j) (by omega) (by omega) i).trans (h j i hj hn)
theorem BX.cong {k : Nat} {I J : MM} {g : G} {c : Int} (e : ∀ a, k ≤ a → a < k + 8 → ∀ i, J a i = I a i) (h : BX k I g c) : BX k J g c := ⟨h.1.cong e, (e k (by omega) (by omega) 4).trans h.2⟩
theorem TX.cong {I J : MM} {t : Int → Int} (e1 : J 18 1 = I 18 1) (e2 : ∀ i, J 19 i = I 19 i) (h : TX I t) : TX J t := ⟨e1.trans h.1, fun i a b => (e2 i).trans (h.2 i a b)⟩
theorem RX.cong {k : Nat} {I J : MM} {t : Int → Int} (e1 : J k 1 = I k 1) (e2 : ∀ i, J (k + 1) i = I (k + 1) i) (h : RX k I t) : RX k J t := ⟨e1.trans h.1, fun i a b => (e2 i).trans (h.2 i a b)⟩
theorem PX.cong {k : Nat} {I J : MM} {t : Int → Int} (e1 : J k 1 = I k 1) (e2 : ∀ i, J (k + 1) i = I (k + 1) i) (h : PX k I t) : PX k J t := ⟨e1.trans h.1, fun i a b => (e2 i).trans (h.2 i a b)⟩
theorem CTX.cong {I J : MM} {t : Int → Int} (e : ∀ i, 11 ≤ i → J 1 i = I 1 i) (h : CTX I t) : CTX J t := ⟨(e 11 (by omega)).trans h.1, (e 12 (by omega)).trans h.2.1, (e 13 (by omega)).trans h.2.2⟩
theorem FX.cong {I J : MM} {t : Int → Int} (e1 : ∀ i, J 37 i = I 37 i) (e2 : ∀ i, J 38 i = I 38 i) (e3 : J 36 3 = I 36 3) (e4 : J 36 4 = I 36 4) (h : FX I t) : FX J t := ⟨fun i a b => (e1 i).trans (h.1 i a b), fun i a b => (e2 i).trans (h.2.1 i a b), e3.trans h.2.2.1, e4.trans h.2.2.2⟩
theorem IX.cong {k : Nat} {I J : MM} {g : G} {r : Nat → Int → Int} (e : ∀ a, k ≤ a → a < k + 15 → ∀ i, J a i = I a i) (h : IX k I g r) : IX k J g r := by
  refine ⟨(e k (by omega) (by omega) 0).trans h.1, fun q => ?_⟩
  obtain ⟨h1, h2, h3⟩ := h.2 q
  exact ⟨h1.cong (fun a a1 a2 i => e a (by omega) (by omega) i), h2.cong (e _ (by omega) (by omega) _) (fun i => e _ (by omega) (by omega) i), h3.cong (e _ (by omega) (by omega) _) (fun i => e _ (by omega) (by omega) i)⟩
theorem KX.cong {I J : MM} (e1 : ∀ i, J 97 i = I 97 i) (e2 : ∀ i, J 98 i = I 98 i) (h : KX I) : KX J := by
  unfold KX at *; simp only [e1, e2]; exact h
theorem NM.cong {f f' : Int → Int} {g : G} {r : Nat → Int → Int} (e : ∀ i, 0 ≤ i → i < 110 → f' i = f i) (hO : OG g r) (h : NM f g r) : NM f' g r := by
  obtain ⟨⟨⟨a1, a2, a3⟩, a4, a5, a6⟩, ⟨b1, b2⟩, ⟨c1, c2⟩, d1, d2⟩ := h
  obtain ⟨hg, -, hr, -, hp, -⟩ := hO
  have h7 := hg.last7; have hw := hg.nW3; have hb := hg.nB2
  refine ⟨⟨⟨(e _ (by omega) (by omega)).trans a1, (e _ (by omega) (by omega)).trans a2, (e _ (by omega) (by omega)).trans a3⟩, fun p p0 p1 => (e p (by omega) (by omega)).trans (a4 p p0 p1), fun w w0 w1 => ⟨(e _ (by omega) (by omega)).trans (a5 w w0 w1).1, (e _ (by omega) (by omega)).trans (a5 w w0 w1).2⟩, fun b b0 b1 => ⟨(e _ (by omega) (by omega)).trans (a6 b b0 b1).1, (e _ (by omega) (by omega)).trans (a6 b b0 b1).2.1, (e _ (by omega) (by omega)).trans (a6 b b0 b1).2.2⟩⟩, ⟨fun w w0 w1 => (e _ (by omega) (by omega)).trans (b1 w w0 w1), fun b e0 e1 => (e _ (by omega) (by omega)).trans (b2 b e0 e1)⟩, ⟨(e _ (by omega) (by omega)).trans c1, fun i i0 i1 => (e _ (by omega) (by omega)).trans (c2 i i0 i1)⟩, (e _ (by omega) (by omega)).trans d1, fun k k0 k1 => ⟨fun w w0 w1 => (e _ (by omega) (by omega)).trans ((d2 k k0 k1).1 w w0 w1), fun b b0 b1 => (e _ (by omega) (by omega)).trans ((d2 k k0 k1).2 b b0 b1)⟩⟩
theorem TM.cong {I J : MM} {t : Int → Int} (e1 : J 70 20 = I 70 20) (e2 : ∀ i, J 84 i = I 84 i) (h : TM I t) : TM J t := ⟨e1.trans h.1, fun i a b => (e2 i).trans (h.2 i a b)⟩
theorem CM.cong {I J : MM} {t : Int → Int} (e : ∀ i, J 74 i = I 74 i) (h : CM I t) : CM J t := ⟨(e _).trans h.1, (e _).trans h.2.1, (e _).trans h.2.2⟩
theorem FM.cong {I J : MM} {t : Int → Int} (e1 : ∀ i, J 75 i = I 75 i) (e2 : ∀ i, J 76 i = I 76 i) (e3 : J 70 6 = I 70 6) (h : FM I t) : FM J t := ⟨fun i a b => (e1 _).trans (h.1 i a b), fun i a b => (e1 _).trans (h.2.1 i a b), (e2 _).trans h.2.2.1, (e2 _).trans h.2.2.2.1, e3.trans h.2.2.2.2⟩
theorem IM.cong {k : Int} {I J : MM} {g : G} {r : Nat → Int → Int} (e1 : ∀ i, J 73 i = I 73 i) (e2 : ∀ i, J 72 i = I 72 i) (hO : OI g r) (h : IM k I g r) : IM k J g r := ⟨(e1 _).trans h.1, fun q => (h.2 q).cong (fun i _ _ => e2 _) (hO.2 q)⟩
/-- the model's scratch is all that a looking call changes -/
theorem MR.scr {I J : MM} {s : ST} (hO : OK s) (e71 : ∀ i, J 71 i = I 71 i) (e72 : ∀ i, J 72 i = I 72 i) (e73 : ∀ i, J 73 i = I 73 i) (e74 : ∀ i, J 74 i = I 74 i) (e75 : ∀ i, J 75 i = I 75 i) (e76 : ∀ i, J 76 i = I 76 i) (e84 : ∀ i, J 84 i = I 84 i) (e6 : J 70 6 = I 70 6) (e20 : J 70 20 = I 70 20) (h : MR I s) : MR J s :=
  ⟨h.N.cong (fun i _ _ => e71 i) hO.1, h.T.cong e20 e84, h.C.cong e74, h.F.cong e75 e76 e6, h.I0.cong e73 e72 hO.2.2.2.2.1, h.I1.cong e73 e72 hO.2.2.2.2.2⟩
theorem MR.fr8 {I J : MM} {s : ST} (hO : OK s) (f : Fr8 I J) (h : MR I s) : MR J s :=
  h.scr hO (f.oth (by omega)) (f.oth (by omega)) (f.oth (by omega)) (f.oth (by omega)) (f.oth (by omega)) (f.oth (by omega)) (f.oth (by omega)) (f 70 6 (by omega) (by omega) (by omega) (by omega) (by omega)) (f 70 20 (by omega) (by omega) (by omega) (by omega) (by omega))
