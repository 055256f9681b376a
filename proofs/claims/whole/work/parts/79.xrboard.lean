/-! The reader of the class: a board, told. -/
def rb1 (t : Int → Int) (q : SG) : SG := nS t 0 5 q
def rb2 (t : Int → Int) (q : SG) : SG := nS t 1 3 (rb1 t q)
def rb3 (t : Int → Int) (q : SG) : SG := nS t 1 30 (rb2 t q)
def rb4 (t : Int → Int) (l : Int) (q : SG) : SG := nS t 0 l (rb3 t q)
def rbK (t : Int → Int) (q : SG) : Int := nV t 0 5 q
def rbL (t : Int → Int) (q : SG) : Int := nV t 1 3 (rb1 t q)
def rbB (t : Int → Int) (q : SG) : Int := nV t 1 30 (rb2 t q)
def rbP (t : Int → Int) (l : Int) (q : SG) : Int := nV t 0 l (rb3 t q)
abbrev DS : Type := (G × Int) × SG
def readB (t : Int → Int) (g : G) (c : Int) (q : SG) : DS := if (rb4 t g.last q).2 = -1 then (if fitB g c (rbK t q) (rbL t q) (rbP t g.last q) = true then ((addB g (rbK t q) (rbL t q) (rbB t q), setB c g.nB (rbP t g.last q)), rb4 t g.last q) else ((g, c), ((rb4 t g.last q).1, sk t (rb3 t q).1))) else ((g, c), rb4 t g.last q)
/-- the reader's and the draft's cells alone -/
def FrX (I J : MM) : Prop := ∀ a i, ¬ (a = 20 ∧ 1 ≤ i ∧ i ≤ 5) → ¬ (10 ≤ a ∧ a < 18) → J a i = I a i
theorem FrR.X {I J : MM} (f : FrR I J) : FrX I J := fun a i h _ => f a i h
theorem FrD.X {I J : MM} (f : FrD I J) : FrX I J := fun a i _ h => f a i h
theorem FrX.trans {I J K : MM} (f : FrX I J) (f' : FrX J K) : FrX I K := fun a i h h' => (f' a i h h').trans (f a i h h')
theorem FrX.T {I J : MM} {t : Int → Int} (f : FrX I J) (h : TX I t) : TX J t := h.cong (f _ _ (by omega) (by omega)) (fun i => f _ _ (by omega) (by omega))
theorem FrR.B {I J : MM} {g : G} {c : Int} (f : FrR I J) (h : BX 10 I g c) : BX 10 J g c := h.cong (fun a _ _ i => f a i (by omega))
theorem nV_b {t : Int → Int} {lo hi : Int} {q : SG} (h : lo ≤ hi) : lo ≤ nV t lo hi q ∧ nV t lo hi q ≤ hi := by
  unfold nV
  split
  · rename_i z
    have := of_decide_eq_true z.2
    exact ⟨this.2.1, this.2.2⟩
  · exact ⟨Int.le_refl _, h⟩
theorem nS_ok {t : Int → Int} {lo hi : Int} {q : SG} (h : (nS t lo hi q).2 = -1) : q.2 = -1 := by
  unfold nS at h
  split at h
  · assumption
  · exact h
section
variable {d : Nat} {I J K : MM} {t : Int → Int} {g : G} {c : Int} {q : SG}
theorem x_readBoard (hB : BX 10 I g c) (hg : WG g) (hnb : g.nB < 2) (hc : 0 ≤ c ∧ c < 131072) (hq : SB t q) (hR : RSx I t q) (hn : 0 ≤ t (-1) ∧ t (-1) ≤ 200) : ∃ J, call (d + 5) 100 [vR 20, vR 10] I = some (none, J) ∧ BX 10 J (readB t g c q).1.1 (readB t g c q).1.2 ∧ RSx J t (readB t g c q).2 ∧ FrX I J := by
  have hla := hg.last7
  obtain ⟨J1, c1, r1, f1, -⟩ := x_number (d := d) (lo := 0) (hi := 5) hq hR hn
  obtain ⟨J2, c2, r2, f2, -⟩ := x_number (d := d) (lo := 1) (hi := 3) (nS_b hq) r1 hn
  obtain ⟨J3, c3, r3, f3, -⟩ := x_number (d := d) (lo := 1) (hi := 30) (nS_b (nS_b hq)) r2 hn
  obtain ⟨J4, c4, r4, f4, g4⟩ := x_number (d := d) (lo := 0) (hi := g.last) (nS_b (nS_b (nS_b hq))) r3 hn
  have v1 := nV_b (t := t) (q := q) (show (0 : Int) ≤ 5 by omega)
  have v2 := nV_b (t := t) (q := rb1 t q) (show (1 : Int) ≤ 3 by omega)
  have v3 := nV_b (t := t) (q := rb2 t q) (show (1 : Int) ≤ 30 by omega)
  have v4 := nV_b (t := t) (q := rb3 t q) (show (0 : Int) ≤ g.last by omega)
  have b3 : BX 10 J3 g c := f3.B (f2.B (f1.B hB))
  have b4 : BX 10 J4 g c := f4.B b3
  have l3 : J3 10 0 = g.last := b3.1 0 0 (by omega) (by simp [rng])
  have fa : FrX I J4 := ((f1.trans f2).trans (f3.trans f4)).X
  obtain ⟨J5, c5, p5, f5⟩ := x_addB' (d := d) b4 hg hnb hc (p := rbP t g.last q) (k := rbK t q) (l := rbL t q) (b := rbB t q) ⟨v4.1, by have := v4.2; unfold rbP; omega⟩ v1 v2 v3
  obtain ⟨e1, e5, -⟩ := r4
  have g4' : (rb4 t g.last q).2 = -1 → J4 20 3 = sk t (rb3 t q).1 := fun z => g4 (nS_ok z)
  rw [show nS t 0 g.last (nS t 1 30 (nS t 1 3 (nS t 0 5 q))) = rb4 t g.last q from rfl] at e1 e5
  rw [show nV t 0 g.last (nS t 1 30 (nS t 1 3 (nS t 0 5 q))) = rbP t g.last q from rfl] at c4
  rw [show nV t 1 30 (nS t 1 3 (nS t 0 5 q)) = rbB t q from rfl] at c3
  rw [show nV t 1 3 (nS t 0 5 q) = rbL t q from rfl] at c2
  rw [show nV t 0 5 q = rbK t q from rfl] at c1
  rw [en100]
  unfold readB
  clear v1 v2 v3 v4 g4 hq hB
  by_cases hb : (rb4 t g.last q).2 = -1
  · have g5 := g4' hb
    have e5' : J4 20 5 = -1 := e5.trans hb
    rw [if_pos hb]
    by_cases hf : fitB g c (rbK t q) (rbL t q) (rbP t g.last q) = true
    · rw [if_pos hf] at c5 p5
      rw [if_pos hf]
      refine ⟨J5, ?_, p5, ⟨(f5 _ _ (by omega)).trans e1, (f5 _ _ (by omega)).trans e5, (fa.trans f5.X).T hR.2.2⟩, fa.trans f5.X⟩
      simp (disch := omega) only [r100_0, r100_1, r100_2, r100_3, r100_6, r100_7, r100_8, r100_9, r100_10, r100_13, r100_14, r100_15, r100_16, r100_18, r100_21, r100_23, r100_24, r100_25, r100_26, r100_29, r100_32, r100_34, r100_35, r100_38, r100_39, r100_42, r100_43, r100_44, r100_45, r100_47, r100_49, r100_52, r100_55, r100_56, r100_59, c1, c2, c3, c4, c5, l3, ↓if_pos, ↓if_neg, Option.bind_some, pushR_s]
    · rw [if_neg hf] at c5 p5
      rw [if_neg hf]
      subst p5
      have hbr := x_break (d := d + 3) (I := J5)
      rw [if_pos e5', g5] at hbr
      have fz : FrR J5 (mset J5 20 5 (sk t (rb3 t q).1)) := fun a i h => by rw [mset_at, if_neg (by omega)]
      refine ⟨_, ?_, fz.B b4, ⟨(by rw [mset_at, if_neg (by omega)]; exact e1), (by rw [mset_at, if_pos ⟨rfl, rfl⟩]), fz.T (fa.T hR.2.2)⟩, fa.trans fz.X⟩
      simp (disch := omega) only [r100_0, r100_1, r100_2, r100_3, r100_6, r100_7, r100_8, r100_9, r100_10, r100_13, r100_14, r100_15, r100_16, r100_18, r100_21, r100_23, r100_24, r100_25, r100_26, r100_29, r100_32, r100_34, r100_35, r100_38, r100_39, r100_42, r100_43, r100_44, r100_45, r100_47, r100_49, r100_52, r100_55, r100_56, r100_59, c1, c2, c3, c4, c5, l3, hbr, ↓if_pos, ↓if_neg, Option.bind_some, pushR_s, pushR_n]
  · rw [if_neg hb]
    have e5' : ¬ J4 20 5 = -1 := fun z => hb (e5.symm.trans z)
    refine ⟨J4, ?_, b4, ⟨e1, e5, fa.T hR.2.2⟩, fa⟩
    simp (disch := omega) only [r100_0, r100_1, r100_2, r100_3, r100_6, r100_7, r100_8, r100_9, r100_10, r100_13, r100_14, r100_15, r100_16, r100_18, r100_21, r100_23, r100_24, r100_25, r100_26, r100_29, r100_32, r100_34, r100_35, r100_38, r100_39, r100_42, r100_43, r100_44, r100_45, r100_47, r100_49, r100_52, r100_55, r100_56, r100_59, c1, c2, c3, c4, l3, ↓if_pos, ↓if_neg, Option.bind_some, pushR_s]
end
