/-! The rule of the class: its fault, kept; what it comes to. -/
def RDn (I : MM) (r : Int → Int) : Prop := I 21 8 = (pR r).2.1 ∧ I 21 3 = (pR r).2.2.length ∧ SK (I 23) (pR r).2.2
/-- what was worked out holds -/
def RCh (I : MM) (r : Int → Int) : Prop := I 21 6 = 0 ∨ (I 21 6 = 1 ∧ RDn I r)
def FrF (I J : MM) : Prop := ∀ a i, a ≠ 23 → a ≠ 24 → ¬ (a = 21 ∧ (i = 3 ∨ i = 5 ∨ i = 6 ∨ i = 7 ∨ i = 8)) → J a i = I a i
theorem FrF.trans {I J K : MM} (f : FrF I J) (f' : FrF J K) : FrF I K := fun a i h h2 h' => (f' a i h h2 h').trans (f a i h h2 h')
theorem FrF.refl {I : MM} : FrF I I := fun _ _ _ _ _ => rfl
theorem FrQ.F {I J : MM} (f : FrQ I J) : FrF I J := fun a i h _ h' => f a i h (by omega)
theorem FrF.set {I : MM} {i : Int} (v : Int) (h : i = 3 ∨ i = 5 ∨ i = 6 ∨ i = 7 ∨ i = 8) : FrF I (mset I 21 i v) := fun a j h1 h2 h3 => by rw [mset_at, if_neg (by omega)]
theorem RDn.cong {I J : MM} {r : Int → Int} (e8 : J 21 8 = I 21 8) (e3 : J 21 3 = I 21 3) (e : ∀ i, J 23 i = I 23 i) (h : RDn I r) : RDn J r := ⟨e8.trans h.1, e3.trans h.2.1, SK.cong (fun i _ _ => e i) h.2.2⟩
section
variable {d : Nat} {I J K : MM} {r : Int → Int} {p : PS} {c i k x a n o v : Int} {st : List Int}
theorem p0_b (h : RB r) : PB r p0 := ⟨⟨by show (0 : Int) ≤ 0; omega, h.1.1⟩, by show (-1 : Int) ≤ -1; omega, by show (0 : Nat) ≤ 40; omega⟩
theorem x_faultCode (h : RB r) (hR : RX 21 I r) (hC : RCh I r) : ∃ J, call (d + 67) 62 [vR 21] I = some (some (vI (pR r).2.1), J) ∧ RX 21 J r ∧ J 21 6 = 1 ∧ RDn J r ∧ FrF I J := by
  rcases hC with h6 | ⟨h6, hD⟩
  · have hX := x_pV (e := d) h 8 (Nat.le_refl _)
    rw [show (8 : Int) - ((8 : Nat) : Int) = 0 by omega] at hX
    have hQ0 : QX r (mset (mset (mset I 21 7 0) 21 3 0) 21 8 (-1)) p0 := by
      refine ⟨((hR.set (by omega)).set (by omega)).set (by omega), ?_, ?_, ?_, trivial⟩
      · simp [mset_at, p0]
      · simp [mset_at, p0]
      · simp [mset_at, p0]
    obtain ⟨J1, c1, b1, q1, f1⟩ := hX p0 _ (p0_b h) hQ0
    have f0 : FrF I (mset (mset (mset I 21 7 0) 21 3 0) 21 8 (-1)) := ((FrF.set _ (by omega)).trans (FrF.set _ (by omega))).trans (FrF.set _ (by omega))
    have hst : call (d + 67) 62 [vR 21] I = runs (call (d + 66)) 62 22 [vR 21] [] (mset (mset (mset I 21 7 0) 21 3 0) 21 8 (-1)) := by
      rw [en62]
      simp (disch := omega) only [r62_0, r62_1, r62_4, r62_7, r62_8, r62_9, r62_12, r62_13, r62_14, r62_17, r62_18, r62_19, r62_23, r62_24, r62_27, r62_28, r62_31, r62_32, r62_35, r62_36, r62_37, r62_40, r62_41, r62_42, r62_45, r62_46, r62_49, ↓if_pos, ↓if_neg, h6]
    generalize mset (mset (mset I 21 7 0) 21 3 0) 21 8 (-1) = I1 at *
    obtain ⟨J2, c2, q2, f2⟩ := x_next (d := d + 64) h b1 q1
    have hb := nA_b h b1
    unfold RDn pR
    generalize pV r 8 p0 = w at *
    have fin : ∀ (M : MM) (q : PS), QX r M q → FrF I M → RX 21 (mset M 21 6 1) r ∧ (mset M 21 6 1) 21 6 = 1 ∧ ((mset M 21 6 1) 21 8 = q.2.1 ∧ (mset M 21 6 1) 21 3 = q.2.2.length ∧ SK ((mset M 21 6 1) 23) q.2.2) ∧ FrF I (mset M 21 6 1) := fun M q hq hf => by
      obtain ⟨g1, g2, g3, g4, g5⟩ := hq
      refine ⟨g1.set (by omega), by rw [mset_at, if_pos ⟨rfl, rfl⟩], ⟨?_, ?_, ?_⟩, hf.trans (FrF.set _ (by omega))⟩
      · rw [mset_at, if_neg (by omega)]; exact g3
      · rw [mset_at, if_neg (by omega)]; exact g4
      · exact SK.cong (fun i _ _ => by rw [mset_at, if_neg (by omega)]) g5
    by_cases h1 : nC r w = -1
    · rw [if_pos h1]
      refine ⟨mset J2 21 6 1, ?_, fin J2 _ q2 ((f0.trans f1.F).trans f2.F)⟩
      have e8 := q2.2.2.1
      rw [hst]
      clear hQ0 q1 q2 fin hX hst
      simp (disch := omega) only [r62_0, r62_1, r62_4, r62_7, r62_8, r62_9, r62_12, r62_13, r62_14, r62_17, r62_18, r62_19, r62_22, r62_23, r62_24, r62_27, r62_28, r62_31, r62_32, r62_35, r62_36, r62_37, r62_40, r62_41, r62_42, r62_45, r62_46, r62_49, ↓if_pos, ↓if_neg, c1, c2, e8, mset_at, Option.bind_some, pushR_s, pushR_n]
    · rw [if_neg h1]
      obtain ⟨J3, c3, q3, f3⟩ := x_brk (d := d + 65) (k := 1) h hb q2 (by omega)
      refine ⟨mset J3 21 6 1, ?_, fin J3 _ q3 (((f0.trans f1.F).trans f2.F).trans f3.F)⟩
      have e8 := q3.2.2.1
      rw [hst]
      clear hQ0 q1 q2 q3 fin hX hst
      simp (disch := omega) only [r62_0, r62_1, r62_4, r62_7, r62_8, r62_9, r62_12, r62_13, r62_14, r62_17, r62_18, r62_19, r62_22, r62_23, r62_24, r62_27, r62_28, r62_31, r62_32, r62_35, r62_36, r62_37, r62_40, r62_41, r62_42, r62_45, r62_46, r62_49, ↓if_pos, ↓if_neg, c1, c2, c3, e8, mset_at, Option.bind_some, pushR_s, pushR_n]
  · refine ⟨I, ?_, hR, h6, hD, FrF.refl⟩
    have e8 := hD.1
    rw [en62]
    clear hD
    simp (disch := omega) only [r62_0, r62_1, r62_4, r62_7, r62_8, r62_9, r62_12, r62_13, r62_14, r62_17, r62_18, r62_19, r62_22, r62_23, r62_24, r62_27, r62_28, r62_31, r62_32, r62_35, r62_36, r62_37, r62_40, r62_41, r62_42, r62_45, r62_46, r62_49, ↓if_pos, ↓if_neg, h6, e8]
end
