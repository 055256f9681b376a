/-! The rule of the class: units to values. -/
def lpS (r : Int → Int) (op : Int → Bool) (U : PS → PS) : Nat → PS → PS
  | 0, p => nA r p
  | f + 1, p => if op (nC r p) = true then lpS r op U f (emt (-(nC r p)) (U (adv (nA r p)))) else nA r p
def lpB (r : Int → Int) (c : Int) (U : PS → PS) : Nat → PS → PS
  | 0, p => p
  | f + 1, p => if nC r p = c then lpB r c U f (emt (-c) (U (adv (nA r p)))) else nA r p
def isM (c : Int) : Bool := decide (c = 42 ∨ c = 47)
def isA (c : Int) : Bool := decide (c = 43 ∨ c = 45)
def isH (c : Int) : Bool := decide (c = 60 ∨ c = 62 ∨ c = 61)
def pTerm (r : Int → Int) (o : Int) (V : PS → PS) (p : PS) : PS := lpS r isM (pUnit r o V) 40 (pUnit r o V p)
def pSum (r : Int → Int) (o : Int) (V : PS → PS) (p : PS) : PS := lpS r isA (pTerm r o V) 40 (pTerm r o V p)
def pHeld (r : Int → Int) (o : Int) (V : PS → PS) (p : PS) : PS := if isH (nC r (pSum r o V p)) = true then emt (-(nC r (pSum r o V p))) (pSum r o V (adv (nA r (pSum r o V p)))) else nA r (pSum r o V p)
def pBoth (r : Int → Int) (o : Int) (V : PS → PS) (p : PS) : PS := lpB r 38 (pHeld r o V) 40 (pHeld r o V p)
def pVal (r : Int → Int) (o : Int) (V : PS → PS) (p : PS) : PS := lpB r 124 (pBoth r o V) 40 (pBoth r o V p)
/-- with n parentheses left to open -/
def pV (r : Int → Int) : Nat → PS → PS
  | 0 => pVal r 8 (fun p => p)
  | n + 1 => pVal r (8 - ((n + 1 : Nat) : Int)) (pV r n)
def p0 : PS := (0, -1, [])
/-- the whole rule -/
def pR (r : Int → Int) : PS := if nC r (pV r 8 p0) = -1 then nA r (pV r 8 p0) else brk 1 (nA r (pV r 8 p0))
section
variable {e : Nat} {I J K : MM} {r : Int → Int} {p : PS} {c i k x a n o : Int} {V : PS → PS}
theorem x_signs (h : RB r) (v1 v4 v5 : AV) (s : Int) : ∀ (f : Nat) (i : Int) (p : PS) (J : MM), 0 ≤ i → i + f = 40 → PB r p → QX r J p → ∃ K i', runs (call (e + 3)) 68 7 [vR 21, v1, vI s, vI i, v4, v5] [] J = runs (call (e + 3)) 68 37 [vR 21, v1, vI s, vI i', v4, v5] [] K ∧ PB r (sgE r f p) ∧ QX r K (sgE r f p) ∧ FrQ J K := by
  intro f
  induction f with
  | zero =>
    intro i p J i0 hi hp hQ
    refine ⟨J, i, ?_, hp, hQ, FrQ.refl⟩
    simp (disch := omega) only [r68_0, r68_1, r68_4, r68_5, r68_6, r68_7, r68_8, r68_10, r68_13, r68_14, r68_16, r68_19, r68_22, r68_23, r68_25, r68_28, r68_31, r68_34, r68_38, r68_41, r68_42, r68_43, r68_44, r68_47, r68_48, r68_49, r68_50, r68_52, r68_54, r68_55, r68_58, r68_59, r68_61, r68_64, r68_66, r68_68, r68_70, r68_73, r68_75, r68_77, r68_80, r68_81, r68_83, r68_85, r68_88, r68_90, r68_93, r68_95, r68_98, r68_101, r68_104, ↓if_pos, ↓if_neg]
  | succ f ih =>
    intro i p J i0 hi hp hQ
    obtain ⟨J1, c1, q1, f1⟩ := x_takes (d := e) (c := 33) h hp hQ (by omega)
    rw [sgE]
    by_cases h1 : nC r p = 33
    · rw [if_pos h1] at c1
      rw [tkP_y' h1] at q1
      rw [if_pos (Or.inl h1)]
      obtain ⟨K, i', c3, b3, q3, f3⟩ := ih (i + 1) _ J1 (by omega) (by omega) (adv_b h hp (by omega)) q1
      refine ⟨K, i', ?_, b3, q3, f1.trans f3⟩
      rw [← c3, r68_7]
      clear hQ q1 q3
      simp (disch := omega) only [r68_0, r68_1, r68_4, r68_5, r68_6, r68_8, r68_10, r68_13, r68_14, r68_16, r68_19, r68_22, r68_23, r68_25, r68_28, r68_31, r68_34, r68_38, r68_41, r68_42, r68_43, r68_44, r68_47, r68_48, r68_49, r68_50, r68_52, r68_54, r68_55, r68_58, r68_59, r68_61, r68_64, r68_66, r68_68, r68_70, r68_73, r68_75, r68_77, r68_80, r68_81, r68_83, r68_85, r68_88, r68_90, r68_93, r68_95, r68_98, r68_101, r68_104, ↓if_pos, ↓if_neg, c1, iadd_eq, Option.bind_some, pushR_s]
    · rw [if_neg h1] at c1
      rw [tkP_n' h1] at q1
      have hb := nA_b h hp
      obtain ⟨J2, c2, q2, f2⟩ := x_takes (d := e) (c := 45) h hb q1 (by omega)
      rw [nC_nA] at c2
      by_cases h2 : nC r p = 45
      · rw [if_pos h2] at c2
        rw [tkP_y h2] at q2
        rw [if_pos (Or.inr h2)]
        obtain ⟨K, i', c3, b3, q3, f3⟩ := ih (i + 1) _ J2 (by omega) (by omega) (adv_b h hp (by omega)) q2
        refine ⟨K, i', ?_, b3, q3, (f1.trans f2).trans f3⟩
        rw [← c3, r68_7]
        clear hQ q1 q2 q3
        simp (disch := omega) only [r68_0, r68_1, r68_4, r68_5, r68_6, r68_8, r68_10, r68_13, r68_14, r68_16, r68_19, r68_22, r68_23, r68_25, r68_28, r68_31, r68_34, r68_38, r68_41, r68_42, r68_43, r68_44, r68_47, r68_48, r68_49, r68_50, r68_52, r68_54, r68_55, r68_58, r68_59, r68_61, r68_64, r68_66, r68_68, r68_70, r68_73, r68_75, r68_77, r68_80, r68_81, r68_83, r68_85, r68_88, r68_90, r68_93, r68_95, r68_98, r68_101, r68_104, ↓if_pos, ↓if_neg, c1, c2, iadd_eq, Option.bind_some, pushR_s]
      · rw [if_neg h2] at c2
        rw [tkP_n h2] at q2
        rw [if_neg (by omega)]
        refine ⟨J2, i, ?_, hb, q2, f1.trans f2⟩
        clear hQ q1 q2
        simp (disch := omega) only [r68_0, r68_1, r68_4, r68_5, r68_6, r68_7, r68_8, r68_10, r68_13, r68_14, r68_16, r68_19, r68_22, r68_23, r68_25, r68_28, r68_31, r68_34, r68_38, r68_41, r68_42, r68_43, r68_44, r68_47, r68_48, r68_49, r68_50, r68_52, r68_54, r68_55, r68_58, r68_59, r68_61, r68_64, r68_66, r68_68, r68_70, r68_73, r68_75, r68_77, r68_80, r68_81, r68_83, r68_85, r68_88, r68_90, r68_93, r68_95, r68_98, r68_101, r68_104, ↓if_pos, ↓if_neg, c1, c2, iadd_eq, Option.bind_some, pushR_s]
theorem emS_b (hp : PB r p) : PB r (emS c p) := by
  unfold emS; split
  · exact emt_b hp
  · split
    · exact emt_b hp
    · exact hp
theorem sgO_b : ∀ (f : Nat) (p : PS), PB r p → PB r (sgO r k f p)
  | 0, _, h => h
  | f + 1, _, h => sgO_b f _ (emS_b h)
theorem x_signsO (h : RB r) (v1 : AV) (s s2 : Int) (hs : 0 ≤ s ∧ s ≤ 40) : ∀ (f : Nat) (p : PS) (J : MM) (v5 : AV), s + f ≤ 41 → PB r p → QX r J p → ∃ K, runs (call (e + 3)) 68 52 [vR 21, v1, vI s, vI s2, vI (s + f - 1), v5] [] J = some (none, K) ∧ QX r K (sgO r s f p) ∧ FrQ J K := by
  intro f
  induction f with
  | zero =>
    intro p J v5 hf hp hQ
    refine ⟨J, ?_, hQ, FrQ.refl⟩
    clear hQ
    simp (disch := omega) only [r68_0, r68_1, r68_4, r68_5, r68_6, r68_7, r68_8, r68_10, r68_13, r68_14, r68_16, r68_19, r68_22, r68_23, r68_25, r68_28, r68_31, r68_34, r68_37, r68_38, r68_41, r68_42, r68_43, r68_44, r68_47, r68_48, r68_49, r68_50, r68_52, r68_54, r68_55, r68_58, r68_59, r68_61, r68_64, r68_66, r68_68, r68_70, r68_73, r68_75, r68_77, r68_80, r68_81, r68_83, r68_85, r68_88, r68_90, r68_93, r68_95, r68_98, r68_101, r68_104, ↓if_pos, ↓if_neg]
  | succ f ih =>
    intro p J v5 hf hp hQ
    rw [sgO]
    have e1 : s + ((f + 1 : Nat) : Int) - 1 = s + f := by omega
    rw [e1]
    have hc := x_chr (d := e + 2) (i := s + f) hQ.1 h
    generalize chr r (s + f) = ch at *
    have step : ∃ J1, runs (call (e + 3)) 68 52 [vR 21, v1, vI s, vI s2, vI (s + f), v5] [] J = runs (call (e + 3)) 68 52 [vR 21, v1, vI s, vI s2, vI (s + f - 1), vI ch] [] J1 ∧ QX r J1 (emS ch p) ∧ FrQ J J1 := by
      unfold emS
      by_cases h1 : ch = 33
      · rw [if_pos h1]
        obtain ⟨J1, c1, q1, f1⟩ := x_emt (d := e + 2) (x := -33) hp hQ
        refine ⟨J1, ?_, q1, f1⟩
        rw [r68_52]
        clear hQ q1 ih
        simp (disch := omega) only [r68_0, r68_1, r68_4, r68_5, r68_6, r68_7, r68_8, r68_10, r68_13, r68_14, r68_16, r68_19, r68_22, r68_23, r68_25, r68_28, r68_31, r68_34, r68_37, r68_38, r68_41, r68_42, r68_43, r68_44, r68_47, r68_48, r68_49, r68_50, r68_54, r68_55, r68_58, r68_59, r68_61, r68_64, r68_66, r68_68, r68_70, r68_73, r68_75, r68_77, r68_80, r68_81, r68_83, r68_85, r68_88, r68_90, r68_93, r68_95, r68_98, r68_101, r68_104, ↓if_pos, ↓if_neg, hc, c1, iadd_eq, Option.bind_some, pushR_s, pushR_n]
        rfl
      · rw [if_neg h1]
        by_cases h2 : ch = 45
        · rw [if_pos h2]
          obtain ⟨J1, c1, q1, f1⟩ := x_emt (d := e + 2) (x := -126) hp hQ
          refine ⟨J1, ?_, q1, f1⟩
          rw [r68_52]
          clear hQ q1 ih
          simp (disch := omega) only [r68_0, r68_1, r68_4, r68_5, r68_6, r68_7, r68_8, r68_10, r68_13, r68_14, r68_16, r68_19, r68_22, r68_23, r68_25, r68_28, r68_31, r68_34, r68_37, r68_38, r68_41, r68_42, r68_43, r68_44, r68_47, r68_48, r68_49, r68_50, r68_54, r68_55, r68_58, r68_59, r68_61, r68_64, r68_66, r68_68, r68_70, r68_73, r68_75, r68_77, r68_80, r68_81, r68_83, r68_85, r68_88, r68_90, r68_93, r68_95, r68_98, r68_101, r68_104, ↓if_pos, ↓if_neg, hc, c1, iadd_eq, Option.bind_some, pushR_s, pushR_n]
          rfl
        · rw [if_neg h2]
          refine ⟨J, ?_, hQ, FrQ.refl⟩
          rw [r68_52]
          clear hQ ih
          simp (disch := omega) only [r68_0, r68_1, r68_4, r68_5, r68_6, r68_7, r68_8, r68_10, r68_13, r68_14, r68_16, r68_19, r68_22, r68_23, r68_25, r68_28, r68_31, r68_34, r68_37, r68_38, r68_41, r68_42, r68_43, r68_44, r68_47, r68_48, r68_49, r68_50, r68_54, r68_55, r68_58, r68_59, r68_61, r68_64, r68_66, r68_68, r68_70, r68_73, r68_75, r68_77, r68_80, r68_81, r68_83, r68_85, r68_88, r68_90, r68_93, r68_95, r68_98, r68_101, r68_104, ↓if_pos, ↓if_neg, hc, iadd_eq, Option.bind_some, pushR_s, pushR_n]
          rfl
    obtain ⟨J1, c1, q1, f1⟩ := step
    obtain ⟨K, c2, q2, f2⟩ := ih _ J1 (vI ch) (by omega) (emS_b hp) q1
    exact ⟨K, c1.trans c2, q2, f1.trans f2⟩
theorem sgE_ge (h : RB r) : ∀ (f : Nat) (p : PS), PB r p → p.1 ≤ (sgE r f p).1 := by
  intro f
  induction f with
  | zero => intro p hp; exact Int.le_refl _
  | succ f ih =>
    intro p hp
    have hg := nA_ge h hp
    rw [sgE]; split
    · rename_i z
      have := ih _ (adv_b h hp (by omega))
      have e1 : (adv (nA r p)).1 = (nA r p).1 + 1 := rfl
      omega
    · exact hg
theorem x_unit (h : RB r) (hU : XP r (e + 4) 69 [vI o] (pCore r o V)) : XP r (e + 5) 68 [vI o] (pUnit r o V) := by
  intro p I hp hQ
  have h7 := hQ.2.1
  obtain ⟨J, i', c1, b1, q1, f1⟩ := x_signs (e := e + 1) h (vI o) (vR 0) (vR 0) p.1 40 0 p I (by omega) (by omega) hp hQ
  have hge := sgE_ge h 40 p hp
  obtain ⟨K, c2, b2, q2, f2⟩ := hU _ J b1 q1
  have j7 := q1.2.1
  have h40 := h.1
  have hp1 := hp.1
  have hb1 := b1.1
  unfold pUnit
  generalize sgE r 40 p = q at *
  generalize pCore r o V q = w at *
  obtain ⟨L, c3, q3, f3⟩ := x_signsO (e := e + 1) h (vI o) p.1 q.1 ⟨hp1.1, by omega⟩ (q.1 - p.1).toNat w K (vR 0) (by omega) b2 q2
  refine ⟨L, ?_, sgO_b _ _ b2, q3, (f1.trans f2).trans f3⟩
  have e1 : p.1 + (((q.1 - p.1).toNat : Nat) : Int) - 1 = q.1 - 1 := by omega
  rw [e1] at c3
  rw [en68]
  have hgo : runs (call (e + 4)) 68 0 [vR 21, vI o, vR 0, vR 0, vR 0, vR 0] [] I = runs (call (e + 4)) 68 7 [vR 21, vI o, vI p.1, vI 0, vR 0, vR 0] [] I := by
    simp (disch := omega) only [r68_0, r68_1, r68_4, r68_5, r68_6, r68_8, r68_10, r68_13, r68_14, r68_16, r68_19, r68_22, r68_23, r68_25, r68_28, r68_31, r68_34, r68_37, r68_38, r68_41, r68_42, r68_43, r68_44, r68_47, r68_48, r68_49, r68_50, r68_52, r68_54, r68_55, r68_58, r68_59, r68_61, r68_64, r68_66, r68_68, r68_70, r68_73, r68_75, r68_77, r68_80, r68_81, r68_83, r68_85, r68_88, r68_90, r68_93, r68_95, r68_98, r68_101, r68_104, h7]
  rw [hgo, c1, ← c3]
  clear hQ q1 q2 q3 c1 c3
  simp (disch := omega) only [r68_0, r68_1, r68_4, r68_5, r68_6, r68_7, r68_8, r68_10, r68_13, r68_14, r68_16, r68_19, r68_22, r68_23, r68_25, r68_28, r68_31, r68_34, r68_37, r68_38, r68_41, r68_42, r68_43, r68_44, r68_47, r68_48, r68_49, r68_50, r68_54, r68_55, r68_58, r68_59, r68_61, r68_64, r68_66, r68_68, r68_70, r68_73, r68_75, r68_77, r68_80, r68_81, r68_83, r68_85, r68_88, r68_90, r68_93, r68_95, r68_98, r68_101, r68_104, j7, c2, isub_eq, Option.bind_some, pushR_s, pushR_n]
end
