/-! The reader of the class: an item. -/
def islG (g : G) (v : Int) : G := fun j i => if j = 0 ∧ i = 1 then ior g.isl (ishl 1 v) else g j i
def tE (t : Int → Int) (k : Int) : Int := tkE t (t (-1)) (sk t k)
def ri1 (t : Int → Int) (q : SG) : SG := nS t 1 9 q
def ri2 (t : Int → Int) (l : Int) (q : SG) : SG := nS t 0 l (ri1 t q)
def ri3 (t : Int → Int) (l : Int) (q : SG) : SG := nS t 0 1 (ri2 t l q)
/-- an item whose first token begins at k or after blanks -/
def readI (t : Int → Int) (g : G) (c : Int) (first : Bool) (k : Int) : DS :=
  if first = isW t k 89 then
    if first = true then ((rstG g (nV t 1 7 (tE t k, -1)), 0), nS t 1 7 (tE t k, -1))
    else if isW t k 90 = true then ((islG g (nV t 1 (g.last - 1) (tE t k, -1)), c), nS t 1 (g.last - 1) (tE t k, -1))
    else if isW t k 91 = true ∧ g.nW < 3 then ((addW g (nV t 1 9 (tE t k, -1)) (nV t 0 1 (ri2 t g.last (tE t k, -1))), setW c g.nW (nV t 0 g.last (ri1 t (tE t k, -1)))), ri3 t g.last (tE t k, -1))
    else if isW t k 92 = true ∧ g.nB < 2 then readB t g c (tE t k, -1)
    else ((g, c), (tE t k, sk t k))
  else ((g, c), (tE t k, sk t k))
section
variable {d : Nat} {I J K : MM} {t : Int → Int} {g : G} {c k : Int} {q : SG}
theorem x_readItem (hB : BX 10 I g c) (hg : WG g) (hc : 0 ≤ c ∧ c < 131072) (hk : 0 ≤ k ∧ k ≤ t (-1)) (hT : TX I t) (hx : TKx I t k) (h5 : I 20 5 = -1) (hn : 0 ≤ t (-1) ∧ t (-1) ≤ 200) (first : Bool) : ∃ J, call (d + 6) 99 [vR 20, vR 10, vI (if first = true then 1 else 0)] I = some (none, J) ∧ BX 10 J (readI t g c first k).1.1 (readI t g c first k).1.2 ∧ RSx J t (readI t g c first k).2 ∧ FrX I J := by
  have w0 := x_isWord89 (d := d) hT hn hk hx
  have w1 := x_isWord90 (d := d) hT hn hk hx
  have w2 := x_isWord91 (d := d) hT hn hk hx
  have w3 := x_isWord92 (d := d) hT hn hk hx
  obtain ⟨x1, -, x3, -⟩ := hx
  have hs := sk_b hk
  have he := tkE_b (t := t) (n := t (-1)) (s := sk t k) (by omega)
  have hq : SB t (tE t k, -1) := ⟨⟨by unfold tE; omega, by unfold tE; omega⟩, Int.le_refl _⟩
  have hR : RSx I t (tE t k, -1) := ⟨x1, h5, hT⟩
  have hbr := x_break (d := d + 4) (I := I)
  rw [if_pos h5, x3] at hbr
  have fz : FrR I (mset I 20 5 (sk t k)) := fun a i h => by rw [mset_at, if_neg (by omega)]
  have hZ : BX 10 (mset I 20 5 (sk t k)) g c ∧ RSx (mset I 20 5 (sk t k)) t (tE t k, sk t k) ∧ FrX I (mset I 20 5 (sk t k)) := ⟨fz.B hB, ⟨by rw [mset_at, if_neg (by omega)]; exact x1, by rw [mset_at, if_pos ⟨rfl, rfl⟩], fz.T hT⟩, fz.X⟩
  have hla := hg.last7
  have l0 : I 10 0 = g.last := hB.1 0 0 (by omega) (by simp [rng])
  have l1 : I 10 1 = g.isl := hB.1 0 1 (by omega) (by simp [rng])
  have l2 : I 10 2 = g.nW := hB.1 0 2 (by omega) (by simp [rng])
  have l3 : I 10 3 = g.nB := hB.1 0 3 (by omega) (by simp [rng])
  rw [en99]
  unfold readI
  clear x1 x3
  by_cases hf : first = isW t k 89
  · rw [if_pos hf]
    rw [← hf] at w0
    by_cases h1 : first = true
    · rw [if_pos h1]
      rw [if_pos h1] at w0 ⊢
      obtain ⟨J1, c1, r1, f1, -⟩ := x_number (d := d + 1) (lo := 1) (hi := 7) hq hR hn
      obtain ⟨J2, c2, b2, f2⟩ := x_restart' (d := d + 4) (l := nV t 1 7 (tE t k, -1)) (f1.B hB).1
      refine ⟨J2, ?_, b2, ⟨(f2 _ _ (by omega)).trans r1.1, (f2 _ _ (by omega)).trans r1.2.1, (f1.X.trans f2.X).T hT⟩, f1.X.trans f2.X⟩
      simp (disch := omega) only [r99_0, r99_1, r99_2, r99_4, r99_7, r99_10, r99_11, r99_14, r99_17, r99_18, r99_21, r99_22, r99_23, r99_24, r99_26, r99_29, r99_32, r99_35, r99_36, r99_38, r99_41, r99_44, r99_45, r99_46, r99_49, r99_50, r99_51, r99_52, r99_53, r99_56, r99_57, r99_58, r99_61, r99_62, r99_63, r99_66, r99_69, r99_70, r99_72, r99_75, r99_78, r99_79, r99_82, r99_83, r99_86, r99_87, r99_88, r99_90, r99_93, r99_94, r99_95, r99_96, r99_97, r99_100, r99_103, r99_105, r99_106, r99_107, r99_109, r99_110, r99_111, r99_112, r99_115, r99_118, r99_121, r99_122, r99_124, r99_127, r99_130, r99_131, r99_134, r99_135, r99_138, r99_139, r99_140, r99_143, r99_146, r99_147, r99_150, w0, c1, c2, ↓if_pos, ↓if_neg, Option.bind_some, pushR_s, pushR_n]
    · rw [if_neg h1]
      rw [if_neg h1] at w0 ⊢
      by_cases h2 : isW t k 90 = true
      · rw [if_pos h2] at w1 ⊢
        obtain ⟨J1, c1, r1, f1, -⟩ := x_number (d := d + 1) (lo := 1) (hi := g.last - 1) hq hR hn
        have b1 := f1.B hB
        have fy : FrD J1 (mset J1 10 1 (ior g.isl (ishl 1 (nV t 1 (g.last - 1) (tE t k, -1))))) := fun a i h => by rw [mset_at, if_neg (by omega)]
        refine ⟨_, ?_, ⟨fun j i hj hr => ?_, by rw [mset_at, if_neg (by omega)]; exact b1.2⟩, ⟨(fy _ _ (by omega)).trans r1.1, (fy _ _ (by omega)).trans r1.2.1, (f1.X.trans fy.X).T hT⟩, f1.X.trans fy.X⟩
        · simp (disch := omega) only [r99_0, r99_1, r99_2, r99_4, r99_7, r99_10, r99_11, r99_14, r99_17, r99_18, r99_21, r99_22, r99_23, r99_24, r99_26, r99_29, r99_32, r99_35, r99_36, r99_38, r99_41, r99_44, r99_45, r99_46, r99_49, r99_50, r99_51, r99_52, r99_53, r99_56, r99_57, r99_58, r99_61, r99_62, r99_63, r99_66, r99_69, r99_70, r99_72, r99_75, r99_78, r99_79, r99_82, r99_83, r99_86, r99_87, r99_88, r99_90, r99_93, r99_94, r99_95, r99_96, r99_97, r99_100, r99_103, r99_105, r99_106, r99_107, r99_109, r99_110, r99_111, r99_112, r99_115, r99_118, r99_121, r99_122, r99_124, r99_127, r99_130, r99_131, r99_134, r99_135, r99_138, r99_139, r99_140, r99_143, r99_146, r99_147, r99_150, w0, w1, l0, l1, c1, isub_eq, ↓if_pos, ↓if_neg, Option.bind_some, pushR_s]
        · have h0 := b1.1 j i hj hr
          unfold islG
          simp only [mset_at]
          by_cases a1 : 10 + j = 10 ∧ i = 1
          · rw [if_pos a1, if_pos (by omega)]
          · rw [if_neg a1, if_neg (by omega)]; exact h0
      · rw [if_neg h2] at w1 ⊢
        by_cases h3 : isW t k 91 = true ∧ g.nW < 3
        · rw [if_pos h3]
          rw [if_pos h3.1] at w2
          have h32 := h3.2
          obtain ⟨J1, c1, r1, f1, -⟩ := x_number (d := d + 1) (lo := 1) (hi := 9) hq hR hn
          obtain ⟨J2, c2, r2, f2, -⟩ := x_number (d := d + 1) (lo := 0) (hi := g.last) (nS_b hq) r1 hn
          obtain ⟨J3, c3, r3, f3, -⟩ := x_number (d := d + 1) (lo := 0) (hi := 1) (nS_b (nS_b hq)) r2 hn
          have v2 := nV_b (t := t) (q := ri1 t (tE t k, -1)) (show (0 : Int) ≤ g.last by omega)
          have b1 := f1.B hB
          have l01 : J1 10 0 = g.last := b1.1 0 0 (by omega) (by simp [rng])
          have b3 := f3.B (f2.B b1)
          obtain ⟨J4, c4, b4, f4⟩ := x_addW' (d := d + 3) (w := nV t 1 9 (tE t k, -1)) (e := nV t 0 1 (ri2 t g.last (tE t k, -1))) (p := nV t 0 g.last (ri1 t (tE t k, -1))) b3 ⟨hg.nW3.1, h32⟩ hc ⟨v2.1, by omega⟩
          have fa : FrX I J4 := ((f1.trans f2).trans f3).X.trans f4.X
          rw [show nV t 0 g.last (nS t 1 9 (tE t k, -1)) = nV t 0 g.last (ri1 t (tE t k, -1)) from rfl] at c2
          rw [show nV t 0 1 (nS t 0 g.last (nS t 1 9 (tE t k, -1))) = nV t 0 1 (ri2 t g.last (tE t k, -1)) from rfl] at c3
          refine ⟨J4, ?_, b4, ⟨(f4 _ _ (by omega)).trans r3.1, (f4 _ _ (by omega)).trans r3.2.1, fa.T hT⟩, fa⟩
          clear v2 hq
          simp (disch := omega) only [r99_0, r99_1, r99_2, r99_4, r99_7, r99_10, r99_11, r99_14, r99_17, r99_18, r99_21, r99_22, r99_23, r99_24, r99_26, r99_29, r99_32, r99_35, r99_36, r99_38, r99_41, r99_44, r99_45, r99_46, r99_49, r99_50, r99_51, r99_52, r99_53, r99_56, r99_57, r99_58, r99_61, r99_62, r99_63, r99_66, r99_69, r99_70, r99_72, r99_75, r99_78, r99_79, r99_82, r99_83, r99_86, r99_87, r99_88, r99_90, r99_93, r99_94, r99_95, r99_96, r99_97, r99_100, r99_103, r99_105, r99_106, r99_107, r99_109, r99_110, r99_111, r99_112, r99_115, r99_118, r99_121, r99_122, r99_124, r99_127, r99_130, r99_131, r99_134, r99_135, r99_138, r99_139, r99_140, r99_143, r99_146, r99_147, r99_150, w0, w1, w2, l2, l01, c1, c2, c3, c4, ↓if_pos, ↓if_neg, Option.bind_some, pushR_s, pushR_n]
        · rw [if_neg h3]
          have hgo : runs (call (d + 5)) 99 69 [vR 20, vR 10, vI 0, vR 0, vR 0] [] I = runs (call (d + 5)) 99 121 [vR 20, vR 10, vI 0, vR 0, vR 0] [] I := by
            by_cases h4 : isW t k 91 = true
            · have h5 : ¬ g.nW < 3 := fun z => h3 ⟨h4, z⟩
              rw [if_pos h4] at w2
              simp (disch := omega) only [r99_0, r99_1, r99_2, r99_4, r99_7, r99_10, r99_11, r99_14, r99_17, r99_18, r99_21, r99_22, r99_23, r99_24, r99_26, r99_29, r99_32, r99_35, r99_36, r99_38, r99_41, r99_44, r99_45, r99_46, r99_49, r99_50, r99_51, r99_52, r99_53, r99_56, r99_57, r99_58, r99_61, r99_62, r99_63, r99_66, r99_69, r99_70, r99_72, r99_75, r99_78, r99_79, r99_82, r99_83, r99_86, r99_87, r99_88, r99_90, r99_93, r99_94, r99_95, r99_96, r99_97, r99_100, r99_103, r99_105, r99_106, r99_107, r99_109, r99_110, r99_111, r99_112, r99_115, r99_118, r99_122, r99_124, r99_127, r99_130, r99_131, r99_134, r99_135, r99_138, r99_139, r99_140, r99_143, r99_146, r99_147, r99_150, w2, l2, ↓if_pos, ↓if_neg, Option.bind_some, pushR_s]
            · rw [if_neg h4] at w2
              simp (disch := omega) only [r99_0, r99_1, r99_2, r99_4, r99_7, r99_10, r99_11, r99_14, r99_17, r99_18, r99_21, r99_22, r99_23, r99_24, r99_26, r99_29, r99_32, r99_35, r99_36, r99_38, r99_41, r99_44, r99_45, r99_46, r99_49, r99_50, r99_51, r99_52, r99_53, r99_56, r99_57, r99_58, r99_61, r99_62, r99_63, r99_66, r99_69, r99_70, r99_72, r99_75, r99_78, r99_79, r99_82, r99_83, r99_86, r99_87, r99_88, r99_90, r99_93, r99_94, r99_95, r99_96, r99_97, r99_100, r99_103, r99_105, r99_106, r99_107, r99_109, r99_110, r99_111, r99_112, r99_115, r99_118, r99_122, r99_124, r99_127, r99_130, r99_131, r99_134, r99_135, r99_138, r99_139, r99_140, r99_143, r99_146, r99_147, r99_150, w2, ↓if_pos, ↓if_neg, Option.bind_some, pushR_s]
          have hgo2 : runs (call (d + 5)) 99 0 [vR 20, vR 10, vI 0, vR 0, vR 0] [] I = runs (call (d + 5)) 99 121 [vR 20, vR 10, vI 0, vR 0, vR 0] [] I := by
            refine Eq.trans ?_ hgo
            simp (disch := omega) only [r99_0, r99_1, r99_2, r99_4, r99_7, r99_10, r99_11, r99_14, r99_17, r99_18, r99_21, r99_22, r99_23, r99_24, r99_26, r99_29, r99_32, r99_35, r99_36, r99_38, r99_41, r99_44, r99_45, r99_46, r99_49, r99_50, r99_51, r99_52, r99_53, r99_56, r99_57, r99_58, r99_61, r99_62, r99_63, r99_66, r99_70, r99_72, r99_75, r99_78, r99_79, r99_82, r99_83, r99_86, r99_87, r99_88, r99_90, r99_93, r99_94, r99_95, r99_96, r99_97, r99_100, r99_103, r99_105, r99_106, r99_107, r99_109, r99_110, r99_111, r99_112, r99_115, r99_118, r99_121, r99_122, r99_124, r99_127, r99_130, r99_131, r99_134, r99_135, r99_138, r99_139, r99_140, r99_143, r99_146, r99_147, r99_150, w0, w1, ↓if_pos, ↓if_neg, Option.bind_some, pushR_s]
          rw [hgo2]
          by_cases h6 : isW t k 92 = true ∧ g.nB < 2
          · rw [if_pos h6]
            rw [if_pos h6.1] at w3
            have h62 := h6.2
            obtain ⟨J1, c1, b1, r1, f1⟩ := x_readBoard (d := d) hB hg h62 hc hq hR hn
            refine ⟨J1, ?_, b1, r1, f1⟩
            simp (disch := omega) only [r99_0, r99_1, r99_2, r99_4, r99_7, r99_10, r99_11, r99_14, r99_17, r99_18, r99_21, r99_22, r99_23, r99_24, r99_26, r99_29, r99_32, r99_35, r99_36, r99_38, r99_41, r99_44, r99_45, r99_46, r99_49, r99_50, r99_51, r99_52, r99_53, r99_56, r99_57, r99_58, r99_61, r99_62, r99_63, r99_66, r99_69, r99_70, r99_72, r99_75, r99_78, r99_79, r99_82, r99_83, r99_86, r99_87, r99_88, r99_90, r99_93, r99_94, r99_95, r99_96, r99_97, r99_100, r99_103, r99_105, r99_106, r99_107, r99_109, r99_110, r99_111, r99_112, r99_115, r99_118, r99_121, r99_122, r99_124, r99_127, r99_130, r99_131, r99_134, r99_135, r99_138, r99_139, r99_140, r99_143, r99_146, r99_147, r99_150, w3, l3, c1, ↓if_pos, ↓if_neg, Option.bind_some, pushR_s, pushR_n]
          · rw [if_neg h6]
            refine ⟨_, ?_, hZ⟩
            by_cases h7 : isW t k 92 = true
            · have h8 : ¬ g.nB < 2 := fun z => h6 ⟨h7, z⟩
              rw [if_pos h7] at w3
              simp (disch := omega) only [r99_0, r99_1, r99_2, r99_4, r99_7, r99_10, r99_11, r99_14, r99_17, r99_18, r99_21, r99_22, r99_23, r99_24, r99_26, r99_29, r99_32, r99_35, r99_36, r99_38, r99_41, r99_44, r99_45, r99_46, r99_49, r99_50, r99_51, r99_52, r99_53, r99_56, r99_57, r99_58, r99_61, r99_62, r99_63, r99_66, r99_69, r99_70, r99_72, r99_75, r99_78, r99_79, r99_82, r99_83, r99_86, r99_87, r99_88, r99_90, r99_93, r99_94, r99_95, r99_96, r99_97, r99_100, r99_103, r99_105, r99_106, r99_107, r99_109, r99_110, r99_111, r99_112, r99_115, r99_118, r99_121, r99_122, r99_124, r99_127, r99_130, r99_131, r99_134, r99_135, r99_138, r99_139, r99_140, r99_143, r99_146, r99_147, r99_150, w3, l3, hbr, ↓if_pos, ↓if_neg, Option.bind_some, pushR_s, pushR_n]
            · rw [if_neg h7] at w3
              simp (disch := omega) only [r99_0, r99_1, r99_2, r99_4, r99_7, r99_10, r99_11, r99_14, r99_17, r99_18, r99_21, r99_22, r99_23, r99_24, r99_26, r99_29, r99_32, r99_35, r99_36, r99_38, r99_41, r99_44, r99_45, r99_46, r99_49, r99_50, r99_51, r99_52, r99_53, r99_56, r99_57, r99_58, r99_61, r99_62, r99_63, r99_66, r99_69, r99_70, r99_72, r99_75, r99_78, r99_79, r99_82, r99_83, r99_86, r99_87, r99_88, r99_90, r99_93, r99_94, r99_95, r99_96, r99_97, r99_100, r99_103, r99_105, r99_106, r99_107, r99_109, r99_110, r99_111, r99_112, r99_115, r99_118, r99_121, r99_122, r99_124, r99_127, r99_130, r99_131, r99_134, r99_135, r99_138, r99_139, r99_140, r99_143, r99_146, r99_147, r99_150, w3, hbr, ↓if_pos, ↓if_neg, Option.bind_some, pushR_s, pushR_n]
  · rw [if_neg hf]
    refine ⟨_, ?_, hZ⟩
    have hne : ¬ (if first = true then (1 : Int) else 0) = (if isW t k 89 = true then 1 else 0) := by
      cases first <;> cases hz : isW t k 89 <;> simp_all
    simp (disch := first | omega | exact hne) only [r99_0, r99_1, r99_2, r99_4, r99_7, r99_10, r99_11, r99_14, r99_17, r99_18, r99_21, r99_22, r99_23, r99_24, r99_26, r99_29, r99_32, r99_35, r99_36, r99_38, r99_41, r99_44, r99_45, r99_46, r99_49, r99_50, r99_51, r99_52, r99_53, r99_56, r99_57, r99_58, r99_61, r99_62, r99_63, r99_66, r99_69, r99_70, r99_72, r99_75, r99_78, r99_79, r99_82, r99_83, r99_86, r99_87, r99_88, r99_90, r99_93, r99_94, r99_95, r99_96, r99_97, r99_100, r99_103, r99_105, r99_106, r99_107, r99_109, r99_110, r99_111, r99_112, r99_115, r99_118, r99_121, r99_122, r99_124, r99_127, r99_130, r99_131, r99_134, r99_135, r99_138, r99_139, r99_140, r99_143, r99_146, r99_147, r99_150, w0, hbr, ↓if_neg hne, Option.bind_some, pushR_s, pushR_n]
end
