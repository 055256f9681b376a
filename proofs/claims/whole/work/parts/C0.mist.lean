/-! In mist: words for both; the class. -/
def ch4 (v : Int) : Int := if lrem v 4 < 0 then lrem v 4 + 4 else lrem v 4
def ahd (g : G) (c w : Int) : Int := wAt c w + stp (g.gl w)
def awy (g : G) (c w : Int) : Int := wAt c w + (if g.gl w = 0 then 1 else -1)
/-- the act that a choice comes to -/
def aof (g : G) (c w k : Int) : Int :=
  if k = 1 then 64 * w + 8 * g.gl w
  else if k = 2 then (if cby g c w = -1 then -1 else 256 + 64 * w + 8 * cby g c w + g.gl w)
  else if k = 3 then (if bover g c (awy g c w) = -1 then -1 else 512 + 64 * w + 8 * bover g c (awy g c w))
  else -1
def tak (g : G) (c w : Int) : Int := if aof g c w 3 ≠ -1 ∧ 0 ≤ outc g c (aof g c w 3) then 1 else 0
/-- what a walker sees, by the letters -/
def LSm (g : G) (c w t : Int) (ch : Int) : Int := if ch = 97 then frm g c (ahd g c w) else if ch = 110 then stdAt g c (ahd g c w) else if ch = 99 then (if cby g c w = -1 then 0 else 1) else if ch = 98 then tak g c w else if ch = 107 then w else t
def rval (r : Int → Int) (g : G) (c w t : Int) : Int := if (pR r).2.1 = -1 then (evU (LSm g c w t) (pR r).2.2).headD 0 else 0
/-- a walker goes: where all are then; -1: he is lost -/
def mgo (r : Int → Int) (g : G) (t w c : Int) : Int :=
  if wAt c w = goalP g w then c
  else if aof g c w (ch4 (rval r g c w t)) = -1 then c
  else if 0 ≤ outc g c (aof g c w (ch4 (rval r g c w t))) then outc g c (aof g c w (ch4 (rval r g c w t)))
  else if outc g c (aof g c w (ch4 (rval r g c w t))) = -3 ∨ ch4 (rval r g c w t) = 1 then -1
  else c
def mww (r : Int → Int) (g : G) (t : Int) : Nat → Int → Int → Int × Int
  | 0, _, c => (c, -1)
  | f + 1, w, c => if w < g.nW then (if mgo r g t w c = -1 then (c, w) else mww r g t f (w + 1) (mgo r g t w c)) else (c, -1)
def mrr (r : Int → Int) (g : G) : Nat → Int → Int → Int × Int × Int
  | 0, t, c => (c, -1, t)
  | f + 1, t, c => if (mww r g t 3 0 c).2 = -1 then mrr r g f (t + 1) (mww r g t 3 0 c).1 else ((mww r g t 3 0 c).1, (mww r g t 3 0 c).2, t + 1)
def FrG (I J : MM) : Prop := ∀ a i, a ≠ 24 → a ≠ 35 → ¬ (a = 21 ∧ i = 5) → ¬ (a = 34 ∧ (i = 1 ∨ i = 2 ∨ i = 3)) → J a i = I a i
theorem FrG.trans {I J K : MM} (f : FrG I J) (f' : FrG J K) : FrG I K := fun a i h1 h2 h3 h4 => (f' a i h1 h2 h3 h4).trans (f a i h1 h2 h3 h4)
theorem FrG.refl {I : MM} : FrG I I := fun _ _ _ _ _ _ => rfl
theorem FrK.G {I J : MM} (f : FrK I J) : FrG I J := fun a i h1 _ h3 _ => f a i h1 h3
theorem FrG.set {I : MM} {i : Int} (v : Int) (h : i = 1 ∨ i = 2 ∨ i = 3) : FrG I (mset I 34 i v) := fun a j h1 h2 h3 h4 => by rw [mset_at, if_neg (by omega)]
section
variable {d : Nat} {I J K : MM} {r : Int → Int} {g : G} {c w k t v b p : Int}
theorem lrem_tmod (x y : Int) : lrem x y = (Int64.ofInt x).toInt.tmod (Int64.ofInt y).toInt := by
  unfold lrem
  have a := (Int64.ofInt x % Int64.ofInt y).toInt_lt
  have b := (Int64.ofInt x % Int64.ofInt y).le_toInt
  rw [Int64.toInt_mod] at a b
  rw [Int64.toInt_sub, Int64.toInt_mul, Int64.toInt_div, Int.bmod_mul_bmod, Int.sub_bmod_bmod, Int.mul_comm, ← Int.tmod_def, ← Int64.toInt_ofInt]
  exact i64_id ⟨by omega, by omega⟩
theorem lrem4 : -3 ≤ lrem v 4 ∧ lrem v 4 ≤ 3 := by
  rw [lrem_tmod, show (Int64.ofInt 4).toInt = 4 by decide]
  have h1 := Int.tmod_lt_of_pos (Int64.ofInt v).toInt (show (0 : Int) < 4 by decide)
  have h2 := Int.lt_tmod_of_pos (Int64.ofInt v).toInt (show (0 : Int) < 4 by decide)
  omega
theorem ch4_b : 0 ≤ ch4 v ∧ ch4 v ≤ 3 := by
  have := lrem4 (v := v)
  unfold ch4; split <;> omega
theorem lxor4 : lxor v 4 < 0 ↔ (Int64.ofInt v).toInt < 0 := by
  unfold lxor
  have h1 := BitVec.msb_eq_toInt (x := (Int64.ofInt v ^^^ Int64.ofInt 4).toBitVec)
  have h2 := BitVec.msb_eq_toInt (x := (Int64.ofInt v).toBitVec)
  rw [Int64.toBitVec_xor, BitVec.msb_xor, show (Int64.ofInt 4).toBitVec.msb = false by decide, Bool.xor_false, h2] at h1
  have h3 := decide_eq_decide.mp h1
  rw [← Int64.toBitVec_xor] at h3
  exact h3.symm
theorem lrem4_s : (lrem v 4 < 0 → (Int64.ofInt v).toInt < 0) ∧ (0 < lrem v 4 → 0 ≤ (Int64.ofInt v).toInt) := by
  rw [lrem_tmod, show (Int64.ofInt 4).toInt = 4 by decide]
  generalize (Int64.ofInt v).toInt = n
  constructor
  · intro h
    rcases Int.lt_or_le n 0 with z | z
    · exact z
    · have := Int.tmod_nonneg 4 z; omega
  · intro h
    rcases Int.lt_or_le n 0 with z | z
    · have h1 := Int.tmod_nonneg 4 (show 0 ≤ -n by omega)
      rw [Int.neg_tmod] at h1; omega
    · exact z
theorem x_floorMod : call (d + 1) 265 [vL v, vL 4] I = some (some (vL (ch4 v)), I) := by
  have h := lrem4 (v := v)
  have hx := lxor4 (v := v)
  have hs := lrem4_s (v := v)
  unfold ch4
  generalize hxe : lxor v 4 = x at *
  generalize hze : lrem v 4 = z at *
  rw [en265]
  by_cases h0 : z < 0
  · have := hx.mpr (hs.1 h0)
    rw [if_pos h0]
    clear hx hs
    simp (disch := omega) only [r265_0, r265_1, r265_2, r265_3, r265_5, r265_6, r265_7, r265_8, r265_9, r265_10, r265_13, r265_15, r265_16, r265_17, r265_20, r265_22, r265_23, r265_24, r265_25, r265_27, ↓if_pos, ↓if_neg, kill, hxe, hze, ladd_eq]
  · rw [if_neg h0]
    by_cases h1 : z = 0
    · clear hx hs
      by_cases h2 : x < 0
      · simp (disch := omega) only [r265_0, r265_1, r265_2, r265_3, r265_5, r265_6, r265_7, r265_8, r265_9, r265_10, r265_13, r265_15, r265_16, r265_17, r265_20, r265_22, r265_23, r265_24, r265_25, r265_27, ↓if_pos, ↓if_neg, kill, hxe, hze]
      · simp (disch := omega) only [r265_0, r265_1, r265_2, r265_3, r265_5, r265_6, r265_7, r265_8, r265_9, r265_10, r265_13, r265_15, r265_16, r265_17, r265_20, r265_22, r265_23, r265_24, r265_25, r265_27, ↓if_pos, ↓if_neg, kill, hxe, hze]
    · have h2 : ¬ x < 0 := fun y => by have := hx.mp y; have := hs.2 (by omega); omega
      clear hx hs
      simp (disch := omega) only [r265_0, r265_1, r265_2, r265_3, r265_5, r265_6, r265_7, r265_8, r265_9, r265_10, r265_13, r265_15, r265_16, r265_17, r265_20, r265_22, r265_23, r265_24, r265_25, r265_27, ↓if_pos, ↓if_neg, kill, hxe, hze]
theorem bover_b (hg : WG g) : bover g c p = -1 ∨ (0 ≤ bover g c p ∧ bover g c p < g.nB) := by
  unfold bover; split
  · omega
  · split <;> omega
theorem cby_r (hg : WG g) : cby g c w = -1 ∨ (0 ≤ cby g c w ∧ cby g c w < g.nB) := by
  unfold cby; split
  · omega
  · split <;> omega
theorem x_actOf (hA : At 2 I g) (hg : WG g) (hc : 0 ≤ c ∧ c < 131072) (h34 : I 34 1 = c) (hw : 0 ≤ w ∧ w < g.nW) : call (d + 4) 55 [vR 34, vR 2, vI w, vI k] I = some (some (vI (aof g c w k)), I) := by
  have hn := hg.nW3
  have hb2 := hg.nB2
  have eg : I 4 w = g.gl w := hA 2 w (by omega) (by simp [rng]; omega)
  have hgl := (hg.2.2.2.2.1 w hw.1 hw.2).2
  have hcb := cby_r (g := g) (c := c) (w := w) hg
  have hbo := bover_b (g := g) (c := c) (p := awy g c w) hg
  have hwb := wAt_b c w
  rw [en55]
  unfold aof
  by_cases h1 : k = 1
  · simp (disch := omega) only [r55_0, r55_1, r55_4, r55_5, r55_6, r55_8, r55_9, r55_10, r55_13, r55_14, r55_16, r55_17, r55_18, r55_19, r55_21, r55_23, r55_24, r55_25, r55_26, r55_27, r55_28, r55_31, r55_32, r55_33, r55_36, r55_37, r55_40, r55_42, r55_44, r55_45, r55_48, r55_49, r55_52, r55_55, r55_57, r55_58, r55_59, r55_60, r55_62, r55_64, r55_65, r55_66, r55_68, r55_69, r55_70, r55_71, r55_72, r55_75, r55_76, r55_77, r55_80, r55_81, r55_84, r55_86, r55_89, r55_90, r55_93, r55_94, r55_95, r55_97, r55_98, r55_99, r55_102, r55_104, r55_107, r55_109, r55_111, r55_112, r55_115, r55_116, r55_119, r55_122, r55_124, r55_125, r55_126, r55_127, r55_129, r55_131, r55_132, r55_133, r55_134, r55_135, ↓if_pos, ↓if_neg, eg, imul_eq, iadd_eq, Int.zero_add]
  by_cases h2 : k = 2
  · have hcy := x_carriedBy (d := d + 1) hA hg hc (w := w) (by omega)
    by_cases h3 : cby g c w = -1
    · rw [h3] at hcy
      simp (disch := omega) only [r55_0, r55_1, r55_4, r55_5, r55_6, r55_8, r55_9, r55_10, r55_13, r55_14, r55_16, r55_17, r55_18, r55_19, r55_21, r55_23, r55_24, r55_25, r55_26, r55_27, r55_28, r55_31, r55_32, r55_33, r55_36, r55_37, r55_40, r55_42, r55_44, r55_45, r55_48, r55_49, r55_52, r55_55, r55_57, r55_58, r55_59, r55_60, r55_62, r55_64, r55_65, r55_66, r55_68, r55_69, r55_70, r55_71, r55_72, r55_75, r55_76, r55_77, r55_80, r55_81, r55_84, r55_86, r55_89, r55_90, r55_93, r55_94, r55_95, r55_97, r55_98, r55_99, r55_102, r55_104, r55_107, r55_109, r55_111, r55_112, r55_115, r55_116, r55_119, r55_122, r55_124, r55_125, r55_126, r55_127, r55_129, r55_131, r55_132, r55_133, r55_134, r55_135, ↓if_pos, ↓if_neg, eg, h34, hcy, Option.bind_some, pushR_s]
    · simp (disch := omega) only [r55_0, r55_1, r55_4, r55_5, r55_6, r55_8, r55_9, r55_10, r55_13, r55_14, r55_16, r55_17, r55_18, r55_19, r55_21, r55_23, r55_24, r55_25, r55_26, r55_27, r55_28, r55_31, r55_32, r55_33, r55_36, r55_37, r55_40, r55_42, r55_44, r55_45, r55_48, r55_49, r55_52, r55_55, r55_57, r55_58, r55_59, r55_60, r55_62, r55_64, r55_65, r55_66, r55_68, r55_69, r55_70, r55_71, r55_72, r55_75, r55_76, r55_77, r55_80, r55_81, r55_84, r55_86, r55_89, r55_90, r55_93, r55_94, r55_95, r55_97, r55_98, r55_99, r55_102, r55_104, r55_107, r55_109, r55_111, r55_112, r55_115, r55_116, r55_119, r55_122, r55_124, r55_125, r55_126, r55_127, r55_129, r55_131, r55_132, r55_133, r55_134, r55_135, ↓if_pos, ↓if_neg, eg, h34, hcy, imul_eq, iadd_eq, Option.bind_some, pushR_s]
  by_cases h3 : k = 3
  · have hbv := x_boardOver (d := d) (p := awy g c w) hA hg hc
    have hat := x_walkerAt (d := d + 2) (I := I) hc (w := w) (by omega)
    have ea : iadd (wAt c w) (if g.gl w = 0 then 1 else -1) = awy g c w := by unfold awy; rw [iadd_eq (by split <;> omega)]
    rcases hgl with hgl | hgl
    · rw [hgl, if_pos rfl] at ea
      by_cases h4 : bover g c (awy g c w) = -1
      · rw [h4] at hbv
        simp (disch := omega) only [r55_0, r55_1, r55_4, r55_5, r55_6, r55_8, r55_9, r55_10, r55_13, r55_14, r55_16, r55_17, r55_18, r55_19, r55_21, r55_23, r55_24, r55_25, r55_26, r55_27, r55_28, r55_31, r55_32, r55_33, r55_36, r55_37, r55_40, r55_42, r55_44, r55_45, r55_48, r55_49, r55_52, r55_55, r55_57, r55_58, r55_59, r55_60, r55_62, r55_64, r55_65, r55_66, r55_68, r55_69, r55_70, r55_71, r55_72, r55_75, r55_76, r55_77, r55_80, r55_81, r55_84, r55_86, r55_89, r55_90, r55_93, r55_94, r55_95, r55_97, r55_98, r55_99, r55_102, r55_104, r55_107, r55_109, r55_111, r55_112, r55_115, r55_116, r55_119, r55_122, r55_124, r55_125, r55_126, r55_127, r55_129, r55_131, r55_132, r55_133, r55_134, r55_135, ↓if_pos, ↓if_neg, eg, h34, hat, ea, hbv, Option.bind_some, pushR_s]
      · simp (disch := omega) only [r55_0, r55_1, r55_4, r55_5, r55_6, r55_8, r55_9, r55_10, r55_13, r55_14, r55_16, r55_17, r55_18, r55_19, r55_21, r55_23, r55_24, r55_25, r55_26, r55_27, r55_28, r55_31, r55_32, r55_33, r55_36, r55_37, r55_40, r55_42, r55_44, r55_45, r55_48, r55_49, r55_52, r55_55, r55_57, r55_58, r55_59, r55_60, r55_62, r55_64, r55_65, r55_66, r55_68, r55_69, r55_70, r55_71, r55_72, r55_75, r55_76, r55_77, r55_80, r55_81, r55_84, r55_86, r55_89, r55_90, r55_93, r55_94, r55_95, r55_97, r55_98, r55_99, r55_102, r55_104, r55_107, r55_109, r55_111, r55_112, r55_115, r55_116, r55_119, r55_122, r55_124, r55_125, r55_126, r55_127, r55_129, r55_131, r55_132, r55_133, r55_134, r55_135, ↓if_pos, ↓if_neg, eg, h34, hat, ea, hbv, imul_eq, iadd_eq, Option.bind_some, pushR_s]
    · rw [hgl, if_neg (by omega)] at ea
      by_cases h4 : bover g c (awy g c w) = -1
      · rw [h4] at hbv
        simp (disch := omega) only [r55_0, r55_1, r55_4, r55_5, r55_6, r55_8, r55_9, r55_10, r55_13, r55_14, r55_16, r55_17, r55_18, r55_19, r55_21, r55_23, r55_24, r55_25, r55_26, r55_27, r55_28, r55_31, r55_32, r55_33, r55_36, r55_37, r55_40, r55_42, r55_44, r55_45, r55_48, r55_49, r55_52, r55_55, r55_57, r55_58, r55_59, r55_60, r55_62, r55_64, r55_65, r55_66, r55_68, r55_69, r55_70, r55_71, r55_72, r55_75, r55_76, r55_77, r55_80, r55_81, r55_84, r55_86, r55_89, r55_90, r55_93, r55_94, r55_95, r55_97, r55_98, r55_99, r55_102, r55_104, r55_107, r55_109, r55_111, r55_112, r55_115, r55_116, r55_119, r55_122, r55_124, r55_125, r55_126, r55_127, r55_129, r55_131, r55_132, r55_133, r55_134, r55_135, ↓if_pos, ↓if_neg, eg, h34, hat, ea, hbv, Option.bind_some, pushR_s]
      · simp (disch := omega) only [r55_0, r55_1, r55_4, r55_5, r55_6, r55_8, r55_9, r55_10, r55_13, r55_14, r55_16, r55_17, r55_18, r55_19, r55_21, r55_23, r55_24, r55_25, r55_26, r55_27, r55_28, r55_31, r55_32, r55_33, r55_36, r55_37, r55_40, r55_42, r55_44, r55_45, r55_48, r55_49, r55_52, r55_55, r55_57, r55_58, r55_59, r55_60, r55_62, r55_64, r55_65, r55_66, r55_68, r55_69, r55_70, r55_71, r55_72, r55_75, r55_76, r55_77, r55_80, r55_81, r55_84, r55_86, r55_89, r55_90, r55_93, r55_94, r55_95, r55_97, r55_98, r55_99, r55_102, r55_104, r55_107, r55_109, r55_111, r55_112, r55_115, r55_116, r55_119, r55_122, r55_124, r55_125, r55_126, r55_127, r55_129, r55_131, r55_132, r55_133, r55_134, r55_135, ↓if_pos, ↓if_neg, eg, h34, hat, ea, hbv, imul_eq, iadd_eq, Option.bind_some, pushR_s]
  simp (disch := omega) only [r55_0, r55_1, r55_4, r55_5, r55_6, r55_8, r55_9, r55_10, r55_13, r55_14, r55_16, r55_17, r55_18, r55_19, r55_21, r55_23, r55_24, r55_25, r55_26, r55_27, r55_28, r55_31, r55_32, r55_33, r55_36, r55_37, r55_40, r55_42, r55_44, r55_45, r55_48, r55_49, r55_52, r55_55, r55_57, r55_58, r55_59, r55_60, r55_62, r55_64, r55_65, r55_66, r55_68, r55_69, r55_70, r55_71, r55_72, r55_75, r55_76, r55_77, r55_80, r55_81, r55_84, r55_86, r55_89, r55_90, r55_93, r55_94, r55_95, r55_97, r55_98, r55_99, r55_102, r55_104, r55_107, r55_109, r55_111, r55_112, r55_115, r55_116, r55_119, r55_122, r55_124, r55_125, r55_126, r55_127, r55_129, r55_131, r55_132, r55_133, r55_134, r55_135, ↓if_pos, ↓if_neg, eg]
end
