/-! An act's outcome in a code: told once for the class and for the model. -/
abbrev such (g : G) (k w x y : Int) : Prop := w < g.nW ∧ (if k = 0 ∨ k = 4 then x < 2 ∧ y = 0 else x < g.nB ∧ (if k = 1 then y < 2 else if k = 2 then y = 0 else y < g.nW))
def stp (x : Int) : Int := if x = 0 then -1 else 1
def least (g : G) (c w b y : Int) : Int := if y = 0 then wAt c w - g.sp b else wAt c w + 1
def wetB (g : G) (c s p : Int) : Bool := (decide (0 < s → ¬ hold g c p) && decide (1 < s → ¬ hold g c (p + 1))) && (decide (2 < s → ¬ hold g c (p + 2)) && decide (3 < s → ¬ hold g c (p + 3)))
abbrev wet (g : G) (c s p : Int) : Prop := wetB g c s p = true
theorem wet_def {g : G} {c s p : Int} : wet g c s p ↔ ((0 < s → ¬ hold g c p) ∧ (1 < s → ¬ hold g c (p + 1))) ∧ (2 < s → ¬ hold g c (p + 2)) ∧ (3 < s → ¬ hold g c (p + 3)) := by
  simp only [wet, wetB, Bool.and_eq_true, decide_eq_true_eq]
abbrev layOK (g : G) (c w b y : Int) : Prop := (0 ≤ least g c w b y ∧ least g c w b y + g.sp b - 1 ≤ g.last) ∧ wet g c (g.sp b) (least g c w b y)
def onB (g : G) (c b : Int) : Bool := decide (0 < g.nW ∧ cov g c b (wAt c 0)) || (decide (1 < g.nW ∧ cov g c b (wAt c 1)) || decide (2 < g.nW ∧ cov g c b (wAt c 2)))
abbrev onIt (g : G) (c b : Int) : Prop := onB g c b = true
theorem on_def {g : G} {c b : Int} : onIt g c b ↔ (0 < g.nW ∧ cov g c b (wAt c 0)) ∨ (1 < g.nW ∧ cov g c b (wAt c 1)) ∨ (2 < g.nW ∧ cov g c b (wAt c 2)) := by
  simp only [onIt, onB, Bool.or_eq_true, decide_eq_true_eq]
abbrev takeOK (g : G) (c w b : Int) : Prop := (bAt c b < 8 ∧ g.kd b ≠ 5) ∧ (wAt c w = bAt c b - 1 ∨ wAt c w = bAt c b + g.sp b) ∧ (g.kd b = 4 → anyAt g c (if wAt c w = bAt c b - 1 then bAt c b + g.sp b else bAt c b - 1)) ∧ ¬ onIt g c b ∧ cby g c w = -1
abbrev handOK (g : G) (c w y : Int) : Prop := (-1 ≤ wAt c w - wAt c y ∧ wAt c w - wAt c y ≤ 1) ∧ cby g c y = -1
def leapB (g : G) (c w x : Int) : Bool := !decide (firm g c (wAt c w + stp x)) && decide (firm g c (wAt c w + stp x + stp x))
abbrev leapOK (g : G) (c w x : Int) : Prop := leapB g c w x = true
theorem leap_def {g : G} {c w x : Int} : leapOK g c w x ↔ ¬ firm g c (wAt c w + stp x) ∧ firm g c (wAt c w + stp x + stp x) := by
  simp only [leapOK, leapB, Bool.and_eq_true, Bool.not_eq_true', decide_eq_false_iff_not, decide_eq_true_eq]
def canB (g : G) (c k w x y : Int) : Bool := if k = 0 then decide (firm g c (wAt c w + stp x)) else if k = 1 then decide (bAt c x = 8 + w) && decide (layOK g c w x y) else if k = 2 then decide (takeOK g c w x) else if k = 3 then decide (bAt c x = 8 + w) && decide (handOK g c w y) else leapB g c w x
abbrev can (g : G) (c k w x y : Int) : Prop := canB g c k w x y = true
theorem can_0 {g : G} {c w x y : Int} : can g c 0 w x y ↔ firm g c (wAt c w + stp x) := by
  rw [can, canB, if_pos rfl, decide_eq_true_eq]
theorem can_1 {g : G} {c w x y : Int} : can g c 1 w x y ↔ bAt c x = 8 + w ∧ layOK g c w x y := by
  rw [can, canB, if_neg (by decide), if_pos rfl, Bool.and_eq_true, decide_eq_true_eq, decide_eq_true_eq]
theorem can_2 {g : G} {c w x y : Int} : can g c 2 w x y ↔ takeOK g c w x := by
  rw [can, canB, if_neg (by decide), if_neg (by decide), if_pos rfl, decide_eq_true_eq]
theorem can_3 {g : G} {c w x y : Int} : can g c 3 w x y ↔ bAt c x = 8 + w ∧ handOK g c w y := by
  rw [can, canB, if_neg (by decide), if_neg (by decide), if_neg (by decide), if_pos rfl, Bool.and_eq_true, decide_eq_true_eq, decide_eq_true_eq]
theorem can_4 {g : G} {c w x y : Int} : can g c 4 w x y ↔ leapOK g c w x := by
  rw [can, canB, if_neg (by decide), if_neg (by decide), if_neg (by decide), if_neg (by decide)]
def nxt (g : G) (c k w x y : Int) : Int := if k = 0 then setW c w (wAt c w + stp x) else if k = 1 then setB c x (least g c w x y) else if k = 2 then setB c x (8 + w) else if k = 3 then setB c x (8 + y) else setW c w (wAt c w + stp x + stp x)
def outk (g : G) (c k w x y : Int) : Int := if ¬ such g k w x y then -1 else if ¬ can g c k w x y then -2 else if well g (nxt g c k w x y) then nxt g c k w x y else -3
def outc (g : G) (c a : Int) : Int := if 0 ≤ a ∧ a < 1280 then outk g c (a / 256) (a / 64 % 4) (a / 8 % 8) (a % 8) else -1
theorem stp_0 {x : Int} (h : x = 0) : stp x = -1 := if_pos h
theorem stp_1 {x : Int} (h : x ≠ 0) : stp x = 1 := if_neg h
theorem stp_c (x : Int) : stp x = -1 ∨ stp x = 1 := by unfold stp; split <;> simp
theorem a_k {a : Int} (h : 0 ≤ a ∧ a < 1280) : ishr a 8 = a / 256 := by rw [ishr_i (by omega) (by omega)]; rfl
theorem a_w {a : Int} (h : 0 ≤ a ∧ a < 1280) : iand (ishr a 6) 3 = a / 64 % 4 := by
  rw [ishr_i (by omega) (by omega), show (2 : Int) ^ (6 : Int).toNat = 64 from rfl, iand_3 (by omega)]
theorem a_x {a : Int} (h : 0 ≤ a ∧ a < 1280) : iand (ishr a 3) 7 = a / 8 % 8 := by
  rw [ishr_i (by omega) (by omega), show (2 : Int) ^ (3 : Int).toNat = 8 from rfl, iand_7 (by omega)]
section
variable {d : Nat} {I : MM} {g : G} {a c w x y b p : Int}
theorem x_isSuch (hA : At 2 I g) : call (d + 1) 31 [vR 2, vI a] I = some (some (vI (if (0 ≤ a ∧ a < 1280) ∧ such g (a / 256) (a / 64 % 4) (a / 8 % 8) (a % 8) then 1 else 0)), I) := by
  rw [en31]
  have e := hA.nW; have e2 := hA.nB
  by_cases ha : 0 ≤ a ∧ a < 1280
  · have h1 := a_k ha; have h2 := a_w ha; have h3 := a_x ha; have h4 := iand_7 (x := a) (by omega)
    by_cases hw : a / 64 % 4 < g.nW
    · have hk : a / 256 = 0 ∨ a / 256 = 1 ∨ a / 256 = 2 ∨ a / 256 = 3 ∨ a / 256 = 4 := by omega
      rcases hk with hk | hk | hk | hk | hk
      · by_cases q : a / 8 % 8 < 2 <;> by_cases q2 : a % 8 = 0 <;> simp (disch := omega) only [r31_0, r31_1, r31_4, r31_5, r31_8, r31_11, r31_12, r31_14, r31_15, r31_16, r31_17, r31_18, r31_21, r31_24, r31_25, r31_26, r31_27, r31_29, r31_30, r31_31, r31_32, r31_33, r31_34, r31_36, r31_37, r31_38, r31_39, r31_41, r31_42, r31_44, r31_45, r31_48, r31_49, r31_50, r31_53, r31_54, r31_55, r31_58, r31_60, r31_63, r31_64, r31_67, r31_68, r31_69, r31_70, r31_71, r31_74, r31_77, r31_78, r31_79, r31_80, r31_81, r31_84, r31_86, r31_87, r31_90, r31_91, r31_94, r31_95, r31_96, r31_97, r31_98, r31_101, r31_103, r31_106, r31_107, r31_110, r31_111, r31_114, r31_116, r31_117, r31_120, r31_123, r31_124, r31_127, r31_128, ↓if_pos, ↓if_neg, h1, h2, h3, h4, hk] <;> simp [such, ha, hw, q, q2]
      · by_cases q : a / 8 % 8 < g.nB <;> by_cases q2 : a % 8 < 2 <;> simp (disch := omega) only [r31_0, r31_1, r31_4, r31_5, r31_8, r31_11, r31_12, r31_14, r31_15, r31_16, r31_17, r31_18, r31_21, r31_24, r31_25, r31_26, r31_27, r31_29, r31_30, r31_31, r31_32, r31_33, r31_34, r31_36, r31_37, r31_38, r31_39, r31_41, r31_42, r31_44, r31_45, r31_48, r31_49, r31_50, r31_53, r31_54, r31_55, r31_58, r31_60, r31_63, r31_64, r31_67, r31_68, r31_69, r31_70, r31_71, r31_74, r31_77, r31_78, r31_79, r31_80, r31_81, r31_84, r31_86, r31_87, r31_90, r31_91, r31_94, r31_95, r31_96, r31_97, r31_98, r31_101, r31_103, r31_106, r31_107, r31_110, r31_111, r31_114, r31_116, r31_117, r31_120, r31_123, r31_124, r31_127, r31_128, ↓if_pos, ↓if_neg, h1, h2, h3, h4, hk] <;> simp [such, ha, hw, q, q2]
      · by_cases q : a / 8 % 8 < g.nB <;> by_cases q2 : a % 8 = 0 <;> simp (disch := omega) only [r31_0, r31_1, r31_4, r31_5, r31_8, r31_11, r31_12, r31_14, r31_15, r31_16, r31_17, r31_18, r31_21, r31_24, r31_25, r31_26, r31_27, r31_29, r31_30, r31_31, r31_32, r31_33, r31_34, r31_36, r31_37, r31_38, r31_39, r31_41, r31_42, r31_44, r31_45, r31_48, r31_49, r31_50, r31_53, r31_54, r31_55, r31_58, r31_60, r31_63, r31_64, r31_67, r31_68, r31_69, r31_70, r31_71, r31_74, r31_77, r31_78, r31_79, r31_80, r31_81, r31_84, r31_86, r31_87, r31_90, r31_91, r31_94, r31_95, r31_96, r31_97, r31_98, r31_101, r31_103, r31_106, r31_107, r31_110, r31_111, r31_114, r31_116, r31_117, r31_120, r31_123, r31_124, r31_127, r31_128, ↓if_pos, ↓if_neg, h1, h2, h3, h4, hk] <;> simp [such, ha, hw, q, q2]
      · by_cases q : a / 8 % 8 < g.nB <;> by_cases q2 : a % 8 < g.nW <;> simp (disch := omega) only [r31_0, r31_1, r31_4, r31_5, r31_8, r31_11, r31_12, r31_14, r31_15, r31_16, r31_17, r31_18, r31_21, r31_24, r31_25, r31_26, r31_27, r31_29, r31_30, r31_31, r31_32, r31_33, r31_34, r31_36, r31_37, r31_38, r31_39, r31_41, r31_42, r31_44, r31_45, r31_48, r31_49, r31_50, r31_53, r31_54, r31_55, r31_58, r31_60, r31_63, r31_64, r31_67, r31_68, r31_69, r31_70, r31_71, r31_74, r31_77, r31_78, r31_79, r31_80, r31_81, r31_84, r31_86, r31_87, r31_90, r31_91, r31_94, r31_95, r31_96, r31_97, r31_98, r31_101, r31_103, r31_106, r31_107, r31_110, r31_111, r31_114, r31_116, r31_117, r31_120, r31_123, r31_124, r31_127, r31_128, ↓if_pos, ↓if_neg, h1, h2, h3, h4, hk] <;> simp [such, ha, hw, q, q2]
      · by_cases q : a / 8 % 8 < 2 <;> by_cases q2 : a % 8 = 0 <;> simp (disch := omega) only [r31_0, r31_1, r31_4, r31_5, r31_8, r31_11, r31_12, r31_14, r31_15, r31_16, r31_17, r31_18, r31_21, r31_24, r31_25, r31_26, r31_27, r31_29, r31_30, r31_31, r31_32, r31_33, r31_34, r31_36, r31_37, r31_38, r31_39, r31_41, r31_42, r31_44, r31_45, r31_48, r31_49, r31_50, r31_53, r31_54, r31_55, r31_58, r31_60, r31_63, r31_64, r31_67, r31_68, r31_69, r31_70, r31_71, r31_74, r31_77, r31_78, r31_79, r31_80, r31_81, r31_84, r31_86, r31_87, r31_90, r31_91, r31_94, r31_95, r31_96, r31_97, r31_98, r31_101, r31_103, r31_106, r31_107, r31_110, r31_111, r31_114, r31_116, r31_117, r31_120, r31_123, r31_124, r31_127, r31_128, ↓if_pos, ↓if_neg, h1, h2, h3, h4, hk] <;> simp [such, ha, hw, q, q2]
    · rw [if_neg (fun q => hw q.2.1)]
      simp (disch := omega) only [r31_0, r31_1, r31_4, r31_5, r31_8, r31_11, r31_12, r31_14, r31_15, r31_16, r31_17, r31_18, r31_21, r31_24, r31_25, r31_26, r31_27, r31_29, r31_30, r31_31, r31_32, r31_33, r31_34, r31_36, r31_37, r31_38, r31_39, r31_41, r31_42, r31_44, r31_45, r31_48, r31_49, r31_50, r31_53, r31_54, r31_55, r31_58, r31_60, r31_63, r31_64, r31_67, r31_68, r31_69, r31_70, r31_71, r31_74, r31_77, r31_78, r31_79, r31_80, r31_81, r31_84, r31_86, r31_87, r31_90, r31_91, r31_94, r31_95, r31_96, r31_97, r31_98, r31_101, r31_103, r31_106, r31_107, r31_110, r31_111, r31_114, r31_116, r31_117, r31_120, r31_123, r31_124, r31_127, r31_128, ↓if_pos, ↓if_neg, h1, h2, h3, h4]
  · rw [if_neg (fun q => ha q.1)]
    by_cases h0 : a < 0 <;> simp (disch := omega) only [r31_0, r31_1, r31_4, r31_5, r31_8, r31_11, r31_12, r31_14, r31_15, r31_16, r31_17, r31_18, r31_21, r31_24, r31_25, r31_26, r31_27, r31_29, r31_30, r31_31, r31_32, r31_33, r31_34, r31_36, r31_37, r31_38, r31_39, r31_41, r31_42, r31_44, r31_45, r31_48, r31_49, r31_50, r31_53, r31_54, r31_55, r31_58, r31_60, r31_63, r31_64, r31_67, r31_68, r31_69, r31_70, r31_71, r31_74, r31_77, r31_78, r31_79, r31_80, r31_81, r31_84, r31_86, r31_87, r31_90, r31_91, r31_94, r31_95, r31_96, r31_97, r31_98, r31_101, r31_103, r31_106, r31_107, r31_110, r31_111, r31_114, r31_116, r31_117, r31_120, r31_123, r31_124, r31_127, r31_128, ↓if_pos, ↓if_neg]
theorem x_walked (hA : At 2 I g) (hg : WG g) (hc : 0 ≤ c ∧ c < 131072) (hw : 0 ≤ w ∧ w < 3) : call (d + 3) 33 [vR 2, vI c, vI w, vI x, vI ((gndN g ||| brdN g c : Nat) : Int)] I = some (some (vI (if firm g c (wAt c w + stp x) then setW c w (wAt c w + stp x) else -2)), I) := by
  rw [en33]
  have h7 := hg.last7; have hq := wAt_b c w
  by_cases hx : x = 0
  · have hs := stp_0 hx
    by_cases h : firm g c (wAt c w + -1)
    · have hr := h.1
      simp (disch := omega) only [r33_0, r33_1, r33_2, r33_3, r33_6, r33_7, r33_10, r33_11, r33_14, r33_15, r33_16, r33_18, r33_19, r33_21, r33_23, r33_26, r33_29, r33_30, r33_31, r33_32, r33_34, r33_37, r33_40, r33_42, ↓if_pos, ↓if_neg, hs, x_walkerAt, iadd_eq, x_isInF hA hg, x_withWalker hc, Option.bind_some, pushR_s, if_pos h]
    · simp (disch := omega) only [r33_0, r33_1, r33_2, r33_3, r33_6, r33_7, r33_10, r33_11, r33_14, r33_15, r33_16, r33_18, r33_19, r33_21, r33_23, r33_26, r33_29, r33_30, r33_31, r33_32, r33_34, r33_37, r33_40, r33_42, ↓if_pos, ↓if_neg, hs, x_walkerAt, iadd_eq, x_isInF hA hg, x_withWalker hc, Option.bind_some, pushR_s, if_neg h]
  · have hs := stp_1 hx
    by_cases h : firm g c (wAt c w + 1)
    · have hr := h.1
      simp (disch := omega) only [r33_0, r33_1, r33_2, r33_3, r33_6, r33_7, r33_10, r33_11, r33_14, r33_15, r33_16, r33_18, r33_19, r33_21, r33_23, r33_26, r33_29, r33_30, r33_31, r33_32, r33_34, r33_37, r33_40, r33_42, ↓if_pos, ↓if_neg, hs, x_walkerAt, iadd_eq, x_isInF hA hg, x_withWalker hc, Option.bind_some, pushR_s, if_pos h]
    · simp (disch := omega) only [r33_0, r33_1, r33_2, r33_3, r33_6, r33_7, r33_10, r33_11, r33_14, r33_15, r33_16, r33_18, r33_19, r33_21, r33_23, r33_26, r33_29, r33_30, r33_31, r33_32, r33_34, r33_37, r33_40, r33_42, ↓if_pos, ↓if_neg, hs, x_walkerAt, iadd_eq, x_isInF hA hg, x_withWalker hc, Option.bind_some, pushR_s, if_neg h]
theorem x_leapt (hA : At 2 I g) (hg : WG g) (hc : 0 ≤ c ∧ c < 131072) (hw : 0 ≤ w ∧ w < 3) : call (d + 3) 34 [vR 2, vI c, vI w, vI x, vI ((gndN g ||| brdN g c : Nat) : Int)] I = some (some (vI (if leapOK g c w x then setW c w (wAt c w + stp x + stp x) else -2)), I) := by
  rw [en34]
  have h7 := hg.last7; have hq := wAt_b c w
  have main : ∀ s : Int, (s = -1 ∨ s = 1) → stp x = s → ((x = 0 ∧ s = -1) ∨ (x ≠ 0 ∧ s = 1)) → runs (call (d + 2)) 34 0 [vR 2, vI c, vI w, vI x, vI ((gndN g ||| brdN g c : Nat) : Int), vR 0, vR 0, vR 0] [] I = some (some (vI (if leapOK g c w x then setW c w (wAt c w + stp x + stp x) else -2)), I) := by
    intro s hs he hx
    by_cases h : firm g c (wAt c w + s)
    · have hl : ¬ leapOK g c w x := fun q => (leap_def.mp q).1 (he.symm ▸ h)
      rw [if_neg hl]
      rcases hx with ⟨hx, rfl⟩ | ⟨hx, rfl⟩ <;> simp (disch := omega) only [r34_0, r34_1, r34_4, r34_5, r34_8, r34_9, r34_11, r34_12, r34_13, r34_14, r34_17, r34_19, r34_20, r34_22, r34_24, r34_26, r34_27, r34_29, r34_30, r34_32, r34_34, r34_37, r34_40, r34_41, r34_43, r34_45, r34_48, r34_51, r34_52, r34_53, r34_54, r34_56, r34_59, r34_62, r34_64, ↓if_pos, ↓if_neg, x_walkerAt, iadd_eq, x_isInF hA hg, x_withWalker hc, Option.bind_some, pushR_s, if_pos h]
    · by_cases h2 : firm g c (wAt c w + s + s)
      · have hl : leapOK g c w x := leap_def.mpr ⟨he.symm ▸ h, he.symm ▸ h2⟩
        have hr := h2.1
        rw [if_pos hl, he]
        rcases hx with ⟨hx, rfl⟩ | ⟨hx, rfl⟩ <;> simp (disch := omega) only [r34_0, r34_1, r34_4, r34_5, r34_8, r34_9, r34_11, r34_12, r34_13, r34_14, r34_17, r34_19, r34_20, r34_22, r34_24, r34_26, r34_27, r34_29, r34_30, r34_32, r34_34, r34_37, r34_40, r34_41, r34_43, r34_45, r34_48, r34_51, r34_52, r34_53, r34_54, r34_56, r34_59, r34_62, r34_64, ↓if_pos, ↓if_neg, x_walkerAt, iadd_eq, x_isInF hA hg, x_withWalker hc, Option.bind_some, pushR_s, if_neg h, if_pos h2]
      · have hl : ¬ leapOK g c w x := fun q => h2 (he ▸ (leap_def.mp q).2)
        rw [if_neg hl]
        rcases hx with ⟨hx, rfl⟩ | ⟨hx, rfl⟩ <;> simp (disch := omega) only [r34_0, r34_1, r34_4, r34_5, r34_8, r34_9, r34_11, r34_12, r34_13, r34_14, r34_17, r34_19, r34_20, r34_22, r34_24, r34_26, r34_27, r34_29, r34_30, r34_32, r34_34, r34_37, r34_40, r34_41, r34_43, r34_45, r34_48, r34_51, r34_52, r34_53, r34_54, r34_56, r34_59, r34_62, r34_64, ↓if_pos, ↓if_neg, x_walkerAt, iadd_eq, x_isInF hA hg, x_withWalker hc, Option.bind_some, pushR_s, if_neg h, if_neg h2]
  by_cases hx : x = 0
  · exact main (-1) (Or.inl rfl) (stp_0 hx) (Or.inl ⟨hx, rfl⟩)
  · exact main 1 (Or.inr rfl) (stp_1 hx) (Or.inr ⟨hx, rfl⟩)
theorem wet_iff (hg : WG g) {s : Int} (hs : 1 ≤ s ∧ s ≤ 4) (hp : 0 ≤ p ∧ p ≤ 8) : iand (mskN s p : Int) ((gndN g ||| brdN g c : Nat) : Int) = 0 ↔ wet g c s p := by
  have hm := mskN_lt (s := s) (p := p) (by omega) hp
  rw [and_0 (by omega), wet_def]
  have hb : ∀ q : Int, 0 ≤ q → ((mskN s p).testBit q.toNat = true ↔ p ≤ q ∧ q < p + s) := fun q hq => by
    rw [mskN_bit, decide_eq_true_eq]; omega
  constructor
  · intro h
    have h1 : ∀ q : Int, p ≤ q → q < p + s → ¬ hold g c q := fun q h1 h2 h3 =>
      h q.toNat ((hb q (by omega)).mpr ⟨h1, h2⟩) ((frm_bit hg (by omega)).mpr h3)
    exact ⟨⟨fun _ => h1 _ (by omega) (by omega), fun _ => h1 _ (by omega) (by omega)⟩, fun _ => h1 _ (by omega) (by omega), fun _ => h1 _ (by omega) (by omega)⟩
  · rintro ⟨⟨w0, w1⟩, w2, w3⟩ i h1 h2
    have h3 := (hb (i : Int) (by omega)).mp (by simpa using h1)
    have h4 := (frm_bit (c := c) hg (p := (i : Int)) (by omega)).mp (by simpa using h2)
    have h5 : (i : Int) = p ∨ (i : Int) = p + 1 ∨ (i : Int) = p + 2 ∨ (i : Int) = p + 3 := by omega
    rcases h5 with h5 | h5 | h5 | h5 <;> rw [h5] at h4
    · exact w0 (by omega) h4
    · exact w1 (by omega) h4
    · exact w2 (by omega) h4
    · exact w3 (by omega) h4
theorem x_laid (hA : At 2 I g) (hg : WG g) (hc : 0 ≤ c ∧ c < 131072) (hw : 0 ≤ w ∧ w < 3) (h0 : 0 ≤ b) (h1 : b < g.nB) : call (d + 2) 35 [vR 2, vI c, vI w, vI b, vI y, vI ((gndN g ||| brdN g c : Nat) : Int)] I = some (some (vI (if layOK g c w b y then setB c b (least g c w b y) else -2)), I) := by
  rw [en35]
  have h7 := hg.last7; have hq := wAt_b c w; have h4 := hg.sp14 h0 h1; have e := hA.last; have e2 := hA.sp b; have hn := hg.nB2
  have main : ∀ l : Int, least g c w b y = l → ((y = 0 ∧ l = wAt c w - g.sp b) ∨ (y ≠ 0 ∧ l = wAt c w + 1)) → runs (call (d + 1)) 35 0 [vR 2, vI c, vI w, vI b, vI y, vI ((gndN g ||| brdN g c : Nat) : Int), vR 0, vR 0, vR 0] [] I = some (some (vI (if layOK g c w b y then setB c b (least g c w b y) else -2)), I) := by
    intro l hl hy
    by_cases hr : 0 ≤ l ∧ l + g.sp b - 1 ≤ g.last
    · have hb := wet_iff (c := c) hg (s := g.sp b) (p := l) h4 (by omega)
      by_cases hwt : wet g c (g.sp b) l
      · have hz := hb.mpr hwt
        rw [if_pos (by unfold layOK; rw [hl]; exact ⟨hr, hwt⟩), hl]
        rcases hy with ⟨hy, rfl⟩ | ⟨hy, rfl⟩ <;> simp (disch := omega) only [r35_0, r35_1, r35_2, r35_3, r35_6, r35_8, r35_10, r35_13, r35_15, r35_16, r35_19, r35_20, r35_21, r35_22, r35_25, r35_27, r35_28, r35_29, r35_31, r35_33, r35_36, r35_38, r35_39, r35_42, r35_43, r35_44, r35_45, r35_46, r35_47, r35_48, r35_51, r35_54, r35_56, r35_57, r35_58, r35_59, r35_62, r35_63, r35_64, r35_66, r35_69, r35_71, r35_72, r35_75, r35_76, r35_79, r35_80, r35_82, r35_84, r35_87, r35_88, r35_89, r35_90, r35_92, r35_95, r35_98, r35_100, ↓if_pos, ↓if_neg, e2, x_walkerAt, iadd_eq, isub_eq, x_maskOf, hz, x_withBoard hc, Option.bind_some, pushR_s]
      · have hz := fun q => hwt (hb.mp q)
        rw [if_neg (by unfold layOK; rw [hl]; exact fun q => hwt q.2)]
        rcases hy with ⟨hy, rfl⟩ | ⟨hy, rfl⟩ <;> simp (disch := omega) only [r35_0, r35_1, r35_2, r35_3, r35_6, r35_8, r35_10, r35_13, r35_15, r35_16, r35_19, r35_20, r35_21, r35_22, r35_25, r35_27, r35_28, r35_29, r35_31, r35_33, r35_36, r35_38, r35_39, r35_42, r35_43, r35_44, r35_45, r35_46, r35_47, r35_48, r35_51, r35_54, r35_56, r35_57, r35_58, r35_59, r35_62, r35_63, r35_64, r35_66, r35_69, r35_71, r35_72, r35_75, r35_76, r35_79, r35_80, r35_82, r35_84, r35_87, r35_88, r35_89, r35_90, r35_92, r35_95, r35_98, r35_100, ↓if_pos, ↓if_neg, e2, x_walkerAt, iadd_eq, isub_eq, x_maskOf, if_neg hz, Option.bind_some, pushR_s]
    · rw [if_neg (by unfold layOK; rw [hl]; exact fun q => hr q.1)]
      by_cases h00 : l < 0
      · rcases hy with ⟨hy, rfl⟩ | ⟨hy, rfl⟩ <;> simp (disch := omega) only [r35_0, r35_1, r35_2, r35_3, r35_6, r35_8, r35_10, r35_13, r35_15, r35_16, r35_19, r35_20, r35_21, r35_22, r35_25, r35_27, r35_28, r35_29, r35_31, r35_33, r35_36, r35_38, r35_39, r35_42, r35_43, r35_44, r35_45, r35_46, r35_47, r35_48, r35_51, r35_54, r35_56, r35_57, r35_58, r35_59, r35_62, r35_63, r35_64, r35_66, r35_69, r35_71, r35_72, r35_75, r35_76, r35_79, r35_80, r35_82, r35_84, r35_87, r35_88, r35_89, r35_90, r35_92, r35_95, r35_98, r35_100, ↓if_pos, ↓if_neg, e2, x_walkerAt, iadd_eq, isub_eq, Option.bind_some, pushR_s]
      · rcases hy with ⟨hy, rfl⟩ | ⟨hy, rfl⟩ <;> simp (disch := omega) only [r35_0, r35_1, r35_2, r35_3, r35_6, r35_8, r35_10, r35_13, r35_15, r35_16, r35_19, r35_20, r35_21, r35_22, r35_25, r35_27, r35_28, r35_29, r35_31, r35_33, r35_36, r35_38, r35_39, r35_42, r35_43, r35_44, r35_45, r35_46, r35_47, r35_48, r35_51, r35_54, r35_56, r35_57, r35_58, r35_59, r35_62, r35_63, r35_64, r35_66, r35_69, r35_71, r35_72, r35_75, r35_76, r35_79, r35_80, r35_82, r35_84, r35_87, r35_88, r35_89, r35_90, r35_92, r35_95, r35_98, r35_100, ↓if_pos, ↓if_neg, e2, x_walkerAt, iadd_eq, isub_eq, Option.bind_some, pushR_s]
  by_cases hy : y = 0
  · exact main _ (if_pos hy) (Or.inl ⟨hy, rfl⟩)
  · exact main _ (if_neg hy) (Or.inr ⟨hy, rfl⟩)
end
