/-! image and from, in both. -/
def memCB (a b : Nat) (I : MM) : MM := mcpy (mcpy (mcpy (mcpy (mcpy (mcpy (mcpy (mset (mset (mset (mset (mset I a 0 (I b 0)) a 1 (I b 1)) a 2 (I b 2)) a 3 (I b 3)) a 4 (I b 4)) (b + 1) 0 (a + 1) 0 3) (b + 2) 0 (a + 2) 0 3) (b + 3) 0 (a + 3) 0 2) (b + 4) 0 (a + 4) 0 2) (b + 5) 0 (a + 5) 0 2) (b + 6) 0 (a + 6) 0 2) (b + 7) 0 (a + 7) 0 2
def memCR (a b : Nat) (I : MM) : MM := mset (mset (mcpy I (b + 1) 0 (a + 1) 0 40) a 1 (I b 1)) a 6 0
def memCP (a b : Nat) (I : MM) : MM := mset (mcpy I (b + 1) 0 (a + 1) 0 8) a 1 (I b 1)
theorem memCB_o {a b k : Nat} {I : MM} (h : k < a ∨ a + 8 ≤ k) (i : Int) : memCB a b I k i = I k i := by
  simp (disch := omega) only [memCB, mcpy_at, mset_at, ↓if_neg]
theorem memCR_o {a b k : Nat} {I : MM} (h : k ≠ a ∧ k ≠ a + 1) (i : Int) : memCR a b I k i = I k i := by
  simp (disch := omega) only [memCR, mcpy_at, mset_at, ↓if_neg]
theorem memCP_o {a b k : Nat} {I : MM} (h : k ≠ a ∧ k ≠ a + 1) (i : Int) : memCP a b I k i = I k i := by
  simp (disch := omega) only [memCP, mcpy_at, mset_at, ↓if_neg]
theorem memCB_BX {a b : Nat} {I : MM} {g : G} {c : Int} (hd : a + 8 ≤ b ∨ b + 8 ≤ a) (h : BX b I g c) : BX a (memCB a b I) g c := by
  refine ⟨fun j i hj hr => ?_, ?_⟩
  · rw [← h.1 j i hj hr]
    have e : (0 : Int) + (i - 0) = i := by omega
    have hj8 : j = 0 ∨ j = 1 ∨ j = 2 ∨ j = 3 ∨ j = 4 ∨ j = 5 ∨ j = 6 ∨ j = 7 := by omega
    rcases hj8 with rfl | rfl | rfl | rfl | rfl | rfl | rfl | rfl
    · have hi : 0 ≤ i ∧ i < 4 := hr
      have hi4 : i = 0 ∨ i = 1 ∨ i = 2 ∨ i = 3 := by omega
      rcases hi4 with rfl | rfl | rfl | rfl <;> simp (disch := omega) only [memCB, mcpy_at, mset_at, ↓if_pos, ↓if_neg, Nat.add_zero]
    · have hi : 0 ≤ i ∧ i < 3 := hr
      simp (disch := omega) only [memCB, mcpy_at, mset_at, ↓if_pos, ↓if_neg, e]
    · have hi : 0 ≤ i ∧ i < 3 := hr
      simp (disch := omega) only [memCB, mcpy_at, mset_at, ↓if_pos, ↓if_neg, e]
    all_goals have hi : 0 ≤ i ∧ i < 2 := hr
    all_goals simp (disch := omega) only [memCB, mcpy_at, mset_at, ↓if_pos, ↓if_neg, e]
  · rw [← h.2]
    simp (disch := omega) only [memCB, mcpy_at, mset_at, ↓if_pos, ↓if_neg]
theorem memCR_RX {a b : Nat} {I : MM} {r : Int → Int} (hr : r (-1) ≤ 40) (h : RX b I r) : RX a (memCR a b I) r := by
  refine ⟨?_, fun i i0 i1 => ?_⟩
  · rw [← h.1]; simp (disch := omega) only [memCR, mcpy_at, mset_at, ↓if_pos, ↓if_neg]
  · rw [← h.2 i i0 i1]
    have e : (0 : Int) + (i - 0) = i := by omega
    simp (disch := omega) only [memCR, mcpy_at, mset_at, ↓if_pos, ↓if_neg, e]
theorem memCP_PX {a b : Nat} {I : MM} {r : Int → Int} (hr : r (-1) ≤ 8) (h : PX b I r) : PX a (memCP a b I) r := by
  refine ⟨?_, fun i i0 i1 => ?_⟩
  · rw [← h.1]; simp (disch := omega) only [memCP, mcpy_at, mset_at, ↓if_pos, ↓if_neg]
  · rw [← h.2 i i0 i1]
    have e : (0 : Int) + (i - 0) = i := by omega
    simp (disch := omega) only [memCP, mcpy_at, mset_at, ↓if_pos, ↓if_neg, e]
def putI (s : ST) (i : Int) : ST := if i = 0 then (fun a b => if a = 1 then s 0 b else if a = 4 then (if b = 6 then (fun _ => 1) else s 3 b) else s a b) else (fun a b => if a = 2 then s 0 b else if a = 5 then (if b = 6 then (fun _ => 1) else s 3 b) else s a b)
def takeI (s : ST) (i : Int) : ST := if i = 0 then (fun a b => if a = 0 then s 1 b else if a = 3 ∧ (b = 0 ∨ b = 2 ∨ b = 3) then s 4 b else s a b) else (fun a b => if a = 0 then s 2 b else if a = 3 ∧ (b = 0 ∨ b = 2 ∨ b = 3) then s 5 b else s a b)
def isK (s : ST) (i : Int) : Int := if i = 0 then s 4 6 0 else s 5 6 0
abbrev kImg (i : Int) : Prop := 0 ≤ i ∧ i ≤ 1
def aImage (i : Int) : Int := if kImg i then 1 else -2
def sImage (s : ST) (i : Int) : ST := if kImg i then putI s i else bump s 0
def aFrom (s : ST) (i : Int) : Int := if kImg i then (if isK s i = 0 then -3 else 1) else -2
def sFrom (s : ST) (i : Int) : ST := if kImg i then (if isK s i = 0 then bump s 1 else takeI s i) else bump s 0
theorem putI_0 (s : ST) : putI s 0 = fun a b => if a = 1 then s 0 b else if a = 4 then (if b = 6 then (fun _ => 1) else s 3 b) else s a b := if_pos rfl
theorem putI_1 (s : ST) : putI s 1 = fun a b => if a = 2 then s 0 b else if a = 5 then (if b = 6 then (fun _ => 1) else s 3 b) else s a b := if_neg (by decide)
theorem takeI_0 (s : ST) : takeI s 0 = fun a b => if a = 0 then s 1 b else if a = 3 ∧ (b = 0 ∨ b = 2 ∨ b = 3) then s 4 b else s a b := if_pos rfl
theorem takeI_1 (s : ST) : takeI s 1 = fun a b => if a = 0 then s 2 b else if a = 3 ∧ (b = 0 ∨ b = 2 ∨ b = 3) then s 5 b else s a b := if_neg (by decide)
theorem OK.image {s : ST} {i : Int} (h : OK s) : OK (sImage s i) := by
  obtain ⟨h1, h2, h3, h4, h5, h6⟩ := h
  unfold sImage; split
  · rename_i hk
    have : i = 0 ∨ i = 1 := by omega
    rcases this with rfl | rfl
    · rw [putI_0]; exact ⟨h1, h2, h3, h4, ⟨Or.inr rfl, fun _ => h1⟩, h6⟩
    · rw [putI_1]; exact ⟨h1, h2, h3, h4, h5, ⟨Or.inr rfl, fun _ => h1⟩⟩
  · exact ⟨h1, h2, h3, h4, h5, h6⟩
theorem OK.from {s : ST} {i : Int} (h : OK s) : OK (sFrom s i) := by
  obtain ⟨h1, h2, h3, h4, h5, h6⟩ := h
  unfold sFrom; split
  · rename_i hk
    split
    · exact ⟨h1, h2, h3, h4, h5, h6⟩
    · rename_i hn
      have : i = 0 ∨ i = 1 := by omega
      rcases this with rfl | rfl
      · rw [takeI_0]
        have hk2 : s 4 6 0 = 1 := h5.1.resolve_left (fun q => hn ((if_pos rfl).trans q))
        exact ⟨h5.2 hk2, h2, h3, h4, h5, h6⟩
      · rw [takeI_1]
        have hk2 : s 5 6 0 = 1 := h6.1.resolve_left (fun q => hn ((if_neg (by decide)).trans q))
        exact ⟨h6.2 hk2, h2, h3, h4, h5, h6⟩
  · exact ⟨h1, h2, h3, h4, h5, h6⟩
section
variable {d : Nat} {I J K : MM} {s : ST} {g : G} {a c w x y b p v i m f : Int}
theorem x_copyB_41_2 : call (d + 1) 1 [vR 41, vR 2] I = some (none, memCB 41 2 I) := by
  rw [en1c]
  simp (disch := omega) only [r1_0a, r1_1c, r1_2c, r1_5a, r1_8a, r1_9c, r1_10c, r1_13a, r1_16a, r1_17c, r1_18c, r1_21a, r1_24a, r1_25c, r1_26c, r1_29a, r1_32a, r1_33c, r1_34c, r1_37a, r1_40c, r1_41c, r1_44c, r1_45c, r1_46c, r1_49c, r1_50c, r1_51c, r1_54c, r1_55c, r1_58c, r1_59c, r1_60c, r1_63c, r1_64c, r1_65c, r1_68c, r1_69c, r1_72c, r1_73c, r1_74c, r1_77c, r1_78c, r1_79c, r1_82c, r1_83c, r1_86c, r1_87c, r1_88c, r1_91c, r1_92c, r1_93c, r1_96c, r1_97c, r1_100c, r1_101c, r1_102c, r1_105c, r1_106c, r1_107c, r1_110c, r1_111c, r1_114c, r1_115c, r1_116c, r1_119c, r1_120c, r1_121c, r1_124c, r1_125c, r1_128c, r1_129c, r1_130c, r1_133c, r1_134c, r1_135c, r1_138, ↓if_pos, ↓if_neg, mset_at]
  rfl
theorem x_copyB_56_2 : call (d + 1) 1 [vR 56, vR 2] I = some (none, memCB 56 2 I) := by
  rw [en1d]
  simp (disch := omega) only [r1_0b, r1_1d, r1_2d, r1_5b, r1_8b, r1_9d, r1_10d, r1_13b, r1_16b, r1_17d, r1_18d, r1_21b, r1_24b, r1_25d, r1_26d, r1_29b, r1_32b, r1_33d, r1_34d, r1_37b, r1_40c, r1_41c, r1_44c, r1_45d, r1_46d, r1_49d, r1_50d, r1_51d, r1_54c, r1_55c, r1_58c, r1_59d, r1_60d, r1_63d, r1_64d, r1_65d, r1_68c, r1_69c, r1_72c, r1_73d, r1_74d, r1_77d, r1_78d, r1_79d, r1_82c, r1_83c, r1_86c, r1_87d, r1_88d, r1_91d, r1_92d, r1_93d, r1_96c, r1_97c, r1_100c, r1_101d, r1_102d, r1_105d, r1_106d, r1_107d, r1_110c, r1_111c, r1_114c, r1_115d, r1_116d, r1_119d, r1_120d, r1_121d, r1_124c, r1_125c, r1_128c, r1_129d, r1_130d, r1_133d, r1_134d, r1_135d, r1_138, ↓if_pos, ↓if_neg, mset_at]
  rfl
theorem x_copyB_2_41 : call (d + 1) 1 [vR 2, vR 41] I = some (none, memCB 2 41 I) := by
  rw [en1a]
  simp (disch := omega) only [r1_0, r1_1a, r1_2a, r1_5, r1_8, r1_9a, r1_10a, r1_13, r1_16, r1_17a, r1_18a, r1_21, r1_24, r1_25a, r1_26a, r1_29, r1_32, r1_33a, r1_34a, r1_37, r1_40a, r1_41a, r1_44a, r1_45a, r1_46a, r1_49a, r1_50a, r1_51a, r1_54a, r1_55a, r1_58a, r1_59a, r1_60a, r1_63a, r1_64a, r1_65a, r1_68a, r1_69a, r1_72a, r1_73a, r1_74a, r1_77a, r1_78a, r1_79a, r1_82a, r1_83a, r1_86a, r1_87a, r1_88a, r1_91a, r1_92a, r1_93a, r1_96a, r1_97a, r1_100a, r1_101a, r1_102a, r1_105a, r1_106a, r1_107a, r1_110a, r1_111a, r1_114a, r1_115a, r1_116a, r1_119a, r1_120a, r1_121a, r1_124a, r1_125a, r1_128a, r1_129a, r1_130a, r1_133a, r1_134a, r1_135a, r1_138, ↓if_pos, ↓if_neg, mset_at]
  rfl
theorem x_copyB_2_56 : call (d + 1) 1 [vR 2, vR 56] I = some (none, memCB 2 56 I) := by
  rw [en1b]
  simp (disch := omega) only [r1_0, r1_1b, r1_2b, r1_5, r1_8, r1_9b, r1_10b, r1_13, r1_16, r1_17b, r1_18b, r1_21, r1_24, r1_25b, r1_26b, r1_29, r1_32, r1_33b, r1_34b, r1_37, r1_40b, r1_41b, r1_44b, r1_45b, r1_46b, r1_49b, r1_50b, r1_51b, r1_54b, r1_55b, r1_58b, r1_59b, r1_60b, r1_63b, r1_64b, r1_65b, r1_68b, r1_69b, r1_72b, r1_73b, r1_74b, r1_77b, r1_78b, r1_79b, r1_82b, r1_83b, r1_86b, r1_87b, r1_88b, r1_91b, r1_92b, r1_93b, r1_96b, r1_97b, r1_100b, r1_101b, r1_102b, r1_105b, r1_106b, r1_107b, r1_110b, r1_111b, r1_114b, r1_115b, r1_116b, r1_119b, r1_120b, r1_121b, r1_124b, r1_125b, r1_128b, r1_129b, r1_130b, r1_133b, r1_134b, r1_135b, r1_138, ↓if_pos, ↓if_neg, mset_at]
  rfl
theorem x_copyR_49_21 : call (d + 1) 61 [vR 49, vR 21] I = some (none, memCR 49 21 I) := by
  rw [en61b]
  simp (disch := omega) only [r61_0b, r61_1b, r61_4b, r61_5b, r61_6b, r61_9b, r61_10b, r61_12b, r61_15a, r61_16b, r61_17b, r61_20a, r61_23a, r61_24a, r61_25a, r61_28, ↓if_pos, ↓if_neg, mset_at, mcpy_at]
  rfl
theorem x_copyR_64_21 : call (d + 1) 61 [vR 64, vR 21] I = some (none, memCR 64 21 I) := by
  rw [en61c]
  simp (disch := omega) only [r61_0b, r61_1b, r61_4b, r61_5c, r61_6c, r61_9c, r61_10c, r61_12c, r61_15b, r61_16c, r61_17c, r61_20b, r61_23b, r61_24b, r61_25b, r61_28, ↓if_pos, ↓if_neg, mset_at, mcpy_at]
  rfl
theorem x_copyR_21_49 : call (d + 1) 61 [vR 21, vR 49] I = some (none, memCR 21 49 I) := by
  rw [en61]
  simp (disch := omega) only [r61_0, r61_1, r61_4, r61_5, r61_6, r61_9, r61_10, r61_12, r61_15, r61_16, r61_17, r61_20, r61_23, r61_24, r61_25, r61_28, ↓if_pos, ↓if_neg, mset_at, mcpy_at]
  rfl
theorem x_copyR_21_64 : call (d + 1) 61 [vR 21, vR 64] I = some (none, memCR 21 64 I) := by
  rw [en61a]
  simp (disch := omega) only [r61_0a, r61_1a, r61_4a, r61_5a, r61_6a, r61_9a, r61_10a, r61_12a, r61_15, r61_16a, r61_17a, r61_20, r61_23, r61_24, r61_25, r61_28, ↓if_pos, ↓if_neg, mset_at, mcpy_at]
  rfl
theorem x_copyP_53_25 : call (d + 1) 58 [vR 53, vR 25] I = some (none, memCP 53 25 I) := by
  rw [en58b]
  simp (disch := omega) only [r58_0b, r58_1b, r58_4b, r58_5b, r58_6b, r58_9b, r58_10b, r58_12b, r58_15a, r58_16b, r58_17b, r58_20a, r58_23, ↓if_pos, ↓if_neg, mset_at, mcpy_at]
  rfl
theorem x_copyP_68_25 : call (d + 1) 58 [vR 68, vR 25] I = some (none, memCP 68 25 I) := by
  rw [en58c]
  simp (disch := omega) only [r58_0b, r58_1b, r58_4b, r58_5c, r58_6c, r58_9c, r58_10c, r58_12c, r58_15b, r58_16c, r58_17c, r58_20b, r58_23, ↓if_pos, ↓if_neg, mset_at, mcpy_at]
  rfl
theorem x_copyP_25_53 : call (d + 1) 58 [vR 25, vR 53] I = some (none, memCP 25 53 I) := by
  rw [en58]
  simp (disch := omega) only [r58_0, r58_1, r58_4, r58_5, r58_6, r58_9, r58_10, r58_12, r58_15, r58_16, r58_17, r58_20, r58_23, ↓if_pos, ↓if_neg, mset_at, mcpy_at]
  rfl
theorem x_copyP_25_68 : call (d + 1) 58 [vR 25, vR 68] I = some (none, memCP 25 68 I) := by
  rw [en58a]
  simp (disch := omega) only [r58_0a, r58_1a, r58_4a, r58_5a, r58_6a, r58_9a, r58_10a, r58_12a, r58_15, r58_16a, r58_17a, r58_20, r58_23, ↓if_pos, ↓if_neg, mset_at, mcpy_at]
  rfl
theorem x_imageOf0 : call (d + 1) 141 [vR 1, vI 0] I = some (some (vR 40), I) := by
  rw [en141]
  simp (disch := omega) only [r141_0, r141_1, r141_4, r141_5, r141_8, r141_11, r141_12, r141_15, r141_15a, ↓if_pos, ↓if_neg]
theorem x_imageOf1 : call (d + 1) 141 [vR 1, vI 1] I = some (some (vR 55), I) := by
  rw [en141]
  simp (disch := omega) only [r141_0, r141_1, r141_4, r141_5, r141_8, r141_11, r141_12, r141_15, r141_15a, ↓if_pos, ↓if_neg]
def memIm0 (I : MM) : MM := mset (memCP 53 25 (memCR 49 21 (memCB 41 2 I))) 40 0 1
def memIm1 (I : MM) : MM := mset (memCP 68 25 (memCR 64 21 (memCB 56 2 I))) 55 0 1
theorem memIm0_o {k : Nat} (h : k < 40 ∨ 55 ≤ k) (i : Int) : memIm0 I k i = I k i := by
  rw [memIm0, mset_at, if_neg (by omega), memCP_o (by omega), memCR_o (by omega), memCB_o (by omega)]
theorem memIm1_o {k : Nat} (h : k < 55 ∨ 70 ≤ k) (i : Int) : memIm1 I k i = I k i := by
  rw [memIm1, mset_at, if_neg (by omega), memCP_o (by omega), memCR_o (by omega), memCB_o (by omega)]
theorem X_image (hX : XR I s) (hO : OK s) : XA (d + 2) 132 [vI i] [1, 40, 41, 42, 43, 44, 45, 46, 47, 48, 49, 50, 51, 52, 53, 54, 55, 56, 57, 58, 59, 60, 61, 62, 63, 64, 65, 66, 67, 68, 69] I (aImage i) (sImage s i) := by
  unfold aImage sImage
  by_cases h : kImg i
  · rw [if_pos h, if_pos h]
    have : i = 0 ∨ i = 1 := by omega
    rcases this with rfl | rfl
    · rw [putI_0]
      refine ⟨memIm0 I, ?_, ⟨hX.B.cong (fun a a1 a2 i => memIm0_o (by omega) i), hX.T.cong (memIm0_o (by omega) _) (memIm0_o (by omega)), hX.R.cong (memIm0_o (by omega) _) (memIm0_o (by omega)), hX.P.cong (memIm0_o (by omega) _) (memIm0_o (by omega)), hX.C.cong (fun i _ => memIm0_o (by omega) i), hX.F.cong (memIm0_o (by omega)) (memIm0_o (by omega)) (memIm0_o (by omega) _) (memIm0_o (by omega) _), ⟨by rw [memIm0, mset_at, if_pos ⟨rfl, rfl⟩]; rfl, fun _ => ⟨?_, ?_, ?_⟩⟩, hX.I1.cong (fun a a1 a2 i => memIm0_o (by omega) i), hX.K.cong (memIm0_o (by omega)) (memIm0_o (by omega))⟩, fun k hk i => memIm0_o (by simp at hk; omega) i⟩
      · rw [en132]
        simp (disch := omega) only [r132_0, r132_1, r132_4, r132_5, r132_6, r132_9, r132_10, r132_12, r132_14, r132_17, r132_18, r132_19, r132_20, r132_23, r132_23a, r132_24, r132_24a, r132_25, r132_25a, r132_28, r132_29, r132_32, r132_32a, r132_35, r132_35a, r132_36, r132_36a, r132_39, r132_40, r132_43, r132_43a, r132_46, r132_46a, r132_47, r132_47a, r132_50, r132_51, r132_54, r132_54a, r132_57, r132_57a, r132_58, r132_59, r132_59a, r132_62, r132_63, ↓if_pos, ↓if_neg, x_imageOf0, x_copyB_41_2, x_copyR_49_21, x_copyP_53_25, Option.bind_some, pushR_s, pushR_n]
        rfl
      · refine BX.cong (I := memCB 41 2 I) (fun k k1 k2 i => ?_) (memCB_BX (by omega) hX.B)
        rw [memIm0, mset_at, if_neg (by omega), memCP_o (by omega), memCR_o (by omega)]
      · refine RX.cong (I := memCR 49 21 I) ?_ (fun i => ?_) (memCR_RX hO.rsz.2 hX.R)
        · rw [memIm0, mset_at, if_neg (by omega), memCP_o (by omega)]
          simp (disch := omega) only [memCR, mcpy_at, mset_at, ↓if_pos, ↓if_neg, memCB_o]
        · rw [memIm0, mset_at, if_neg (by omega), memCP_o (by omega)]
          simp (disch := omega) only [memCR, mcpy_at, mset_at, ↓if_neg, memCB_o]
      · refine PX.cong (I := memCP 53 25 I) ?_ (fun i => ?_) (memCP_PX hO.psz.2 hX.P)
        · rw [memIm0, mset_at, if_neg (by omega)]
          simp (disch := omega) only [memCP, mcpy_at, mset_at, ↓if_pos, ↓if_neg, memCR_o, memCB_o]
        · rw [memIm0, mset_at, if_neg (by omega)]
          simp (disch := omega) only [memCP, mcpy_at, mset_at, ↓if_neg, memCR_o, memCB_o]
    · rw [putI_1]
      refine ⟨memIm1 I, ?_, ⟨hX.B.cong (fun a a1 a2 i => memIm1_o (by omega) i), hX.T.cong (memIm1_o (by omega) _) (memIm1_o (by omega)), hX.R.cong (memIm1_o (by omega) _) (memIm1_o (by omega)), hX.P.cong (memIm1_o (by omega) _) (memIm1_o (by omega)), hX.C.cong (fun i _ => memIm1_o (by omega) i), hX.F.cong (memIm1_o (by omega)) (memIm1_o (by omega)) (memIm1_o (by omega) _) (memIm1_o (by omega) _), hX.I0.cong (fun a a1 a2 i => memIm1_o (by omega) i), ⟨by rw [memIm1, mset_at, if_pos ⟨rfl, rfl⟩]; rfl, fun _ => ⟨?_, ?_, ?_⟩⟩, hX.K.cong (memIm1_o (by omega)) (memIm1_o (by omega))⟩, fun k hk i => memIm1_o (by simp at hk; omega) i⟩
      · rw [en132]
        simp (disch := omega) only [r132_0, r132_1, r132_4, r132_5, r132_6, r132_9, r132_10, r132_12, r132_14, r132_17, r132_18, r132_19, r132_20, r132_23, r132_23a, r132_24, r132_24a, r132_25, r132_25a, r132_28, r132_29, r132_32, r132_32a, r132_35, r132_35a, r132_36, r132_36a, r132_39, r132_40, r132_43, r132_43a, r132_46, r132_46a, r132_47, r132_47a, r132_50, r132_51, r132_54, r132_54a, r132_57, r132_57a, r132_58, r132_59, r132_59a, r132_62, r132_63, ↓if_pos, ↓if_neg, x_imageOf1, x_copyB_56_2, x_copyR_64_21, x_copyP_68_25, Option.bind_some, pushR_s, pushR_n]
        rfl
      · refine BX.cong (I := memCB 56 2 I) (fun k k1 k2 i => ?_) (memCB_BX (by omega) hX.B)
        rw [memIm1, mset_at, if_neg (by omega), memCP_o (by omega), memCR_o (by omega)]
      · refine RX.cong (I := memCR 64 21 I) ?_ (fun i => ?_) (memCR_RX hO.rsz.2 hX.R)
        · rw [memIm1, mset_at, if_neg (by omega), memCP_o (by omega)]
          simp (disch := omega) only [memCR, mcpy_at, mset_at, ↓if_pos, ↓if_neg, memCB_o]
        · rw [memIm1, mset_at, if_neg (by omega), memCP_o (by omega)]
          simp (disch := omega) only [memCR, mcpy_at, mset_at, ↓if_neg, memCB_o]
      · refine PX.cong (I := memCP 68 25 I) ?_ (fun i => ?_) (memCP_PX hO.psz.2 hX.P)
        · rw [memIm1, mset_at, if_neg (by omega)]
          simp (disch := omega) only [memCP, mcpy_at, mset_at, ↓if_pos, ↓if_neg, memCR_o, memCB_o]
        · rw [memIm1, mset_at, if_neg (by omega)]
          simp (disch := omega) only [memCP, mcpy_at, mset_at, ↓if_neg, memCR_o, memCB_o]
  · rw [if_neg h, if_neg h]
    refine ⟨xbump I 0, ?_, hX.bump (by omega), fun a ha i => xbump_o (fun q => ha (by simp [q])) i⟩
    rw [en132]
    by_cases q : i < 0 <;> simp (disch := omega) only [r132_0, r132_1, r132_4, r132_5, r132_6, r132_9, r132_10, r132_12, r132_14, r132_17, r132_18, r132_19, r132_20, r132_23, r132_23a, r132_24, r132_24a, r132_25, r132_25a, r132_28, r132_29, r132_32, r132_32a, r132_35, r132_35a, r132_36, r132_36a, r132_39, r132_40, r132_43, r132_43a, r132_46, r132_46a, r132_47, r132_47a, r132_50, r132_51, r132_54, r132_54a, r132_57, r132_57a, r132_58, r132_59, r132_59a, r132_62, r132_63, ↓if_pos, ↓if_neg, x_bad, Option.bind_some, pushR_s]
end
