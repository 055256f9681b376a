/-! The draft of the class: a board more. -/
def lng (k : Int) : Int := if k = 2 ∨ k = 4 then 1 else 0
def sth (k b : Int) : Int := if k = 1 then b / 2 else if k = 3 ∨ k = 5 then 2 * b else b
/-- the board has room -/
def fitB (g : G) (c k l p : Int) : Bool := decide (p + (l + lng k) - 1 ≤ g.last ∧ iand (mskN (l + lng k) p) (brdN g c) = 0)
def addB (g : G) (k l b : Int) : G := fun j i => if j = 0 ∧ i = 3 then g.nB + 1 else if j = 3 ∧ i = g.nB then k else if j = 4 ∧ i = g.nB then l else if j = 5 ∧ i = g.nB then b else if j = 6 ∧ i = g.nB then l + lng k else if j = 7 ∧ i = g.nB then sth k b else g j i
section
variable {d : Nat} {I J K : MM} {g : G} {c l w e p k b : Int}
theorem lng_x (hk : 0 ≤ k ∧ k ≤ 5) : ([0, 0, 1, 0, 1, 0] : List Int).getD k.toNat 0 = lng k := by
  have : k = 0 ∨ k = 1 ∨ k = 2 ∨ k = 3 ∨ k = 4 ∨ k = 5 := by omega
  rcases this with rfl | rfl | rfl | rfl | rfl | rfl <;> rfl
theorem sth_x (hk : 0 ≤ k ∧ k ≤ 5) (hb : 1 ≤ b ∧ b ≤ 30) : idiv (imul b (([2, 1, 2, 4, 2, 4] : List Int).getD k.toNat 0)) 2 = sth k b := by
  obtain ⟨n, hn⟩ : ∃ n : Nat, b = n := ⟨b.toNat, by omega⟩
  subst hn
  have : k = 0 ∨ k = 1 ∨ k = 2 ∨ k = 3 ∨ k = 4 ∨ k = 5 := by omega
  have h1 : ∀ m : Int, 0 ≤ m → m ≤ 4 → idiv (imul (n : Int) m) 2 = (n : Int) * m / 2 := fun m m0 m1 => by
    have e0 : (n : Int) * m ≤ 30 * 4 := Int.mul_le_mul hb.2 m1 m0 (by omega)
    have e1 : 0 ≤ (n : Int) * m := Int.mul_nonneg (by omega) m0
    rw [imul_eq (by omega), idiv_eq (by omega) (by omega)]
  rcases this with rfl | rfl | rfl | rfl | rfl | rfl
  · exact (h1 2 (by omega) (by omega)).trans (by simp [sth])
  · exact (h1 1 (by omega) (by omega)).trans (by simp [sth])
  · exact (h1 2 (by omega) (by omega)).trans (by simp [sth])
  · exact (h1 4 (by omega) (by omega)).trans (by simp [sth]; omega)
  · exact (h1 2 (by omega) (by omega)).trans (by simp [sth])
  · exact (h1 4 (by omega) (by omega)).trans (by simp [sth]; omega)
theorem lng_b : 0 ≤ lng k ∧ lng k ≤ 1 := by unfold lng; split <;> omega
theorem x_addB' (hB : BX 10 I g c) (hg : WG g) (hn : g.nB < 2) (hc : 0 ≤ c ∧ c < 131072) (hp : 0 ≤ p ∧ p < 8) (hk : 0 ≤ k ∧ k ≤ 5) (hl : 1 ≤ l ∧ l ≤ 3) (hb : 1 ≤ b ∧ b ≤ 30) : ∃ J, call (d + 4) 3 [vR 10, vI k, vI l, vI b, vI p] I = some (some (vI (if fitB g c k l p = true then 1 else 0)), J) ∧ (if fitB g c k l p = true then BX 10 J (addB g k l b) (setB c g.nB p) else J = I) ∧ FrD I J := by
  have hB0 := hB
  obtain ⟨hA, h4⟩ := hB
  have h3 : I 10 3 = g.nB := hA 0 3 (by omega) (by simp [rng])
  have h00 : I 10 0 = g.last := hA 0 0 (by omega) (by simp [rng])
  have hnb := hg.nB2
  have hla := hg.last7
  have hlb := lng_b (k := k)
  have hlx := lng_x hk
  have hsx := sth_x hk hb
  have hm : ∀ M : MM, call (d + 3) 19 [vR 10, vI (l + lng k), vI p] M = some (some (vI (mskN (l + lng k) p)), M) := fun M => x_maskOf' (by omega) (by omega)
  have hbm := x_boardMask' (d := d) hA hg hc
  have hw : ∀ M : MM, call (d + 3) 11 [vR 10, vI c, vI g.nB, vI p] M = some (some (vI (setB c g.nB p)), M) := fun M => x_withBoard' hc (by omega) (by omega)
  have ok : fitB g c k l p = true ↔ (p + (l + lng k) - 1 ≤ g.last ∧ iand (mskN (l + lng k) p) (brdN g c) = 0) := ⟨of_decide_eq_true, decide_eq_true⟩
  rw [en3]
  by_cases hf : fitB g c k l p = true
  · obtain ⟨f1, f2⟩ := ok.mp hf
    rw [if_pos hf]
    clear ok
    refine ⟨mset (mset (mset (mset (mset (mset (mset I 13 g.nB k) 14 g.nB l) 15 g.nB b) 16 g.nB (l + lng k)) 17 g.nB (sth k b)) 10 4 (setB c g.nB p)) 10 3 (g.nB + 1), ?_, ?_, fun a i h => ?_⟩
    · simp (disch := omega) only [r3_0, r3_1, r3_4, r3_5, r3_8, r3_9, r3_12, r3_13, r3_14, r3_17, r3_18, r3_19, r3_20, r3_23, r3_24, r3_25, r3_26, r3_28, r3_30, r3_32, r3_33, r3_34, r3_35, r3_36, r3_39, r3_42, r3_43, r3_45, r3_47, r3_50, r3_51, r3_52, r3_55, r3_58, r3_59, r3_62, r3_63, r3_64, r3_65, r3_68, r3_69, r3_72, r3_73, r3_74, r3_75, r3_78, r3_79, r3_82, r3_83, r3_84, r3_85, r3_88, r3_89, r3_92, r3_93, r3_94, r3_95, r3_98, r3_99, r3_102, r3_104, r3_105, r3_106, r3_109, r3_110, r3_113, r3_114, r3_117, r3_118, r3_119, r3_120, r3_121, r3_122, r3_123, r3_124, r3_125, r3_126, r3_129, r3_130, r3_133, r3_135, r3_138, r3_141, r3_142, r3_143, r3_146, r3_147, r3_148, r3_151, r3_152, ↓if_pos, ↓if_neg, mset_at, h3, h4, h00, hlx, hsx, hm, hbm, f2, hw, iadd_eq, isub_eq, Option.bind_some, pushR_s]
    · rw [if_pos hf]
      refine ⟨fun j i hj hr => ?_, by simp [mset_at]⟩
      unfold addB
      have h0 := hA j i hj hr
      simp only [mset_at]
      by_cases a1 : 10 + j = 10 ∧ i = 3
      · rw [if_pos a1, if_pos (by omega)]
      · rw [if_neg a1, if_neg (show ¬ (10 + j = 10 ∧ i = 4) by
          rintro ⟨z1, z2⟩
          have : j = 0 := by omega
          subst this; subst z2; simp [rng] at hr), if_neg (show ¬ (j = 0 ∧ i = 3) by omega)]
        clear hr
        by_cases ai : i = g.nB
        · have : j = 0 ∨ j = 1 ∨ j = 2 ∨ j = 3 ∨ j = 4 ∨ j = 5 ∨ j = 6 ∨ j = 7 := by omega
          rcases this with rfl | rfl | rfl | rfl | rfl | rfl | rfl | rfl <;> simp [ai] <;> simpa [ai] using h0
        · simp only [ai, and_false, if_false]
          exact h0
    · rw [mset_at, if_neg (by omega), mset_at, if_neg (by omega), mset_at, if_neg (by omega), mset_at, if_neg (by omega), mset_at, if_neg (by omega), mset_at, if_neg (by omega), mset_at, if_neg (by omega)]
  · rw [if_neg hf]
    refine ⟨I, ?_, by rw [if_neg hf], fun _ _ _ => rfl⟩
    by_cases f1 : p + (l + lng k) - 1 ≤ g.last
    · have f2 : ¬ iand (mskN (l + lng k) p) (brdN g c) = 0 := fun q => hf (ok.mpr ⟨f1, q⟩)
      clear ok
      simp (disch := first | omega | exact f2) only [r3_0, r3_1, r3_4, r3_5, r3_8, r3_9, r3_12, r3_13, r3_14, r3_17, r3_18, r3_19, r3_20, r3_23, r3_24, r3_25, r3_26, r3_28, r3_30, r3_32, r3_33, r3_34, r3_35, r3_36, r3_39, r3_42, r3_43, r3_45, r3_47, r3_50, r3_51, r3_52, r3_55, r3_58, r3_59, r3_62, r3_63, r3_64, r3_65, r3_68, r3_69, r3_72, r3_73, r3_74, r3_75, r3_78, r3_79, r3_82, r3_83, r3_84, r3_85, r3_88, r3_89, r3_92, r3_93, r3_94, r3_95, r3_98, r3_99, r3_102, r3_104, r3_105, r3_106, r3_109, r3_110, r3_113, r3_114, r3_117, r3_118, r3_119, r3_120, r3_121, r3_122, r3_123, r3_124, r3_125, r3_126, r3_129, r3_130, r3_133, r3_135, r3_138, r3_141, r3_142, r3_143, r3_146, r3_147, r3_148, r3_151, r3_152, ↓if_pos, ↓if_neg, h3, h4, h00, hlx, hm, hbm, iadd_eq, isub_eq, Option.bind_some, pushR_s]
    · clear ok
      simp (disch := omega) only [r3_0, r3_1, r3_4, r3_5, r3_8, r3_9, r3_12, r3_13, r3_14, r3_17, r3_18, r3_19, r3_20, r3_23, r3_24, r3_25, r3_26, r3_28, r3_30, r3_32, r3_33, r3_34, r3_35, r3_36, r3_39, r3_42, r3_43, r3_45, r3_47, r3_50, r3_51, r3_52, r3_55, r3_58, r3_59, r3_62, r3_63, r3_64, r3_65, r3_68, r3_69, r3_72, r3_73, r3_74, r3_75, r3_78, r3_79, r3_82, r3_83, r3_84, r3_85, r3_88, r3_89, r3_92, r3_93, r3_94, r3_95, r3_98, r3_99, r3_102, r3_104, r3_105, r3_106, r3_109, r3_110, r3_113, r3_114, r3_117, r3_118, r3_119, r3_120, r3_121, r3_122, r3_123, r3_124, r3_125, r3_126, r3_129, r3_130, r3_133, r3_135, r3_138, r3_141, r3_142, r3_143, r3_146, r3_147, r3_148, r3_151, r3_152, ↓if_pos, ↓if_neg, h3, h4, h00, hlx, iadd_eq, isub_eq, Option.bind_some, pushR_s]
end
