/-! The reader of the model: what was read takes the place of what was. -/
section
variable {d : Nat} {I J K : MM} {t : Int → Int} {k lo hi v l p b w e : Int} {g : G} {c : Int} {q : SG} {s : ST}
theorem RN.cong {f f' : Int → Int} (hg : WG g) (e : ∀ i, (0 ≤ i ∧ i < 26) ∨ i = 67 ∨ i = 68 → f' i = f i) (h : RGf f g ∧ NSf f g c) : RGf f' g ∧ NSf f' g c := by
  obtain ⟨⟨⟨a1, a2, a3⟩, a4, a5, a6⟩, b1, b2⟩ := h
  have h7 := hg.last7; have hw := hg.nW3; have hb := hg.nB2
  exact ⟨⟨⟨(e _ (by omega)).trans a1, (e _ (by omega)).trans a2, (e _ (by omega)).trans a3⟩, fun p p0 p1 => (e p (by omega)).trans (a4 p p0 p1), fun w w0 w1 => ⟨(e _ (by omega)).trans (a5 w w0 w1).1, (e _ (by omega)).trans (a5 w w0 w1).2⟩, fun b b0 b1 => ⟨(e _ (by omega)).trans (a6 b b0 b1).1, (e _ (by omega)).trans (a6 b b0 b1).2.1, (e _ (by omega)).trans (a6 b b0 b1).2.2⟩⟩, fun w w0 w1 => (e _ (by omega)).trans (b1 w w0 w1), fun b e0 e1 => (e _ (by omega)).trans (b2 b e0 e1)⟩
theorem m_swap (v3 v4 : AV) : ∀ (f : Nat) (p : Int) (J : MM) (v2 : AV), 0 ≤ p → p + f = 26 → ∃ K w2, runs (call d) 229 2 [vR 70, vI p, v2, v3, v4] [] J = runs (call d) 229 40 [vR 70, vI 26, w2, v3, v4] [] K ∧ (∀ i, p ≤ i → i < 26 → K 71 i = J 85 i ∧ K 85 i = J 71 i) ∧ (∀ a i, ¬ ((a = 71 ∨ a = 85) ∧ p ≤ i ∧ i < 26) → K a i = J a i) := by
  intro f
  induction f with
  | zero =>
    intro p J v2 p0 hp
    have : p = 26 := by omega
    subst this
    refine ⟨J, v2, ?_, fun i i0 i1 => by omega, fun _ _ _ => rfl⟩
    simp (disch := omega) only [r229_0, r229_1, r229_2, r229_3, r229_5, r229_8, r229_9, r229_12, r229_13, r229_14, r229_15, r229_16, r229_19, r229_20, r229_21, r229_24, r229_25, r229_26, r229_27, r229_28, r229_31, r229_32, r229_33, r229_34, r229_37, r229_41, r229_44, r229_45, r229_46, r229_49, r229_50, r229_51, r229_54, r229_56, r229_57, r229_60, r229_61, r229_62, r229_65, r229_67, r229_68, r229_71, r229_72, r229_73, r229_76, r229_77, r229_80, r229_81, r229_82, r229_85, r229_86, r229_89, r229_91, r229_92, r229_93, r229_94, r229_95, r229_96, r229_99, r229_101, r229_102, r229_103, r229_104, r229_107, r229_109, r229_110, r229_111, r229_112, r229_114, r229_116, r229_118, r229_121, r229_122, r229_125, r229_127, r229_128, r229_131, r229_133, r229_134, r229_135, r229_138, r229_141, r229_142, ↓if_pos, ↓if_neg]
  | succ f ih =>
    intro p J v2 p0 hp
    obtain ⟨K, w2, c1, g1, f1⟩ := ih (p + 1) (mset (mset J 71 p (J 85 p)) 85 p (J 71 p)) (vI (J 71 p)) (by omega) (by omega)
    refine ⟨K, w2, ?_, fun i i0 i1 => ?_, fun a i h => ?_⟩
    · rw [← c1, r229_2]
      simp (disch := omega) only [r229_0, r229_1, r229_3, r229_5, r229_8, r229_9, r229_12, r229_13, r229_14, r229_15, r229_16, r229_19, r229_20, r229_21, r229_24, r229_25, r229_26, r229_27, r229_28, r229_31, r229_32, r229_33, r229_34, r229_37, r229_41, r229_44, r229_45, r229_46, r229_49, r229_50, r229_51, r229_54, r229_56, r229_57, r229_60, r229_61, r229_62, r229_65, r229_67, r229_68, r229_71, r229_72, r229_73, r229_76, r229_77, r229_80, r229_81, r229_82, r229_85, r229_86, r229_89, r229_91, r229_92, r229_93, r229_94, r229_95, r229_96, r229_99, r229_101, r229_102, r229_103, r229_104, r229_107, r229_109, r229_110, r229_111, r229_112, r229_114, r229_116, r229_118, r229_121, r229_122, r229_125, r229_127, r229_128, r229_131, r229_133, r229_134, r229_135, r229_138, r229_141, r229_142, ↓if_pos, ↓if_neg, iadd_eq, mset_at]
    · by_cases hi : i = p
      · subst hi
        rw [f1 71 i (by omega), f1 85 i (by omega)]
        simp [mset_at]
      · obtain ⟨h1, h2⟩ := g1 i (by omega) i1
        rw [h1, h2, mset_at, if_neg (by omega), mset_at, if_neg (by omega), mset_at, if_neg (by omega), mset_at, if_neg (by omega)]
        exact ⟨rfl, rfl⟩
    · rw [f1 a i (by omega), mset_at, if_neg (by omega), mset_at, if_neg (by omega)]
theorem m_unswap (y1 y2 y3 : Int) : ∀ (f : Nat) (p : Int) (J : MM), 0 ≤ p → p + f = 26 → ∃ K, runs (call d) 229 114 [vR 70, vI y1, vI y2, vI y3, vI p] [] J = some (some (vI 0), K) ∧ (∀ i, p ≤ i → i < 26 → K 71 i = J 85 i) ∧ (∀ a i, ¬ (a = 71 ∧ p ≤ i ∧ i < 26) → K a i = J a i) := by
  intro f
  induction f with
  | zero =>
    intro p J p0 hp
    refine ⟨J, ?_, fun i i0 i1 => by omega, fun _ _ _ => rfl⟩
    simp (disch := omega) only [r229_0, r229_1, r229_2, r229_3, r229_5, r229_8, r229_9, r229_12, r229_13, r229_14, r229_15, r229_16, r229_19, r229_20, r229_21, r229_24, r229_25, r229_26, r229_27, r229_28, r229_31, r229_32, r229_33, r229_34, r229_37, r229_40, r229_41, r229_44, r229_45, r229_46, r229_49, r229_50, r229_51, r229_54, r229_56, r229_57, r229_60, r229_61, r229_62, r229_65, r229_67, r229_68, r229_71, r229_72, r229_73, r229_76, r229_77, r229_80, r229_81, r229_82, r229_85, r229_86, r229_89, r229_91, r229_92, r229_93, r229_94, r229_95, r229_96, r229_99, r229_101, r229_102, r229_103, r229_104, r229_107, r229_109, r229_110, r229_111, r229_112, r229_114, r229_116, r229_118, r229_121, r229_122, r229_125, r229_127, r229_128, r229_131, r229_133, r229_134, r229_135, r229_138, r229_141, r229_142, ↓if_pos, ↓if_neg]
  | succ f ih =>
    intro p J p0 hp
    obtain ⟨K, c1, g1, f1⟩ := ih (p + 1) (mset J 71 p (J 85 p)) (by omega) (by omega)
    refine ⟨K, ?_, fun i i0 i1 => ?_, fun a i h => ?_⟩
    · rw [← c1, r229_114]
      simp (disch := omega) only [r229_0, r229_1, r229_2, r229_3, r229_5, r229_8, r229_9, r229_12, r229_13, r229_14, r229_15, r229_16, r229_19, r229_20, r229_21, r229_24, r229_25, r229_26, r229_27, r229_28, r229_31, r229_32, r229_33, r229_34, r229_37, r229_40, r229_41, r229_44, r229_45, r229_46, r229_49, r229_50, r229_51, r229_54, r229_56, r229_57, r229_60, r229_61, r229_62, r229_65, r229_67, r229_68, r229_71, r229_72, r229_73, r229_76, r229_77, r229_80, r229_81, r229_82, r229_85, r229_86, r229_89, r229_91, r229_92, r229_93, r229_94, r229_95, r229_96, r229_99, r229_101, r229_102, r229_103, r229_104, r229_107, r229_109, r229_110, r229_111, r229_112, r229_116, r229_118, r229_121, r229_122, r229_125, r229_127, r229_128, r229_131, r229_133, r229_134, r229_135, r229_138, r229_141, r229_142, ↓if_pos, ↓if_neg, iadd_eq, mset_at]
    · by_cases hi : i = p
      · subst hi
        rw [f1 71 i (by omega)]
        simp [mset_at]
      · rw [g1 i (by omega) i1, mset_at, if_neg (by omega)]
    · rw [f1 a i (by omega), mset_at, if_neg (by omega)]
theorem m_putRead (hN : MN I g c) (hg : WG g) (hV : VC g c) : ∃ J, call (d + 7) 229 [vR 70] I = some (some (vI (if well g c then 1 else 0)), J) ∧ (well g c → RGf (J 71) g ∧ NSf (J 71) g c ∧ J 71 69 = 0 ∧ ∀ i, 26 ≤ i → i < 67 → J 71 i = I 71 i) ∧ (¬ well g c → ∀ i, J 71 i = I 71 i) ∧ (∀ a i, a ≠ 71 → a ≠ 77 → a ≠ 78 → a ≠ 85 → J a i = I a i) := by
  obtain ⟨K, w2, c1, g1, f1⟩ := m_swap (d := d + 6) (vR 0) (vR 0) 26 0 I (vR 0) (by omega) (by omega)
  have z6 : I 70 26 = g.nW := by have := hN.1.1.2.1; simpa [NDF] using this
  have z7 : I 70 27 = g.nB := by have := hN.1.1.2.2; simpa [NDF] using this
  have k6 : K 70 26 = g.nW := (f1 _ _ (by omega)).trans z6
  have k7 : K 70 27 = g.nB := (f1 _ _ (by omega)).trans z7
  have k67 : K 71 67 = I 71 67 := f1 _ _ (by omega)
  have k68 : K 71 68 = I 71 68 := f1 _ _ (by omega)
  have hR : RGf ((mset (mset K 71 67 g.nW) 71 68 g.nB) 71) g ∧ NSf ((mset (mset K 71 67 g.nW) 71 68 g.nB) 71) g c := RN.cong hg (fun i hi => by
    rw [mset_at, mset_at]
    unfold NDF
    rcases hi with hi | rfl | rfl
    · rw [if_neg (by omega), if_neg (by omega), if_neg (by omega), if_neg (by omega)]; exact (g1 i hi.1 hi.2).1
    · simp [z6]
    · simp [z7]) hN
  have hk2 : ∀ a i, a ≠ 71 → (mset (mset K 71 67 g.nW) 71 68 g.nB) a i = K a i := fun a i h => by rw [mset_at, if_neg (by omega), mset_at, if_neg (by omega)]
  have hk3 : ∀ i, i ≠ 67 → i ≠ 68 → (mset (mset K 71 67 g.nW) 71 68 g.nB) 71 i = K 71 i := fun i h h' => by rw [mset_at, if_neg (by omega), mset_at, if_neg (by omega)]
  have mw : ∀ M : MM, call (d + 6) 159 [vR 70] M = some (some (vI (M 71 67)), M) := fun M => by
    rw [en159]; simp (disch := omega) only [r159_0, r159_1, r159_4, r159_6, r159_7, ↓if_pos]
  have mb : ∀ M : MM, call (d + 6) 160 [vR 70] M = some (some (vI (M 71 68)), M) := fun M => by
    rw [en160]; simp (disch := omega) only [r160_0, r160_1, r160_4, r160_6, r160_7, ↓if_pos]
  have fN := memN_fr (mset (mset K 71 67 g.nW) 71 68 g.nB)
  have hgo : call (d + 7) 229 [vR 70] I = runs (call (d + 6)) 229 72 [vR 70, vI (I 71 67), vI (I 71 68), vR 0, vR 0] [] (mset (mset K 71 67 g.nW) 71 68 g.nB) := by
    rw [en229]
    simp (disch := omega) only [r229_0, r229_1]
    rw [c1]
    simp (disch := omega) only [r229_0, r229_1, r229_2, r229_3, r229_5, r229_8, r229_9, r229_12, r229_13, r229_14, r229_15, r229_16, r229_19, r229_20, r229_21, r229_24, r229_25, r229_26, r229_27, r229_28, r229_31, r229_32, r229_33, r229_34, r229_37, r229_40, r229_41, r229_44, r229_45, r229_46, r229_49, r229_50, r229_51, r229_54, r229_56, r229_57, r229_60, r229_61, r229_62, r229_65, r229_67, r229_68, r229_71, r229_73, r229_76, r229_77, r229_80, r229_81, r229_82, r229_85, r229_86, r229_89, r229_91, r229_92, r229_93, r229_94, r229_95, r229_96, r229_99, r229_101, r229_102, r229_103, r229_104, r229_107, r229_109, r229_110, r229_111, r229_112, r229_114, r229_116, r229_118, r229_121, r229_122, r229_125, r229_127, r229_128, r229_131, r229_133, r229_134, r229_135, r229_138, r229_141, r229_142, mw, mb, k67, k68, k6, k7, mset_at, ↓if_pos, ↓if_neg, Option.bind_some, pushR_s]
  generalize mset (mset K 71 67 g.nW) 71 68 g.nB = M at *
  have hRn : RG (memN M) g := by
    have : RG M g := hR.1
    exact this.cong (fun i => fN 71 i (by omega) (by omega) (by omega) (by omega))
  have hS := memN_MS hg (I := M) (g := g) (c := c) hR.2
  have hw := m_isWell (d := d) hRn hS hg hV
  have ht : call (d + 6) 164 [vR 70] M = some (none, memN M) := m_takeNow
  have hM : ∀ a i, a ≠ 77 → a ≠ 78 → memN M a i = M a i := fun a i h1 h2 => by simp [memN, mset_at, h1, h2]
  generalize memN M = M' at *
  by_cases h : well g c
  · rw [if_pos h] at hw ⊢
    refine ⟨mset M' 71 69 0, ?_, fun _ => ?_, fun z => absurd h z, fun a i q1 q2 q3 q4 => ?_⟩
    · rw [hgo]
      simp (disch := omega) only [r229_0, r229_1, r229_2, r229_3, r229_5, r229_8, r229_9, r229_12, r229_13, r229_14, r229_15, r229_16, r229_19, r229_20, r229_21, r229_24, r229_25, r229_26, r229_27, r229_28, r229_31, r229_32, r229_33, r229_34, r229_37, r229_40, r229_41, r229_44, r229_45, r229_46, r229_49, r229_50, r229_51, r229_54, r229_56, r229_57, r229_60, r229_61, r229_62, r229_65, r229_67, r229_68, r229_71, r229_72, r229_73, r229_76, r229_77, r229_80, r229_81, r229_82, r229_85, r229_86, r229_89, r229_91, r229_92, r229_93, r229_94, r229_95, r229_96, r229_99, r229_101, r229_102, r229_103, r229_104, r229_107, r229_109, r229_110, r229_111, r229_112, r229_114, r229_116, r229_118, r229_121, r229_122, r229_125, r229_127, r229_128, r229_131, r229_133, r229_134, r229_135, r229_138, r229_141, r229_142, ht, hw, ↓if_pos, ↓if_neg, Option.bind_some, pushR_s, pushR_n]
    · have he : ∀ i, i ≠ 69 → (mset M' 71 69 0) 71 i = M 71 i := fun i hi => by rw [mset_at, if_neg (by omega)]; exact hM 71 i (by omega) (by omega)
      obtain ⟨r1, r2⟩ := RN.cong (f' := (mset M' 71 69 0) 71) hg (fun i hi => he i (by omega)) hR
      refine ⟨r1, r2, by rw [mset_at, if_pos ⟨rfl, rfl⟩], fun i i0 i1 => ?_⟩
      rw [he i (by omega), hk3 i (by omega) (by omega)]; exact f1 71 i (by omega)
    · rw [mset_at, if_neg (by omega), hM a i q2 q3, hk2 a i q1]; exact f1 a i (by omega)
  · rw [if_neg h] at hw ⊢
    obtain ⟨L, c2, g2, f2⟩ := m_unswap (d := d + 6) (I 71 67) (I 71 68) 0 26 0 (mset (mset M' 71 67 (I 71 67)) 71 68 (I 71 68)) (by omega) (by omega)
    refine ⟨L, ?_, fun z => absurd z h, fun _ i => ?_, fun a i q1 q2 q3 q4 => ?_⟩
    · rw [hgo]
      simp (disch := omega) only [r229_0, r229_1, r229_2, r229_3, r229_5, r229_8, r229_9, r229_12, r229_13, r229_14, r229_15, r229_16, r229_19, r229_20, r229_21, r229_24, r229_25, r229_26, r229_27, r229_28, r229_31, r229_32, r229_33, r229_34, r229_37, r229_40, r229_41, r229_44, r229_45, r229_46, r229_49, r229_50, r229_51, r229_54, r229_56, r229_57, r229_60, r229_61, r229_62, r229_65, r229_67, r229_68, r229_71, r229_72, r229_73, r229_76, r229_77, r229_80, r229_81, r229_82, r229_85, r229_86, r229_89, r229_91, r229_92, r229_93, r229_94, r229_95, r229_96, r229_99, r229_101, r229_102, r229_103, r229_104, r229_107, r229_109, r229_110, r229_111, r229_112, r229_116, r229_118, r229_121, r229_122, r229_125, r229_127, r229_128, r229_131, r229_133, r229_134, r229_135, r229_138, r229_141, r229_142, ht, hw, ↓if_pos, ↓if_neg, Option.bind_some, pushR_s, pushR_n]
      exact c2
    · by_cases hi : 0 ≤ i ∧ i < 26
      · rw [g2 i hi.1 hi.2, mset_at, if_neg (by omega), mset_at, if_neg (by omega), hM 85 i (by omega) (by omega), hk2 85 i (by omega)]
        exact (g1 i hi.1 hi.2).2
      · rw [f2 71 i (by omega), mset_at]
        by_cases h8 : i = 68
        · rw [if_pos ⟨rfl, h8⟩, h8]
        · rw [if_neg (by omega), mset_at]
          by_cases h7 : i = 67
          · rw [if_pos ⟨rfl, h7⟩, h7]
          · rw [if_neg (by omega), hM 71 i (by omega) (by omega), hk3 i h7 h8]
            exact f1 71 i (by omega)
    · rw [f2 a i (by omega), mset_at, if_neg (by omega), mset_at, if_neg (by omega), hM a i q2 q3, hk2 a i q1]; exact f1 a i (by omega)
end
