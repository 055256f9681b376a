/-! The reader of the model: an item. -/
section
variable {d : Nat} {I J K : MM} {t : Int → Int} {k lo hi v l p b w e : Int} {g : G} {c : Int} {q : SG}
theorem isW_len {u : Nat} (h : isW t k u = true) : tkE t (t (-1)) (sk t k) - sk t k = (wdL u).length := by
  unfold isW at h
  rw [Bool.and_eq_true] at h
  exact (of_decide_eq_true h.1).2
theorem m_walker3 (h : I 70 26 = 3) : call (d + 1) 224 [vR 70] I = some (some (vI 0), I) := by
  rw [en224]
  simp (disch := omega) only [r224_0, r224_1, r224_4, r224_5, r224_8, r224_9, r224_10, r224_11, r224_14, r224_15, r224_16, r224_17, r224_18, r224_19, r224_20, r224_23, r224_24, r224_27, r224_28, r224_29, r224_32, r224_33, r224_36, r224_37, r224_38, r224_41, r224_43, r224_46, r224_47, r224_48, r224_51, r224_52, r224_55, r224_57, r224_58, r224_61, r224_62, r224_65, r224_66, r224_67, r224_70, r224_72, r224_73, r224_74, r224_77, r224_78, r224_79, r224_80, r224_81, r224_82, r224_85, r224_86, r224_89, r224_92, r224_93, r224_94, r224_97, r224_98, r224_99, r224_102, r224_103, h, ↓if_pos, ↓if_neg]
theorem m_board2 (h : I 70 27 = 2) : call (d + 1) 225 [vR 70] I = some (some (vI 0), I) := by
  rw [en225]
  simp (disch := omega) only [r225_0, r225_1, r225_4, r225_5, r225_8, r225_9, r225_10, r225_11, r225_14, r225_16, r225_17, r225_18, r225_21, r225_22, r225_23, r225_24, r225_25, r225_26, r225_27, r225_28, r225_29, r225_30, r225_33, r225_34, r225_37, r225_38, r225_39, r225_42, r225_43, r225_46, r225_47, r225_48, r225_51, r225_52, r225_55, r225_56, r225_57, r225_60, r225_61, r225_64, r225_66, r225_69, r225_70, r225_71, r225_74, r225_75, r225_76, r225_77, r225_78, r225_81, r225_82, r225_85, r225_88, r225_89, r225_92, r225_93, r225_94, r225_95, r225_98, r225_99, r225_100, r225_101, r225_104, r225_105, r225_106, r225_107, r225_108, r225_111, r225_112, r225_113, r225_116, r225_117, r225_120, r225_121, r225_124, r225_125, r225_126, r225_127, r225_130, r225_132, r225_133, r225_134, r225_135, r225_136, r225_137, r225_138, r225_141, r225_144, r225_145, r225_146, r225_149, r225_150, r225_153, r225_156, r225_157, r225_158, r225_159, r225_162, r225_163, r225_164, r225_165, r225_166, r225_169, r225_170, r225_171, r225_172, r225_175, r225_176, r225_177, r225_180, r225_181, r225_184, r225_185, h, ↓if_pos, ↓if_neg]
theorem m_readItem (hT : TM I t) (hn : 0 ≤ t (-1) ∧ t (-1) ≤ 200) (hk : 0 ≤ k ∧ k ≤ t (-1)) (hx : TKm I t k) (hN : MN I g c) (hg : WG g) (hc : 0 ≤ c ∧ c < 131072) : ∃ b J, call (d + 7) 227 [vR 70] I = some (some (vI b), J) ∧ (b = 0 ∨ b = 1) ∧ RDm t J b (readI t g c false k) ∧ FrN I J := by
  have w1 := m_isWord90 (d := d + 5) hT hn hk hx
  have w2 := m_isWord91 (d := d + 5) hT hn hk hx
  have w3 := m_isWord92 (d := d + 5) hT hn hk hx
  have hs := sk_b hk
  have z6 : I 70 26 = g.nW := by have := hN.1.1.2.1; simpa [NDF] using this
  have z7 : I 70 27 = g.nB := by have := hN.1.1.2.2; simpa [NDF] using this
  have hB2 := hg.nB2
  have hW3 := hg.nW3
  have hb01 : ∀ (J : MM) (b : Int) (r : DS), RDm t J b r → b = 0 ∨ b = 1 := fun J b r h => by
    by_cases z : r.2.2 = -1
    · exact Or.inr (h.1 z).1
    · exact Or.inl (h.2 z).1
  have hZ : RDm t I 0 ((g, c), (tE t k, sk t k)) := ⟨fun z => by
    have z' : sk t k = -1 := z
    omega, fun _ => ⟨rfl, hx.at⟩⟩
  unfold readI
  by_cases h0 : isW t k 89 = true
  · have l0 := isW_len h0
    have n1 : ¬ isW t k 90 = true := fun z => by have := isW_len z; simp [wdL] at this l0; omega
    have n2 : ¬ isW t k 91 = true := fun z => by have := isW_len z; simp [wdL] at this l0; omega
    have n3 : ¬ isW t k 92 = true := fun z => by have := isW_len z; simp [wdL] at this l0; omega
    rw [if_neg n1] at w1
    rw [if_neg n2] at w2
    rw [if_neg n3] at w3
    rw [if_neg (by rw [h0]; decide)]
    refine ⟨0, I, ?_, Or.inl rfl, hZ, FrN.refl⟩
    rw [en227]
    clear hx hN
    simp (disch := omega) only [r227_0, r227_1, r227_3, r227_5, r227_7, r227_9, r227_11, r227_13, r227_16, r227_19, r227_20, r227_23, r227_24, r227_25, r227_27, r227_29, r227_31, r227_33, r227_35, r227_37, r227_40, r227_43, r227_44, r227_47, r227_48, r227_49, r227_51, r227_53, r227_55, r227_57, r227_59, r227_60, r227_63, r227_66, r227_67, r227_70, r227_73, r227_74, r227_77, r227_78, w1, w2, w3, ↓if_pos, ↓if_neg, Option.bind_some, pushR_s]
  · have h0f : false = isW t k 89 := by cases z : isW t k 89 <;> simp_all
    rw [if_pos h0f, if_neg (by decide)]
    by_cases h1 : isW t k 90 = true
    · rw [if_pos h1] at w1 ⊢
      obtain ⟨b, J, c1, r1, f1⟩ := m_readIsland (d := d) hT hn hk hx hN hg
      have hb := hb01 _ _ _ r1
      refine ⟨b, J, ?_, hb, r1, f1⟩
      rw [en227]
      clear hx hN r1
      simp (disch := omega) only [r227_0, r227_1, r227_3, r227_5, r227_7, r227_9, r227_11, r227_13, r227_16, r227_19, r227_20, r227_23, r227_24, r227_25, r227_27, r227_29, r227_31, r227_33, r227_35, r227_37, r227_40, r227_43, r227_44, r227_47, r227_48, r227_49, r227_51, r227_53, r227_55, r227_57, r227_59, r227_60, r227_63, r227_66, r227_67, r227_70, r227_73, r227_74, r227_77, r227_78, w1, c1, ↓if_pos, ↓if_neg, Option.bind_some, pushR_s]
    · rw [if_neg h1] at w1 ⊢
      by_cases h2 : isW t k 91 = true
      · rw [if_pos h2] at w2
        by_cases h3 : g.nW < 3
        · rw [if_pos ⟨h2, h3⟩]
          obtain ⟨b, J, c1, r1, f1⟩ := m_readWalker (d := d) hT hn hk hx hN hg h3 hc
          have hb := hb01 _ _ _ r1
          refine ⟨b, J, ?_, hb, r1, f1⟩
          rw [en227]
          clear hx hN r1
          simp (disch := omega) only [r227_0, r227_1, r227_3, r227_5, r227_7, r227_9, r227_11, r227_13, r227_16, r227_19, r227_20, r227_23, r227_24, r227_25, r227_27, r227_29, r227_31, r227_33, r227_35, r227_37, r227_40, r227_43, r227_44, r227_47, r227_48, r227_49, r227_51, r227_53, r227_55, r227_57, r227_59, r227_60, r227_63, r227_66, r227_67, r227_70, r227_73, r227_74, r227_77, r227_78, w1, w2, c1, ↓if_pos, ↓if_neg, Option.bind_some, pushR_s]
        · have n3 : ¬ isW t k 92 = true := fun z => by have := isW_len z; have := isW_len h2; simp [wdL] at *; omega
          rw [if_neg (fun z => h3 z.2), if_neg (fun z => n3 z.1)]
          have c1 := m_walker3 (d := d + 5) (I := I) (by omega)
          refine ⟨0, I, ?_, Or.inl rfl, hZ, FrN.refl⟩
          rw [en227]
          clear hx hN
          simp (disch := omega) only [r227_0, r227_1, r227_3, r227_5, r227_7, r227_9, r227_11, r227_13, r227_16, r227_19, r227_20, r227_23, r227_24, r227_25, r227_27, r227_29, r227_31, r227_33, r227_35, r227_37, r227_40, r227_43, r227_44, r227_47, r227_48, r227_49, r227_51, r227_53, r227_55, r227_57, r227_59, r227_60, r227_63, r227_66, r227_67, r227_70, r227_73, r227_74, r227_77, r227_78, w1, w2, c1, ↓if_pos, ↓if_neg, Option.bind_some, pushR_s]
      · rw [if_neg h2] at w2
        rw [if_neg (fun z => h2 z.1)]
        by_cases h4 : isW t k 92 = true
        · rw [if_pos h4] at w3
          by_cases h5 : g.nB < 2
          · rw [if_pos ⟨h4, h5⟩]
            obtain ⟨b, J, c1, r1, f1⟩ := m_readBoard (d := d) hT hn hk hx hN hg h5 hc
            have hb := hb01 _ _ _ r1
            refine ⟨b, J, ?_, hb, r1, f1⟩
            rw [en227]
            clear hx hN r1
            rcases hb with rfl | rfl <;> simp (disch := omega) only [r227_0, r227_1, r227_3, r227_5, r227_7, r227_9, r227_11, r227_13, r227_16, r227_19, r227_20, r227_23, r227_24, r227_25, r227_27, r227_29, r227_31, r227_33, r227_35, r227_37, r227_40, r227_43, r227_44, r227_47, r227_48, r227_49, r227_51, r227_53, r227_55, r227_57, r227_59, r227_60, r227_63, r227_66, r227_67, r227_70, r227_73, r227_74, r227_77, r227_78, w1, w2, w3, c1, ↓if_pos, ↓if_neg, Option.bind_some, pushR_s]
          · rw [if_neg (fun z => h5 z.2)]
            have c1 := m_board2 (d := d + 5) (I := I) (by omega)
            refine ⟨0, I, ?_, Or.inl rfl, hZ, FrN.refl⟩
            rw [en227]
            clear hx hN
            simp (disch := omega) only [r227_0, r227_1, r227_3, r227_5, r227_7, r227_9, r227_11, r227_13, r227_16, r227_19, r227_20, r227_23, r227_24, r227_25, r227_27, r227_29, r227_31, r227_33, r227_35, r227_37, r227_40, r227_43, r227_44, r227_47, r227_48, r227_49, r227_51, r227_53, r227_55, r227_57, r227_59, r227_60, r227_63, r227_66, r227_67, r227_70, r227_73, r227_74, r227_77, r227_78, w1, w2, w3, c1, ↓if_pos, ↓if_neg, Option.bind_some, pushR_s]
        · rw [if_neg h4] at w3
          rw [if_neg (fun z => h4 z.1)]
          refine ⟨0, I, ?_, Or.inl rfl, hZ, FrN.refl⟩
          rw [en227]
          clear hx hN
          simp (disch := omega) only [r227_0, r227_1, r227_3, r227_5, r227_7, r227_9, r227_11, r227_13, r227_16, r227_19, r227_20, r227_23, r227_24, r227_25, r227_27, r227_29, r227_31, r227_33, r227_35, r227_37, r227_40, r227_43, r227_44, r227_47, r227_48, r227_49, r227_51, r227_53, r227_55, r227_57, r227_59, r227_60, r227_63, r227_66, r227_67, r227_70, r227_73, r227_74, r227_77, r227_78, w1, w2, w3, ↓if_pos, ↓if_neg, Option.bind_some, pushR_s]
/-- the reader goes ahead -/
theorem nS_ge (h : SB t q) : q.1 ≤ (nS t lo hi q).1 := by
  have h0 := h.1
  have hs := sk_b h0
  have he := tkE_b (t := t) (n := t (-1)) (s := sk t q.1) (by omega)
  unfold nS; split
  · show q.1 ≤ tkE t (t (-1)) (sk t q.1); omega
  · exact Int.le_refl _
theorem readI_ge {first : Bool} (hk : 0 ≤ k ∧ k ≤ t (-1)) : k ≤ (readI t g c first k).2.1 := by
  have hs := sk_b hk
  have he := tkE_b (t := t) (n := t (-1)) (s := sk t k) (by omega)
  have hE : k ≤ tE t k := by unfold tE; omega
  have hq : SB t (tE t k, -1) := ⟨⟨by unfold tE; omega, by unfold tE; omega⟩, Int.le_refl _⟩
  have n1 : ∀ lo hi, SB t (nS t lo hi (tE t k, -1)) := fun lo hi => nS_b hq
  have hE' : k ≤ ((tE t k, -1) : SG).1 := hE
  unfold readI
  split
  · split
    · exact Int.le_trans hE' (nS_ge hq)
    · split
      · exact Int.le_trans hE' (nS_ge hq)
      · split
        · unfold ri3 ri2 ri1
          exact Int.le_trans hE' (Int.le_trans (nS_ge hq) (Int.le_trans (nS_ge (nS_b hq)) (nS_ge (nS_b (nS_b hq)))))
        · split
          · have : k ≤ (rb4 t g.last (tE t k, -1)).1 := by
              unfold rb4 rb3 rb2 rb1
              exact Int.le_trans hE' (Int.le_trans (nS_ge hq) (Int.le_trans (nS_ge (nS_b hq)) (Int.le_trans (nS_ge (nS_b (nS_b hq))) (nS_ge (nS_b (nS_b (nS_b hq)))))))
            unfold readB
            split
            · split <;> exact this
            · exact this
          · exact hE
  · exact hE
end
