/-! The next token, in both. -/
def sk (t : Int → Int) (k : Int) : Int := rE isB t (t (-1)) k
def TKx (J : MM) (t : Int → Int) (k : Int) : Prop := J 20 1 = tkE t (t (-1)) (sk t k) ∧ J 20 2 = tkK t (t (-1)) (sk t k) ∧ J 20 3 = sk t k ∧ (tkK t (t (-1)) (sk t k) = 2 → J 20 4 = tkV t (sk t k) (tkE t (t (-1)) (sk t k)))
def TKm (J : MM) (t : Int → Int) (k : Int) : Prop := J 70 21 = sk t k ∧ J 70 22 = tkE t (t (-1)) (sk t k) - sk t k ∧ J 70 23 = (if tkK t (t (-1)) (sk t k) = 2 ∧ 2 < tkE t (t (-1)) (sk t k) - sk t k then 4 else tkK t (t (-1)) (sk t k)) ∧ (tkK t (t (-1)) (sk t k) = 2 → tkE t (t (-1)) (sk t k) - sk t k ≤ 2 → J 70 24 = tkV t (sk t k) (tkE t (t (-1)) (sk t k)))
theorem sk_b {t : Int → Int} {k : Int} (hk : 0 ≤ k ∧ k ≤ t (-1)) : k ≤ sk t k ∧ sk t k ≤ t (-1) := rE_b _ k (Nat.le_refl _) hk.2
theorem tkE_b {t : Int → Int} {n s : Int} (h : 0 ≤ s ∧ s ≤ n) : s ≤ tkE t n s ∧ tkE t n s ≤ n ∧ (s < n → s < tkE t n s) := by
  unfold tkE
  split
  · omega
  · split
    · rename_i h1 h2
      rw [rE_y (by omega) h2]
      have := rE_b (P := isL) (t := t) (n := n) _ (s + 1) (Nat.le_refl _) (by omega); omega
    · split
      · rename_i h1 h2 h3
        rw [rE_y (by omega) h3]
        have := rE_b (P := isF) (t := t) (n := n) _ (s + 1) (Nat.le_refl _) (by omega); omega
      · omega
section
variable {d : Nat} {I J K : MM} {t : Int → Int} {n k v i : Int}
theorem x_nextToken (hT : TX I t) (hn : 0 ≤ t (-1) ∧ t (-1) ≤ 200) (h1 : I 20 1 = k) (hk : 0 ≤ k ∧ k ≤ t (-1)) : ∃ J, call (d + 3) 104 [vR 20] I = some (none, J) ∧ TKx J t k ∧ (∀ a i, ¬ (a = 20 ∧ 1 ≤ i ∧ i ≤ 4) → J a i = I a i) := by
  have hs := sk_b hk
  have hsk := x_skip (d := d + 1) hn (vR 0) _ k I (Nat.le_refl _) hk.1 hk.2 hT h1
  have h0 : rE isB t (t (-1)) k = sk t k := rfl
  rw [h0] at hsk
  generalize hsd : sk t k = s at *
  have hT1 : TX (mset I 20 1 s) t := hT.set20 _ _
  have hT2 : TX (mset (mset I 20 1 s) 20 3 s) t := hT1.set20 _ _
  have hb := x_byteAt (d := d + 1) (i := s) hT2 hn (by omega)
  have e18 := hT2.1
  have e18' := hT1.1
  have e18I := hT.1
  have l59 : isL 59 = false := by decide
  have f59 : isF 59 = false := by decide
  have fr : ∀ (u w y z : Int), (1 ≤ u ∧ u ≤ 4) → ∀ a i, ¬ (a = 20 ∧ 1 ≤ i ∧ i ≤ 4) → mset (mset (mset I 20 1 s) 20 3 s) 20 u z a i = I a i := fun u w y z hu a i hai => by
    rw [mset_at, if_neg (by omega), mset_at, if_neg (by omega), mset_at, if_neg (by omega)]
  unfold TKx
  rw [hsd]
  by_cases hend : t (-1) ≤ s
  · refine ⟨mset (mset (mset I 20 1 s) 20 3 s) 20 2 0, ?_, ?_, fr 2 0 0 0 (by omega)⟩
    · rw [en104, hsk]
      simp (disch := omega) only [r104_0, r104_1, r104_4, r104_5, r104_8, r104_11, r104_14, r104_15, r104_18, r104_19, r104_22, r104_25, r104_27, r104_30, r104_31, r104_32, r104_35, r104_36, r104_37, r104_40, r104_43, r104_44, r104_45, r104_48, r104_51, r104_52, r104_55, r104_56, r104_59, r104_62, r104_63, r104_64, r104_67, r104_68, r104_71, r104_74, r104_77, r104_78, r104_79, r104_82, r104_85, r104_86, r104_87, r104_90, r104_93, r104_94, r104_95, r104_98, r104_99, r104_102, r104_103, r104_106, r104_109, r104_112, r104_113, r104_114, r104_117, r104_118, r104_121, r104_124, r104_127, r104_130, r104_131, r104_132, r104_135, r104_136, r104_137, r104_140, r104_143, r104_144, r104_145, r104_148, r104_151, r104_152, r104_153, r104_156, r104_157, r104_160, r104_163, r104_164, r104_165, r104_167, r104_170, r104_171, r104_174, r104_175, r104_178, r104_179, r104_180, r104_183, r104_184, r104_185, r104_188, ↓if_pos, ↓if_neg, mset_at, hb, Option.bind_some, pushR_s]
    · simp [mset_at, tkE, tkK, hend]
  · have hlt : s < t (-1) := by omega
    rw [if_pos hlt] at hb
    have hl := x_isLetter (d := d + 1) (I := mset (mset I 20 1 s) 20 3 s) (v := t s)
    have hf := x_isFigure (d := d + 1) (I := mset (mset I 20 1 s) 20 3 s) (v := t s)
    by_cases hL : isL (t s) = true
    · rw [if_pos hL] at hl
      have hT3 : TX (mset (mset (mset I 20 1 s) 20 3 s) 20 2 1) t := hT2.set20 _ _
      have hw := x_word (d := d + 1) hn (vI (t s)) _ s _ (Nat.le_refl _) (by omega) (by omega) hT3 (by simp [mset_at])
      refine ⟨mset (mset (mset (mset I 20 1 s) 20 3 s) 20 2 1) 20 1 (rE isL t (t (-1)) s), ?_, ?_, fun a i hai => ?_⟩
      · rw [en104, hsk]
        simp (disch := omega) only [r104_0, r104_1, r104_4, r104_5, r104_8, r104_11, r104_14, r104_15, r104_18, r104_19, r104_22, r104_25, r104_27, r104_30, r104_31, r104_32, r104_35, r104_36, r104_37, r104_40, r104_43, r104_44, r104_45, r104_48, r104_51, r104_52, r104_55, r104_56, r104_59, r104_62, r104_63, r104_64, r104_67, r104_68, r104_71, r104_74, r104_77, r104_78, r104_79, r104_82, r104_85, r104_86, r104_87, r104_90, r104_93, r104_94, r104_95, r104_99, r104_102, r104_103, r104_106, r104_109, r104_112, r104_113, r104_114, r104_117, r104_118, r104_121, r104_124, r104_127, r104_130, r104_131, r104_132, r104_135, r104_136, r104_137, r104_140, r104_143, r104_144, r104_145, r104_148, r104_151, r104_152, r104_153, r104_156, r104_157, r104_160, r104_163, r104_164, r104_165, r104_167, r104_170, r104_171, r104_174, r104_175, r104_178, r104_179, r104_180, r104_183, r104_184, r104_185, r104_188, ↓if_pos, ↓if_neg, mset_at, hb, hl, Option.bind_some, pushR_s]
        exact hw
      · simp [mset_at, tkE, tkK, hend, hL]
      · rw [mset_at, if_neg (by omega)]; exact fr 2 0 0 1 (by omega) a i hai
    · rw [if_neg hL] at hl
      by_cases hF : isF (t s) = true
      · rw [if_pos hF] at hf
        have hT3 : TX (mset (mset (mset (mset I 20 1 s) 20 3 s) 20 2 2) 20 4 0) t := (hT2.set20 _ _).set20 _ _
        have hw := x_figs (d := d) hn (s := s) (by omega) _ s _ (Nat.le_refl _) (by omega) (by omega) hT3 (by simp [mset_at]) (by simp [mset_at]) (by simp [mset_at, wal]) (fun j j0 j1 => by omega)
        have hr : call (d + 2) 105 [vR 20] (mset (mset (mset I 20 1 s) 20 3 s) 20 2 2) = some (none, mset (mset (mset (mset (mset (mset I 20 1 s) 20 3 s) 20 2 2) 20 4 0) 20 4 (wal t s (rE isF t (t (-1)) s))) 20 1 (rE isF t (t (-1)) s)) := by
          rw [en105]
          simp (disch := omega) only [r105_0, r105_1, r105_2, r105_6, r105_9, r105_10, r105_13, r105_16, r105_19, r105_20, r105_21, r105_24, r105_25, r105_28, r105_31, r105_34, r105_37, r105_38, r105_39, r105_42, r105_43, r105_46, r105_47, r105_48, r105_51, r105_53, r105_54, r105_57, r105_58, r105_59, r105_62, r105_63, r105_66, r105_69, r105_70, r105_72, r105_73, r105_76, r105_77, r105_80, r105_81, r105_82, r105_85, r105_86, r105_87, r105_90, r105_93]
          exact hw
        have hgt : s < rE isF t (t (-1)) s := by
          rw [rE_y hlt hF]
          have := rE_b (P := isF) (t := t) (n := t (-1)) _ (s + 1) (Nat.le_refl _) (by omega); omega
        refine ⟨mset (mset (mset (mset (mset (mset I 20 1 s) 20 3 s) 20 2 2) 20 4 0) 20 4 (wal t s (rE isF t (t (-1)) s))) 20 1 (rE isF t (t (-1)) s), ?_, ?_, fun a i hai => ?_⟩
        · rw [en104, hsk]
          simp (disch := omega) only [r104_0, r104_1, r104_4, r104_5, r104_8, r104_11, r104_14, r104_15, r104_18, r104_19, r104_22, r104_25, r104_27, r104_30, r104_31, r104_32, r104_35, r104_36, r104_37, r104_40, r104_43, r104_44, r104_45, r104_48, r104_51, r104_52, r104_55, r104_56, r104_59, r104_62, r104_63, r104_64, r104_67, r104_68, r104_71, r104_74, r104_77, r104_78, r104_79, r104_82, r104_85, r104_86, r104_87, r104_90, r104_93, r104_94, r104_95, r104_98, r104_99, r104_102, r104_103, r104_106, r104_109, r104_112, r104_113, r104_114, r104_117, r104_118, r104_121, r104_124, r104_127, r104_130, r104_131, r104_132, r104_135, r104_136, r104_137, r104_140, r104_143, r104_144, r104_145, r104_148, r104_151, r104_152, r104_153, r104_156, r104_157, r104_160, r104_163, r104_164, r104_165, r104_167, r104_170, r104_171, r104_174, r104_175, r104_178, r104_179, r104_180, r104_183, r104_184, r104_185, r104_188, ↓if_pos, ↓if_neg, mset_at, hb, hl, hf, hr, Option.bind_some, pushR_s, pushR_n]
        · have hne : ¬ rE isF t (t (-1)) s = s := by omega
          simp [mset_at, tkE, tkK, hend, hL, hF, wal, hne]
        · rw [mset_at, if_neg (by omega), mset_at, if_neg (by omega), mset_at, if_neg (by omega)]; exact fr 2 0 0 2 (by omega) a i hai
      · rw [if_neg hF] at hf
        by_cases h59 : t s = 59
        · refine ⟨mset (mset (mset (mset I 20 1 s) 20 3 s) 20 2 3) 20 1 (s + 1), ?_, ?_, fun a i hai => ?_⟩
          · rw [en104, hsk]
            simp (disch := omega) only [r104_0, r104_1, r104_4, r104_5, r104_8, r104_11, r104_14, r104_15, r104_18, r104_19, r104_22, r104_25, r104_27, r104_30, r104_31, r104_32, r104_35, r104_36, r104_37, r104_40, r104_43, r104_44, r104_45, r104_48, r104_51, r104_52, r104_55, r104_56, r104_59, r104_62, r104_63, r104_64, r104_67, r104_68, r104_71, r104_74, r104_77, r104_78, r104_79, r104_82, r104_85, r104_86, r104_87, r104_90, r104_93, r104_94, r104_95, r104_98, r104_99, r104_102, r104_103, r104_106, r104_109, r104_112, r104_113, r104_114, r104_117, r104_118, r104_121, r104_124, r104_127, r104_130, r104_131, r104_132, r104_135, r104_136, r104_137, r104_140, r104_143, r104_144, r104_145, r104_148, r104_151, r104_152, r104_153, r104_156, r104_157, r104_160, r104_163, r104_164, r104_165, r104_167, r104_170, r104_171, r104_174, r104_175, r104_178, r104_179, r104_180, r104_183, r104_184, r104_185, r104_188, ↓if_pos, ↓if_neg, mset_at, hb, hl, hf, iadd_eq, Option.bind_some, pushR_s]
          · simp [mset_at, tkE, tkK, hend, l59, f59, h59]
          · rw [mset_at, if_neg (by omega)]; exact fr 2 0 0 3 (by omega) a i hai
        · refine ⟨mset (mset (mset (mset I 20 1 s) 20 3 s) 20 2 4) 20 1 (s + 1), ?_, ?_, fun a i hai => ?_⟩
          · rw [en104, hsk]
            simp (disch := omega) only [r104_0, r104_1, r104_4, r104_5, r104_8, r104_11, r104_14, r104_15, r104_18, r104_19, r104_22, r104_25, r104_27, r104_30, r104_31, r104_32, r104_35, r104_36, r104_37, r104_40, r104_43, r104_44, r104_45, r104_48, r104_51, r104_52, r104_55, r104_56, r104_59, r104_62, r104_63, r104_64, r104_67, r104_68, r104_71, r104_74, r104_77, r104_78, r104_79, r104_82, r104_85, r104_86, r104_87, r104_90, r104_93, r104_94, r104_95, r104_98, r104_99, r104_102, r104_103, r104_106, r104_109, r104_112, r104_113, r104_114, r104_117, r104_118, r104_121, r104_124, r104_127, r104_130, r104_131, r104_132, r104_135, r104_136, r104_137, r104_140, r104_143, r104_144, r104_145, r104_148, r104_151, r104_152, r104_153, r104_156, r104_157, r104_160, r104_163, r104_164, r104_165, r104_167, r104_170, r104_171, r104_174, r104_175, r104_178, r104_179, r104_180, r104_183, r104_184, r104_185, r104_188, ↓if_pos, ↓if_neg, mset_at, hb, hl, hf, iadd_eq, Option.bind_some, pushR_s]
          · simp [mset_at, tkE, tkK, hend, hL, hF, h59]
          · rw [mset_at, if_neg (by omega)]; exact fr 2 0 0 4 (by omega) a i hai
theorem m_isSmall : call (d + 2) 216 [vI v] I = some (some (vI (if isL v = true then 1 else 0)), I) := by
  have e : isL v = true ↔ (97 ≤ v ∧ v ≤ 122) := ⟨of_decide_eq_true, decide_eq_true⟩
  rw [en216]
  simp (disch := omega) only [r216_0, r216_1, r216_2, r216_5, r216_8, r216_11, m_in, retb, e, Option.bind_some, pushR_s]
theorem m_isTen : call (d + 2) 217 [vI v] I = some (some (vI (if isF v = true then 1 else 0)), I) := by
  have e : isF v = true ↔ (48 ≤ v ∧ v ≤ 57) := ⟨of_decide_eq_true, decide_eq_true⟩
  rw [en217]
  simp (disch := omega) only [r217_0, r217_1, r217_2, r217_5, r217_8, r217_11, m_in, retb, e, Option.bind_some, pushR_s]
theorem TM.set70 (hT : TM I t) {i : Int} (v : Int) (hi : i ≠ 20) : TM (mset I 70 i v) t := hT.cong (by rw [mset_at, if_neg (by omega)]) (fun j => by rw [mset_at, if_neg (by omega)])
theorem m_skip (hn : 0 ≤ t (-1) ∧ t (-1) ≤ 200) (x1 : Int) (v2 v3 v4 : AV) : ∀ (f : Nat) (k : Int) (J : MM), (t (-1) - k).toNat ≤ f → 0 ≤ k → k ≤ t (-1) → TM J t → J 70 21 = k → runs (call d) 218 5 [vR 70, vI x1, v2, v3, v4] [] J = runs (call d) 218 43 [vR 70, vI x1, v2, v3, v4] [] (mset J 70 21 (rE isB t (t (-1)) k)) := by
  intro f
  induction f with
  | zero =>
    intro k J hf k0 hk hT h1
    have e := hT.1
    rw [rE_n (by omega)]
    have : mset J 70 21 k = J := by
      funext a j; rw [mset_at]; split
      · rename_i q; rw [q.1, q.2, h1]
      · rfl
    rw [this]
    simp (disch := omega) only [r218_0, r218_1, r218_2, r218_5, r218_6, r218_9, r218_10, r218_13, r218_16, r218_17, r218_20, r218_21, r218_24, r218_25, r218_27, r218_30, r218_31, r218_32, r218_35, r218_36, r218_37, r218_40, r218_44, r218_45, r218_48, r218_49, r218_50, r218_53, r218_54, r218_55, r218_58, r218_59, r218_62, r218_63, r218_66, r218_69, r218_70, r218_71, r218_74, r218_75, r218_78, r218_79, r218_80, r218_81, r218_82, r218_85, r218_88, r218_89, r218_92, r218_93, r218_96, r218_99, r218_100, r218_103, r218_104, r218_106, r218_109, r218_110, r218_113, r218_114, r218_117, r218_118, r218_119, r218_122, r218_123, r218_126, r218_127, r218_130, r218_131, r218_134, r218_135, r218_136, r218_137, r218_140, r218_141, r218_144, r218_145, r218_148, r218_149, r218_150, r218_153, r218_156, r218_157, r218_160, r218_161, r218_164, r218_165, r218_168, r218_169, r218_170, r218_172, r218_173, r218_176, r218_177, r218_180, r218_182, r218_185, r218_188, r218_190, r218_193, r218_194, r218_195, r218_196, r218_199, r218_200, r218_203, r218_204, r218_207, r218_208, r218_209, r218_212, r218_215, r218_216, r218_218, r218_220, r218_221, r218_224, r218_227, r218_229, r218_230, r218_233, r218_234, r218_237, r218_238, r218_241, r218_242, r218_244, r218_245, r218_248, r218_249, r218_250, r218_253, r218_254, r218_257, r218_259, r218_260, r218_261, r218_262, r218_264, r218_265, r218_268, r218_271, r218_274, r218_275, r218_276, r218_279, r218_280, r218_283, r218_284, r218_287, r218_288, r218_291, r218_292, r218_295, r218_296, r218_299, r218_302, ↓if_pos, ↓if_neg]
  | succ f ih =>
    intro k J hf k0 hk hT h1
    have e := hT.1
    have same : mset J 70 21 k = J := by
      funext a j; rw [mset_at]; split
      · rename_i q; rw [q.1, q.2, h1]
      · rfl
    by_cases h : k < t (-1)
    · have hb := hT.2 k k0 h
      by_cases h32 : t k = 32
      · rw [rE_y h (decide_eq_true h32)]
        have hih := ih (k + 1) (mset J 70 21 (k + 1)) (by omega) (by omega) (by omega) (hT.set70 _ (by omega)) (by rw [mset_at, if_pos ⟨rfl, rfl⟩])
        have em : mset (mset J 70 21 (k + 1)) 70 21 (rE isB t (t (-1)) (k + 1)) = mset J 70 21 (rE isB t (t (-1)) (k + 1)) := by
          funext a j; simp only [mset_at]; split <;> rfl
        rw [em] at hih
        rw [← hih, r218_5]
        simp (disch := omega) only [r218_0, r218_1, r218_2, r218_6, r218_9, r218_10, r218_13, r218_16, r218_17, r218_20, r218_21, r218_24, r218_25, r218_27, r218_30, r218_31, r218_32, r218_35, r218_36, r218_37, r218_40, r218_44, r218_45, r218_48, r218_49, r218_50, r218_53, r218_54, r218_55, r218_58, r218_59, r218_62, r218_63, r218_66, r218_69, r218_70, r218_71, r218_74, r218_75, r218_78, r218_79, r218_80, r218_81, r218_82, r218_85, r218_88, r218_89, r218_92, r218_93, r218_96, r218_99, r218_100, r218_103, r218_104, r218_106, r218_109, r218_110, r218_113, r218_114, r218_117, r218_118, r218_119, r218_122, r218_123, r218_126, r218_127, r218_130, r218_131, r218_134, r218_135, r218_136, r218_137, r218_140, r218_141, r218_144, r218_145, r218_148, r218_149, r218_150, r218_153, r218_156, r218_157, r218_160, r218_161, r218_164, r218_165, r218_168, r218_169, r218_170, r218_172, r218_173, r218_176, r218_177, r218_180, r218_182, r218_185, r218_188, r218_190, r218_193, r218_194, r218_195, r218_196, r218_199, r218_200, r218_203, r218_204, r218_207, r218_208, r218_209, r218_212, r218_215, r218_216, r218_218, r218_220, r218_221, r218_224, r218_227, r218_229, r218_230, r218_233, r218_234, r218_237, r218_238, r218_241, r218_242, r218_244, r218_245, r218_248, r218_249, r218_250, r218_253, r218_254, r218_257, r218_259, r218_260, r218_261, r218_262, r218_264, r218_265, r218_268, r218_271, r218_274, r218_275, r218_276, r218_279, r218_280, r218_283, r218_284, r218_287, r218_288, r218_291, r218_292, r218_295, r218_296, r218_299, r218_302, ↓if_pos, ↓if_neg, h1, hb, iadd_eq]
      · rw [rE_n (fun q => h32 (of_decide_eq_true q.2)), same]
        simp (disch := omega) only [r218_0, r218_1, r218_2, r218_5, r218_6, r218_9, r218_10, r218_13, r218_16, r218_17, r218_20, r218_21, r218_24, r218_25, r218_27, r218_30, r218_31, r218_32, r218_35, r218_36, r218_37, r218_40, r218_44, r218_45, r218_48, r218_49, r218_50, r218_53, r218_54, r218_55, r218_58, r218_59, r218_62, r218_63, r218_66, r218_69, r218_70, r218_71, r218_74, r218_75, r218_78, r218_79, r218_80, r218_81, r218_82, r218_85, r218_88, r218_89, r218_92, r218_93, r218_96, r218_99, r218_100, r218_103, r218_104, r218_106, r218_109, r218_110, r218_113, r218_114, r218_117, r218_118, r218_119, r218_122, r218_123, r218_126, r218_127, r218_130, r218_131, r218_134, r218_135, r218_136, r218_137, r218_140, r218_141, r218_144, r218_145, r218_148, r218_149, r218_150, r218_153, r218_156, r218_157, r218_160, r218_161, r218_164, r218_165, r218_168, r218_169, r218_170, r218_172, r218_173, r218_176, r218_177, r218_180, r218_182, r218_185, r218_188, r218_190, r218_193, r218_194, r218_195, r218_196, r218_199, r218_200, r218_203, r218_204, r218_207, r218_208, r218_209, r218_212, r218_215, r218_216, r218_218, r218_220, r218_221, r218_224, r218_227, r218_229, r218_230, r218_233, r218_234, r218_237, r218_238, r218_241, r218_242, r218_244, r218_245, r218_248, r218_249, r218_250, r218_253, r218_254, r218_257, r218_259, r218_260, r218_261, r218_262, r218_264, r218_265, r218_268, r218_271, r218_274, r218_275, r218_276, r218_279, r218_280, r218_283, r218_284, r218_287, r218_288, r218_291, r218_292, r218_295, r218_296, r218_299, r218_302, ↓if_pos, ↓if_neg, h1, hb]
    · rw [rE_n (by omega), same]
      simp (disch := omega) only [r218_0, r218_1, r218_2, r218_5, r218_6, r218_9, r218_10, r218_13, r218_16, r218_17, r218_20, r218_21, r218_24, r218_25, r218_27, r218_30, r218_31, r218_32, r218_35, r218_36, r218_37, r218_40, r218_44, r218_45, r218_48, r218_49, r218_50, r218_53, r218_54, r218_55, r218_58, r218_59, r218_62, r218_63, r218_66, r218_69, r218_70, r218_71, r218_74, r218_75, r218_78, r218_79, r218_80, r218_81, r218_82, r218_85, r218_88, r218_89, r218_92, r218_93, r218_96, r218_99, r218_100, r218_103, r218_104, r218_106, r218_109, r218_110, r218_113, r218_114, r218_117, r218_118, r218_119, r218_122, r218_123, r218_126, r218_127, r218_130, r218_131, r218_134, r218_135, r218_136, r218_137, r218_140, r218_141, r218_144, r218_145, r218_148, r218_149, r218_150, r218_153, r218_156, r218_157, r218_160, r218_161, r218_164, r218_165, r218_168, r218_169, r218_170, r218_172, r218_173, r218_176, r218_177, r218_180, r218_182, r218_185, r218_188, r218_190, r218_193, r218_194, r218_195, r218_196, r218_199, r218_200, r218_203, r218_204, r218_207, r218_208, r218_209, r218_212, r218_215, r218_216, r218_218, r218_220, r218_221, r218_224, r218_227, r218_229, r218_230, r218_233, r218_234, r218_237, r218_238, r218_241, r218_242, r218_244, r218_245, r218_248, r218_249, r218_250, r218_253, r218_254, r218_257, r218_259, r218_260, r218_261, r218_262, r218_264, r218_265, r218_268, r218_271, r218_274, r218_275, r218_276, r218_279, r218_280, r218_283, r218_284, r218_287, r218_288, r218_291, r218_292, r218_295, r218_296, r218_299, r218_302, ↓if_pos, ↓if_neg]
end
