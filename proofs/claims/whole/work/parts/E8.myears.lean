/-! years of the model, as a call. -/
def yv (c : Int) (j : Int) : Nat → Int → Int → Int
  | 0, _, v => v
  | g + 1, y, v => yv c j g (y + 1) (v * (if y < j then c else 10 - c))
section
variable {d : Nat} {I J K : MM} {v u c k x w : Int} {s : ST} {n : Nat}
theorem yv_hi {j : Int} : ∀ (g : Nat) (y v : Int), j ≤ y → yv c j g y v = mulO (10 - c) g v := by
  intro g
  induction g with
  | zero => intro y v h; rfl
  | succ g ih => intro y v h; rw [yv, mulO, if_neg (by omega), ih _ _ (by omega)]
theorem yv_lo {j : Int} (g : Nat) : ∀ (h : Nat) (y v : Int), y + h = j → yv c j (h + g) y v = mulO (10 - c) g (mulO c h v) := by
  intro h
  induction h with
  | zero => intro y v hy; rw [Nat.zero_add, yv_hi g y v (by omega)]; rfl
  | succ h ih =>
    intro y v hy
    rw [show h + 1 + g = (h + g) + 1 by omega, yv, mulO, if_pos (by omega), ih _ _ (by omega)]
theorem yv_0 {j : Int} : ∀ (g : Nat) (y : Int), yv c j g y 0 = 0 := by
  intro g
  induction g with
  | zero => intro y; rfl
  | succ g ih => intro y; rw [yv, Int.zero_mul, ih]
theorem yv_trm {j : Nat} (hj : j ≤ n) : yv c j n 0 (wy n j) = trm n c j := by
  have e : j + (n - j) = n := by omega
  have h := yv_lo (c := c) (j := (j : Int)) (n - j) j 0 (wy n j) (by omega)
  rw [e] at h
  exact h
theorem m_yearI (hn : n ≤ 20) (hc : 0 ≤ c ∧ c ≤ 10) (j : Int) (w0 : Int) (ways : Int) : ∀ (g : Nat) (y v : Int) (J : MM), 0 ≤ y → y + g = n → RP J 7 v → v * 10 ^ g < 1329227995784915872903807060280344576 → ∃ K, runs (call (d + 2)) 255 108 [vR 70, vI n, vI w0, vI k, vI c, vL ways, vR 0, vI j, vI y] [] J = runs (call (d + 2)) 255 145 [vR 70, vI n, vI w0, vI k, vI c, vL ways, vR 0, vI j, vI n] [] K ∧ RP K 7 (yv c j g y v) ∧ FrB 7 J K := by
  intro g
  induction g with
  | zero =>
    intro y v J y0 hy hr hb
    have : y = n := by omega
    subst this
    refine ⟨J, ?_, hr, FrB.refl⟩
    clear hr hb
    simp (disch := omega) only [r255_0, r255_1, r255_2, r255_3, r255_6, r255_9, r255_12, r255_13, r255_14, r255_15, r255_18, r255_21, r255_24, r255_25, r255_26, r255_27, r255_28, r255_29, r255_32, r255_35, r255_36, r255_38, r255_41, r255_42, r255_43, r255_45, r255_48, r255_49, r255_52, r255_53, r255_56, r255_57, r255_60, r255_61, r255_63, r255_64, r255_65, r255_66, r255_69, r255_70, r255_71, r255_72, r255_75, r255_76, r255_78, r255_79, r255_81, r255_83, r255_84, r255_87, r255_88, r255_90, r255_92, r255_93, r255_96, r255_97, r255_100, r255_102, r255_105, r255_106, r255_108, r255_110, r255_111, r255_114, r255_115, r255_117, r255_119, r255_121, r255_124, r255_126, r255_127, r255_130, r255_132, r255_134, r255_135, r255_136, r255_139, r255_142, r255_146, r255_147, r255_149, r255_152, r255_154, r255_155, r255_157, r255_158, r255_159, r255_160, r255_162, r255_163, r255_164, r255_165, r255_166, r255_168, r255_170, r255_171, r255_174, r255_175, r255_176, r255_179, r255_182, r255_185, r255_188, r255_189, r255_190, r255_191, r255_192, r255_195, r255_196, ↓if_pos, ↓if_neg]
  | succ g ih =>
    intro y v J y0 hy hr hb
    have hv := hr.1.1
    have hp : (0 : Int) < 10 ^ g := Int.pow_pos (by decide)
    have eb : v * 10 ^ (g + 1) = v * 10 * 10 ^ g := by rw [Int.pow_succ, Int.mul_comm (10 ^ g) 10, Int.mul_assoc]
    rw [eb] at hb
    rw [yv]
    have hfb : 0 ≤ (if y < j then c else 10 - c) ∧ (if y < j then c else 10 - c) ≤ 10 := by split <;> omega
    generalize hf : (if y < j then c else 10 - c) = f at *
    have h1 : v * f ≤ v * 10 := Int.mul_le_mul_of_nonneg_left hfb.2 hv
    have h2 : v * f * 10 ^ g ≤ v * 10 * 10 ^ g := Int.mul_le_mul_of_nonneg_right h1 (by omega)
    have h0 : 0 ≤ v * f := Int.mul_nonneg hv hfb.1
    have h3 : v * f * 1 ≤ v * f * 10 ^ g := Int.mul_le_mul_of_nonneg_left (by omega) h0
    obtain ⟨J1, c1, r1, f1⟩ := m_times (d := d) (s := 7) (f := f) (by omega) hfb hr (by omega)
    obtain ⟨K, c2, r2, f2⟩ := ih (y + 1) (v * f) J1 (by omega) (by omega) r1 (by omega)
    refine ⟨K, ?_, r2, f1.trans f2⟩
    rw [← c2, r255_108]
    clear ih c2 r1 r2 f1 f2 hr hb h1 h2 h3 h0 eb hp
    by_cases hj : y < j
    · rw [if_pos hj] at hf
      subst hf
      simp (disch := omega) only [r255_0, r255_1, r255_2, r255_3, r255_6, r255_9, r255_12, r255_13, r255_14, r255_15, r255_18, r255_21, r255_24, r255_25, r255_26, r255_27, r255_28, r255_29, r255_32, r255_35, r255_36, r255_38, r255_41, r255_42, r255_43, r255_45, r255_48, r255_49, r255_52, r255_53, r255_56, r255_57, r255_60, r255_61, r255_63, r255_64, r255_65, r255_66, r255_69, r255_70, r255_71, r255_72, r255_75, r255_76, r255_78, r255_79, r255_81, r255_83, r255_84, r255_87, r255_88, r255_90, r255_92, r255_93, r255_96, r255_97, r255_100, r255_102, r255_105, r255_106, r255_110, r255_111, r255_114, r255_115, r255_117, r255_119, r255_121, r255_124, r255_126, r255_127, r255_130, r255_132, r255_134, r255_135, r255_136, r255_139, r255_142, r255_146, r255_147, r255_149, r255_152, r255_154, r255_155, r255_157, r255_158, r255_159, r255_160, r255_162, r255_163, r255_164, r255_165, r255_166, r255_168, r255_170, r255_171, r255_174, r255_175, r255_176, r255_179, r255_182, r255_185, r255_188, r255_189, r255_190, r255_191, r255_192, r255_195, r255_196, ↓if_pos, ↓if_neg, c1, Option.bind_some, pushR_n, iadd_eq]
    · rw [if_neg hj] at hf
      subst hf
      simp (disch := omega) only [r255_0, r255_1, r255_2, r255_3, r255_6, r255_9, r255_12, r255_13, r255_14, r255_15, r255_18, r255_21, r255_24, r255_25, r255_26, r255_27, r255_28, r255_29, r255_32, r255_35, r255_36, r255_38, r255_41, r255_42, r255_43, r255_45, r255_48, r255_49, r255_52, r255_53, r255_56, r255_57, r255_60, r255_61, r255_63, r255_64, r255_65, r255_66, r255_69, r255_70, r255_71, r255_72, r255_75, r255_76, r255_78, r255_79, r255_81, r255_83, r255_84, r255_87, r255_88, r255_90, r255_92, r255_93, r255_96, r255_97, r255_100, r255_102, r255_105, r255_106, r255_110, r255_111, r255_114, r255_115, r255_117, r255_119, r255_121, r255_124, r255_126, r255_127, r255_130, r255_132, r255_134, r255_135, r255_136, r255_139, r255_142, r255_146, r255_147, r255_149, r255_152, r255_154, r255_155, r255_157, r255_158, r255_159, r255_160, r255_162, r255_163, r255_164, r255_165, r255_166, r255_168, r255_170, r255_171, r255_174, r255_175, r255_176, r255_179, r255_182, r255_185, r255_188, r255_189, r255_190, r255_191, r255_192, r255_195, r255_196, ↓if_pos, ↓if_neg, c1, Option.bind_some, pushR_n, iadd_eq, isub_eq]
theorem m_yearJ (hn : n ≤ 20) (hc : 0 ≤ c ∧ c ≤ 10) (w0 : Int) : ∀ (f j : Nat) (acc : Int) (J : MM) (v8 : AV), j + f = n + 1 → acc ≤ j * 18475600000000000000000000 → RP J 2 acc → RP J 3 (10 ^ (min j n)) → ∃ K v5 v8', runs (call (d + 2)) 255 81 [vR 70, vI n, vI w0, vI k, vI c, vL (wy n j), vR 0, vI j, v8] [] J = runs (call (d + 2)) 255 188 [vR 70, vI n, vI w0, vI k, vI c, v5, vR 0, vI ((n : Int) + 1), v8'] [] K ∧ RP K 2 (smF n c k f j acc) ∧ RP K 3 (10 ^ n) ∧ FrSl [2, 3, 7] J K := by
  intro f
  induction f with
  | zero =>
    intro j acc J v8 hj ha hr hq
    have ej : (j : Int) = (n : Int) + 1 := by omega
    rw [show min j n = n by omega] at hq
    refine ⟨J, vL (wy n j), v8, ?_, hr, hq, FrSl.refl⟩
    rw [ej]
    clear hr hq
    simp (disch := omega) only [r255_0, r255_1, r255_2, r255_3, r255_6, r255_9, r255_12, r255_13, r255_14, r255_15, r255_18, r255_21, r255_24, r255_25, r255_26, r255_27, r255_28, r255_29, r255_32, r255_35, r255_36, r255_38, r255_41, r255_42, r255_43, r255_45, r255_48, r255_49, r255_52, r255_53, r255_56, r255_57, r255_60, r255_61, r255_63, r255_64, r255_65, r255_66, r255_69, r255_70, r255_71, r255_72, r255_75, r255_76, r255_78, r255_79, r255_81, r255_83, r255_84, r255_87, r255_88, r255_90, r255_92, r255_93, r255_96, r255_97, r255_100, r255_102, r255_105, r255_106, r255_108, r255_110, r255_111, r255_114, r255_115, r255_117, r255_119, r255_121, r255_124, r255_126, r255_127, r255_130, r255_132, r255_134, r255_135, r255_136, r255_139, r255_142, r255_145, r255_146, r255_147, r255_149, r255_152, r255_154, r255_155, r255_157, r255_158, r255_159, r255_160, r255_162, r255_163, r255_164, r255_165, r255_166, r255_168, r255_170, r255_171, r255_174, r255_175, r255_176, r255_179, r255_182, r255_185, r255_189, r255_190, r255_191, r255_192, r255_195, r255_196, ↓if_pos, ↓if_neg]
  | succ f ih =>
    intro j acc J v8 hj ha hr hq
    have hjn : j ≤ n := by omega
    rw [show min j n = j by omega] at hq
    have hwy := wy_b n hn j (by omega)
    have hwy' := wy_b n hn (j + 1) (by omega)
    have htr := trm_b (w := c) hn hc hjn
    have hp10 := pow10_b n hn
    have hpj := pow10_b j (by omega)
    have hj20 : (j : Int) ≤ 20 := by omega
    have haj : (j : Int) * 18475600000000000000000000 ≤ 20 * 18475600000000000000000000 := Int.mul_le_mul_of_nonneg_right hj20 (by omega)
    have ha0 := hr.1.1
    have hm : 0 ≤ wy n j * ((n : Int) - j) ∧ wy n j * ((n : Int) - j) ≤ 184756 * 20 := ⟨Int.mul_nonneg hwy.1 (by omega), Int.le_trans (Int.mul_le_mul_of_nonneg_right hwy.2 (by omega)) (by omega)⟩
    have ewy : wy n (j + 1) = wy n j * ((n : Int) - j) / ((j : Int) + 1) := by rw [wy]
    -- the term
    obtain ⟨J1, c1, r1, f1⟩ : ∃ J1, runs (call (d + 2)) 255 81 [vR 70, vI n, vI w0, vI k, vI c, vL (wy n j), vR 0, vI j, v8] [] J = runs (call (d + 2)) 255 108 [vR 70, vI n, vI w0, vI k, vI c, vL (wy n j), vR 0, vI j, vI 0] [] J1 ∧ RP J1 7 (if k ≤ j then wy n j else 0) ∧ FrB 7 J J1 := by
      by_cases hk : k ≤ (j : Int)
      · rw [if_pos hk]
        obtain ⟨J1, c1, r1, f1⟩ := m_set (d := d + 1) (I := J) (s := 7) (v := wy n j) (by omega) (by omega)
        refine ⟨J1, ?_, r1, f1⟩
        clear ih hr hq r1 f1 hm ewy htr hp10 hpj haj ha hwy'
        simp (disch := omega) only [r255_0, r255_1, r255_2, r255_3, r255_6, r255_9, r255_12, r255_13, r255_14, r255_15, r255_18, r255_21, r255_24, r255_25, r255_26, r255_27, r255_28, r255_29, r255_32, r255_35, r255_36, r255_38, r255_41, r255_42, r255_43, r255_45, r255_48, r255_49, r255_52, r255_53, r255_56, r255_57, r255_60, r255_61, r255_63, r255_64, r255_65, r255_66, r255_69, r255_70, r255_71, r255_72, r255_75, r255_76, r255_78, r255_79, r255_81, r255_83, r255_84, r255_87, r255_88, r255_90, r255_92, r255_93, r255_96, r255_97, r255_100, r255_102, r255_105, r255_106, r255_110, r255_111, r255_114, r255_115, r255_117, r255_119, r255_121, r255_124, r255_126, r255_127, r255_130, r255_132, r255_134, r255_135, r255_136, r255_139, r255_142, r255_145, r255_146, r255_147, r255_149, r255_152, r255_154, r255_155, r255_157, r255_158, r255_159, r255_160, r255_162, r255_163, r255_164, r255_165, r255_166, r255_168, r255_170, r255_171, r255_174, r255_175, r255_176, r255_179, r255_182, r255_185, r255_188, r255_189, r255_190, r255_191, r255_192, r255_195, r255_196, ↓if_pos, ↓if_neg, c1, Option.bind_some, pushR_n]
      · rw [if_neg hk]
        obtain ⟨J1, c1, r1, f1⟩ := m_set (d := d + 1) (I := J) (s := 7) (v := 0) (by omega) (by omega)
        refine ⟨J1, ?_, r1, f1⟩
        clear ih hr hq r1 f1 hm ewy htr hp10 hpj haj ha hwy'
        simp (disch := omega) only [r255_0, r255_1, r255_2, r255_3, r255_6, r255_9, r255_12, r255_13, r255_14, r255_15, r255_18, r255_21, r255_24, r255_25, r255_26, r255_27, r255_28, r255_29, r255_32, r255_35, r255_36, r255_38, r255_41, r255_42, r255_43, r255_45, r255_48, r255_49, r255_52, r255_53, r255_56, r255_57, r255_60, r255_61, r255_63, r255_64, r255_65, r255_66, r255_69, r255_70, r255_71, r255_72, r255_75, r255_76, r255_78, r255_79, r255_81, r255_83, r255_84, r255_87, r255_88, r255_90, r255_92, r255_93, r255_96, r255_97, r255_100, r255_102, r255_105, r255_106, r255_110, r255_111, r255_114, r255_115, r255_117, r255_119, r255_121, r255_124, r255_126, r255_127, r255_130, r255_132, r255_134, r255_135, r255_136, r255_139, r255_142, r255_145, r255_146, r255_147, r255_149, r255_152, r255_154, r255_155, r255_157, r255_158, r255_159, r255_160, r255_162, r255_163, r255_164, r255_165, r255_166, r255_168, r255_170, r255_171, r255_174, r255_175, r255_176, r255_179, r255_182, r255_185, r255_188, r255_189, r255_190, r255_191, r255_192, r255_195, r255_196, ↓if_pos, ↓if_neg, c1, Option.bind_some, pushR_n]
    rw [c1]
    clear c1
    have hb : (if k ≤ (j : Int) then wy n j else 0) * 10 ^ n < 1329227995784915872903807060280344576 := by
      have h1 : (if k ≤ (j : Int) then wy n j else 0) ≤ 184756 := by split <;> omega
      have h2 := Int.mul_le_mul_of_nonneg_right h1 (show (0 : Int) ≤ 10 ^ n by omega)
      omega
    obtain ⟨J2, c2, r2, f2⟩ := m_yearI (d := d) (k := k) hn hc j w0 (wy n j) n 0 _ J1 (by omega) (by omega) r1 hb
    rw [c2]
    clear c2 hb
    have et : yv c j n 0 (if k ≤ (j : Int) then wy n j else 0) = if k ≤ (j : Int) then trm n c j else 0 := by
      by_cases hk : k ≤ (j : Int)
      · rw [if_pos hk, if_pos hk, yv_trm hjn]
      · rw [if_neg hk, if_neg hk, yv_0]
    rw [et] at r2
    have htb : 0 ≤ (if k ≤ (j : Int) then trm n c j else 0) ∧ (if k ≤ (j : Int) then trm n c j else 0) ≤ 18475600000000000000000000 := by split <;> omega
    obtain ⟨J3, c3, r3, f3⟩ := m_add (d := d) (s := 2) (t := 7) (by omega) (by omega) (by omega) ((hr.fr f1 (by omega)).fr f2 (by omega)) r2 (by omega)
    have q3 := (((hq.fr f1 (by omega)).fr f2 (by omega)).fr f3 (by omega))
    have ea : acc + (if k ≤ (j : Int) then trm n c j else 0) = if k ≤ (j : Int) then acc + trm n c j else acc := by split <;> omega
    have g3 : FrSl [2, 3, 7] J J3 := (f1.q (by simp)).trans ((f2.q (by simp)).trans (f3.q (by simp)))
    have hab : acc + (if k ≤ (j : Int) then trm n c j else 0) ≤ ((j + 1 : Nat) : Int) * 18475600000000000000000000 := by omega
    rw [ea] at r3 hab
    rw [smF]
    clear et htb r1 r2 f1 f2 f3 hr hq ea
    have ej1 : ((j + 1 : Nat) : Int) = (j : Int) + 1 := by omega
    by_cases hjn' : j < n
    · have ep : (10 : Int) ^ (j + 1) = 10 ^ j * 10 := Int.pow_succ _ _
      obtain ⟨J4, c4, q4, f4⟩ := m_times (d := d) (s := 3) (f := 10) (by omega) (by omega) q3 (by omega)
      rw [← ep] at q4
      obtain ⟨K, v5, v8', c5, r5, q5, f5⟩ := ih (j + 1) _ J4 (vI n) (by omega) hab (r3.fr f4 (by omega)) (by rw [show min (j + 1) n = j + 1 by omega]; exact q4)
      refine ⟨K, v5, v8', ?_, r5, q5, g3.trans ((f4.q (by simp)).trans f5)⟩
      rw [← c5, ewy, ej1]
      clear ih c5 r5 q5 f5 g3 r3 q3 q4 f4 hab ha ep hp10 hpj haj htr hwy' ewy
      simp (disch := omega) only [r255_0, r255_1, r255_2, r255_3, r255_6, r255_9, r255_12, r255_13, r255_14, r255_15, r255_18, r255_21, r255_24, r255_25, r255_26, r255_27, r255_28, r255_29, r255_32, r255_35, r255_36, r255_38, r255_41, r255_42, r255_43, r255_45, r255_48, r255_49, r255_52, r255_53, r255_56, r255_57, r255_60, r255_61, r255_63, r255_64, r255_65, r255_66, r255_69, r255_70, r255_71, r255_72, r255_75, r255_76, r255_78, r255_79, r255_83, r255_84, r255_87, r255_88, r255_90, r255_92, r255_93, r255_96, r255_97, r255_100, r255_102, r255_105, r255_106, r255_110, r255_111, r255_114, r255_115, r255_117, r255_119, r255_121, r255_124, r255_126, r255_127, r255_130, r255_132, r255_134, r255_135, r255_136, r255_139, r255_142, r255_145, r255_146, r255_147, r255_149, r255_152, r255_154, r255_155, r255_157, r255_158, r255_159, r255_160, r255_162, r255_163, r255_164, r255_165, r255_166, r255_168, r255_170, r255_171, r255_174, r255_175, r255_176, r255_179, r255_182, r255_185, r255_188, r255_189, r255_190, r255_191, r255_192, r255_195, r255_196, ↓if_pos, ↓if_neg, kill, c3, c4, Option.bind_some, pushR_n, iadd_eq, isub_eq, lmul_eq, ldiv_pos]
    · have ejn : j = n := by omega
      obtain ⟨K, v5, v8', c5, r5, q5, f5⟩ := ih (j + 1) _ J3 (vI n) (by omega) hab r3 (by rw [show min (j + 1) n = j by omega]; exact q3)
      refine ⟨K, v5, v8', ?_, r5, q5, g3.trans f5⟩
      rw [← c5, ewy, ej1]
      clear ih c5 r5 q5 f5 g3 r3 q3 hab ha hp10 hpj haj htr hwy' ewy
      simp (disch := omega) only [r255_0, r255_1, r255_2, r255_3, r255_6, r255_9, r255_12, r255_13, r255_14, r255_15, r255_18, r255_21, r255_24, r255_25, r255_26, r255_27, r255_28, r255_29, r255_32, r255_35, r255_36, r255_38, r255_41, r255_42, r255_43, r255_45, r255_48, r255_49, r255_52, r255_53, r255_56, r255_57, r255_60, r255_61, r255_63, r255_64, r255_65, r255_66, r255_69, r255_70, r255_71, r255_72, r255_75, r255_76, r255_78, r255_79, r255_83, r255_84, r255_87, r255_88, r255_90, r255_92, r255_93, r255_96, r255_97, r255_100, r255_102, r255_105, r255_106, r255_110, r255_111, r255_114, r255_115, r255_117, r255_119, r255_121, r255_124, r255_126, r255_127, r255_130, r255_132, r255_134, r255_135, r255_136, r255_139, r255_142, r255_145, r255_146, r255_147, r255_149, r255_152, r255_154, r255_155, r255_157, r255_158, r255_159, r255_160, r255_162, r255_163, r255_164, r255_165, r255_166, r255_168, r255_170, r255_171, r255_174, r255_175, r255_176, r255_179, r255_182, r255_185, r255_188, r255_189, r255_190, r255_191, r255_192, r255_195, r255_196, ↓if_pos, ↓if_neg, kill, c3, Option.bind_some, pushR_n, iadd_eq, isub_eq, lmul_eq, ldiv_pos]
theorem chn_tell {n : Nat} {p : Nat} (hp : smF n w k (n + 1) 0 0 = (p : Int)) : (chn n w k).1 = (if p = 0 then 0 else ((p / Nat.gcd p (10 ^ n) : Nat) : Int)) ∧ (chn n w k).2 = (if p = 0 then 1 else ((10 ^ n / Nat.gcd p (10 ^ n) : Nat) : Int)) := by
  unfold chn
  rw [hp]
  by_cases h0 : p = 0
  · subst h0
    rw [if_pos rfl, if_pos rfl]
    unfold shn
    rw [if_pos (by rfl)]
    exact ⟨rfl, rfl⟩
  · rw [if_neg h0, if_neg h0, shn_gcd (by omega)]
    exact ⟨rfl, rfl⟩
theorem M_years {n : Int} (hM : MR I s) (hO : OK s) : MA (d + 12) 255 [vI n, vI w, vI k] I (aYears n w k) (sYears s n w k) := by
  unfold aYears sYears
  by_cases h : kYears n w k
  · rw [if_pos h, if_pos h]
    obtain ⟨hn, hw, hk⟩ := h
    obtain ⟨n, rfl⟩ : ∃ m : Nat, n = m := ⟨n.toNat, by omega⟩
    rw [show ((n : Int)).toNat = n by omega]
    obtain ⟨J1, c1, -, m2, -, f1⟩ := m_goMist (d := d) (n := 40) hM hO (by omega)
    have hM1 := hM.H hO f1
    have hwet : 0 ≤ wetS s w ∧ wetS s w ≤ 10 := by unfold wetS; split <;> omega
    obtain ⟨J2, c2, r2, f2⟩ := m_set (d := d + 10) (I := J1) (s := 2) (v := 0) (by omega) (by omega)
    obtain ⟨J3, c3, r3, f3⟩ := m_set (d := d + 10) (I := J2) (s := 3) (v := 1) (by omega) (by omega)
    obtain ⟨J4, v5, v8, c4, r4, q4, f4⟩ := m_yearJ (d := d + 9) (n := n) (k := k) (c := wetS s w) (by omega) hwet w (n + 1) 0 0 J3 (vR 0) (by omega) (by omega) (r2.fr f3 (by omega)) (by rw [show min 0 n = 0 by omega]; exact r3)
    have hsb := smF_b (k := k) (n := n) (w := wetS s w) (by omega) hwet (n + 1) 0 0 (by omega) (Int.le_refl 0) (by simp)
    obtain ⟨p, hp⟩ : ∃ p : Nat, smF n (wetS s w) k (n + 1) 0 0 = (p : Int) := ⟨(smF n (wetS s w) k (n + 1) 0 0).toNat, by omega⟩
    rw [hp] at r4
    have e10 : ((10 : Int) ^ n) = ((10 ^ n : Nat) : Int) := by simp
    have hp10 := pow10_b n (by omega)
    rw [e10] at q4 hp10
    obtain ⟨K, c5, f5, s5, a5, b5⟩ := m_tell (d := d + 7) r4 q4 (by omega) (by omega)
    obtain ⟨t1, t2⟩ := chn_tell (n := n) (w := wetS s w) (k := k) hp
    rw [← t1] at a5
    rw [← t2] at b5
    have s5' : K 70 6 = if (chn n (wetS s w) k).1 = 0 then 0 else 1 := by
      rw [s5, t1]
      by_cases h0 : p = 0
      · rw [if_pos h0, if_pos h0, if_pos rfl]
      · have hg0 : 0 < Nat.gcd p (10 ^ n) := Nat.gcd_pos_of_pos_left _ (by omega)
        have : 0 < p / Nat.gcd p (10 ^ n) := Nat.div_pos (Nat.le_of_dvd (by omega) (Nat.gcd_dvd_left _ _)) hg0
        rw [if_neg h0, if_neg h0, if_neg (by omega)]
    have fJ : ∀ a i, a ≠ 75 → a ≠ 76 → ¬ (a = 70 ∧ i = 6) → K a i = J1 a i := fun a i n1 n2 n3 => by
      rw [f5 a i n1 n2 n3, f4.o n1 n2, f3 a i (by omega) (by omega), f2 a i (by omega) (by omega)]
    refine ⟨K, ?_, ⟨hM1.N.cong (fun i _ _ => fJ 71 i (by omega) (by omega) (by omega)) hO.1, hM1.T.cong (fJ _ _ (by omega) (by omega) (by omega)) (fun i => fJ _ _ (by omega) (by omega) (by omega)), hM1.C.cong (fun i => fJ _ _ (by omega) (by omega) (by omega)), ⟨fun i i0 i1 => ?_, fun i i0 i1 => ?_, a5.2.1, b5.2.1, s5'⟩, hM1.I0.cong (fun i => fJ _ _ (by omega) (by omega) (by omega)) (fun i => fJ _ _ (by omega) (by omega) (by omega)) hO.2.2.2.2.1, hM1.I1.cong (fun i => fJ _ _ (by omega) (by omega) (by omega)) (fun i => fJ _ _ (by omega) (by omega) (by omega)) hO.2.2.2.2.2⟩, fun a ha i => ?_⟩
    · have hst : call (d + 12) 255 [vR 70, vI n, vI w, vI k] I = runs (call (d + 11)) 255 81 [vR 70, vI n, vI w, vI k, vI (wetS s w), vL (wy n 0), vR 0, vI ((0 : Nat) : Int), vR 0] [] J3 := by
        rw [en255, show wy n 0 = 1 from rfl]
        unfold wetS
        clear c4 c5 a5 b5 s5 s5' t1 t2 fJ f5 f4 f3 f2 r4 q4 r2 r3 hp hsb hM1 f1 hp10 e10
        by_cases hl : (mrS s 40).2.1 = -1
        · rw [if_pos hl]
          rw [hl] at m2
          simp (disch := omega) only [r255_0, r255_1, r255_2, r255_3, r255_6, r255_9, r255_12, r255_13, r255_14, r255_15, r255_18, r255_21, r255_24, r255_25, r255_26, r255_27, r255_28, r255_29, r255_32, r255_35, r255_36, r255_38, r255_41, r255_42, r255_43, r255_45, r255_48, r255_49, r255_52, r255_53, r255_56, r255_57, r255_60, r255_61, r255_63, r255_64, r255_65, r255_66, r255_69, r255_70, r255_71, r255_72, r255_75, r255_76, r255_78, r255_79, r255_83, r255_84, r255_87, r255_88, r255_90, r255_92, r255_93, r255_96, r255_97, r255_100, r255_102, r255_105, r255_106, r255_108, r255_110, r255_111, r255_114, r255_115, r255_117, r255_119, r255_121, r255_124, r255_126, r255_127, r255_130, r255_132, r255_134, r255_135, r255_136, r255_139, r255_142, r255_145, r255_146, r255_147, r255_149, r255_152, r255_154, r255_155, r255_157, r255_158, r255_159, r255_160, r255_162, r255_163, r255_164, r255_165, r255_166, r255_168, r255_170, r255_171, r255_174, r255_175, r255_176, r255_179, r255_182, r255_185, r255_188, r255_189, r255_190, r255_191, r255_192, r255_195, r255_196, ↓if_pos, ↓if_neg, kill, m_in, c1, c2, c3, m2, Option.bind_some, pushR_s, pushR_n]
          rfl
        · rw [if_neg hl]
          rw [← m2] at hl
          simp (disch := first | omega | exact hl) only [r255_0, r255_1, r255_2, r255_3, r255_6, r255_9, r255_12, r255_13, r255_14, r255_15, r255_18, r255_21, r255_24, r255_25, r255_26, r255_27, r255_28, r255_29, r255_32, r255_35, r255_36, r255_38, r255_41, r255_42, r255_43, r255_45, r255_48, r255_49, r255_52, r255_53, r255_56, r255_57, r255_60, r255_61, r255_63, r255_64, r255_65, r255_66, r255_69, r255_70, r255_71, r255_72, r255_75, r255_76, r255_78, r255_79, r255_83, r255_84, r255_87, r255_88, r255_90, r255_92, r255_93, r255_96, r255_97, r255_100, r255_102, r255_105, r255_106, r255_108, r255_110, r255_111, r255_114, r255_115, r255_117, r255_119, r255_121, r255_124, r255_126, r255_127, r255_130, r255_132, r255_134, r255_135, r255_136, r255_139, r255_142, r255_145, r255_146, r255_147, r255_149, r255_152, r255_154, r255_155, r255_157, r255_158, r255_159, r255_160, r255_162, r255_163, r255_164, r255_165, r255_166, r255_168, r255_170, r255_171, r255_174, r255_175, r255_176, r255_179, r255_182, r255_185, r255_188, r255_189, r255_190, r255_191, r255_192, r255_195, r255_196, ↓if_pos, ↓if_neg, kill, m_in, c1, c2, c3, Option.bind_some, pushR_s, pushR_n]
          rfl
      rw [hst, c4]
      clear c4 hst a5 b5 s5 s5' t1 t2 fJ f5 f4 f3 f2 r4 q4 r2 r3 hp hsb hM1 f1 hp10 e10
      simp (disch := omega) only [r255_0, r255_1, r255_2, r255_3, r255_6, r255_9, r255_12, r255_13, r255_14, r255_15, r255_18, r255_21, r255_24, r255_25, r255_26, r255_27, r255_28, r255_29, r255_32, r255_35, r255_36, r255_38, r255_41, r255_42, r255_43, r255_45, r255_48, r255_49, r255_52, r255_53, r255_56, r255_57, r255_60, r255_61, r255_63, r255_64, r255_65, r255_66, r255_69, r255_70, r255_71, r255_72, r255_75, r255_76, r255_78, r255_79, r255_81, r255_83, r255_84, r255_87, r255_88, r255_90, r255_92, r255_93, r255_96, r255_97, r255_100, r255_102, r255_105, r255_106, r255_108, r255_110, r255_111, r255_114, r255_115, r255_117, r255_119, r255_121, r255_124, r255_126, r255_127, r255_130, r255_132, r255_134, r255_135, r255_136, r255_139, r255_142, r255_145, r255_146, r255_147, r255_149, r255_152, r255_154, r255_155, r255_157, r255_158, r255_159, r255_160, r255_162, r255_163, r255_164, r255_165, r255_166, r255_168, r255_170, r255_171, r255_174, r255_175, r255_176, r255_179, r255_182, r255_185, r255_188, r255_189, r255_190, r255_191, r255_192, r255_195, r255_196, ↓if_pos, ↓if_neg, c5, Option.bind_some, pushR_n]
    · have := a5.2.2 i i0 i1
      rwa [Int.mul_zero, Int.zero_add] at this
    · have := b5.2.2 i i0 i1
      rwa [Int.mul_one] at this
    · rw [fJ a i (fun q => ha (by simp [q])) (fun q => ha (by simp [q])) (fun q => ha (by simp [q.1]))]
      exact f1.out a ha i
  · rw [if_neg h, if_neg h]
    refine MA.bump hO hM (by omega) ?_
    rw [en255]
    by_cases q0 : 1 ≤ n ∧ n ≤ 20
    · by_cases q1 : 0 ≤ w ∧ w ≤ 10
      · simp (disch := omega) only [r255_0, r255_1, r255_2, r255_3, r255_6, r255_9, r255_12, r255_13, r255_14, r255_15, r255_18, r255_21, r255_24, r255_25, r255_26, r255_27, r255_28, r255_29, r255_32, r255_35, r255_36, r255_38, r255_41, r255_42, r255_43, r255_45, r255_48, r255_49, r255_52, r255_53, r255_56, r255_57, r255_60, r255_61, r255_63, r255_64, r255_65, r255_66, r255_69, r255_70, r255_71, r255_72, r255_75, r255_76, r255_78, r255_79, r255_81, r255_83, r255_84, r255_87, r255_88, r255_90, r255_92, r255_93, r255_96, r255_97, r255_100, r255_102, r255_105, r255_106, r255_108, r255_110, r255_111, r255_114, r255_115, r255_117, r255_119, r255_121, r255_124, r255_126, r255_127, r255_130, r255_132, r255_134, r255_135, r255_136, r255_139, r255_142, r255_145, r255_146, r255_147, r255_149, r255_152, r255_154, r255_155, r255_157, r255_158, r255_159, r255_160, r255_162, r255_163, r255_164, r255_165, r255_166, r255_168, r255_170, r255_171, r255_174, r255_175, r255_176, r255_179, r255_182, r255_185, r255_188, r255_189, r255_190, r255_191, r255_192, r255_195, r255_196, ↓if_pos, ↓if_neg, m_in, m_bad, Option.bind_some, pushR_s]
      · simp (disch := omega) only [r255_0, r255_1, r255_2, r255_3, r255_6, r255_9, r255_12, r255_13, r255_14, r255_15, r255_18, r255_21, r255_24, r255_25, r255_26, r255_27, r255_28, r255_29, r255_32, r255_35, r255_36, r255_38, r255_41, r255_42, r255_43, r255_45, r255_48, r255_49, r255_52, r255_53, r255_56, r255_57, r255_60, r255_61, r255_63, r255_64, r255_65, r255_66, r255_69, r255_70, r255_71, r255_72, r255_75, r255_76, r255_78, r255_79, r255_81, r255_83, r255_84, r255_87, r255_88, r255_90, r255_92, r255_93, r255_96, r255_97, r255_100, r255_102, r255_105, r255_106, r255_108, r255_110, r255_111, r255_114, r255_115, r255_117, r255_119, r255_121, r255_124, r255_126, r255_127, r255_130, r255_132, r255_134, r255_135, r255_136, r255_139, r255_142, r255_145, r255_146, r255_147, r255_149, r255_152, r255_154, r255_155, r255_157, r255_158, r255_159, r255_160, r255_162, r255_163, r255_164, r255_165, r255_166, r255_168, r255_170, r255_171, r255_174, r255_175, r255_176, r255_179, r255_182, r255_185, r255_188, r255_189, r255_190, r255_191, r255_192, r255_195, r255_196, ↓if_pos, ↓if_neg, m_in, m_bad, Option.bind_some, pushR_s]
    · simp (disch := omega) only [r255_0, r255_1, r255_2, r255_3, r255_6, r255_9, r255_12, r255_13, r255_14, r255_15, r255_18, r255_21, r255_24, r255_25, r255_26, r255_27, r255_28, r255_29, r255_32, r255_35, r255_36, r255_38, r255_41, r255_42, r255_43, r255_45, r255_48, r255_49, r255_52, r255_53, r255_56, r255_57, r255_60, r255_61, r255_63, r255_64, r255_65, r255_66, r255_69, r255_70, r255_71, r255_72, r255_75, r255_76, r255_78, r255_79, r255_81, r255_83, r255_84, r255_87, r255_88, r255_90, r255_92, r255_93, r255_96, r255_97, r255_100, r255_102, r255_105, r255_106, r255_108, r255_110, r255_111, r255_114, r255_115, r255_117, r255_119, r255_121, r255_124, r255_126, r255_127, r255_130, r255_132, r255_134, r255_135, r255_136, r255_139, r255_142, r255_145, r255_146, r255_147, r255_149, r255_152, r255_154, r255_155, r255_157, r255_158, r255_159, r255_160, r255_162, r255_163, r255_164, r255_165, r255_166, r255_168, r255_170, r255_171, r255_174, r255_175, r255_176, r255_179, r255_182, r255_185, r255_188, r255_189, r255_190, r255_191, r255_192, r255_195, r255_196, ↓if_pos, ↓if_neg, m_in, m_bad, Option.bind_some, pushR_s]
end
