/-! Numbers of the model: the greatest common divisor. -/
section
variable {d : Nat} {I J K : MM} {v u f s t m p q G X : Int} {k a b : Nat}
theorem gcd_e (h : a % 2 = 0) (h' : b % 2 = 1) : Nat.gcd (a / 2) b = Nat.gcd a b := by
  have hc : Nat.Coprime 2 b := by
    show Nat.gcd 2 b = 1
    rw [Nat.gcd_rec, h']
    rfl
  have e : a = 2 * (a / 2) := by omega
  conv => rhs; rw [e]
  exact (Nat.Coprime.gcd_mul_left_cancel _ hc).symm
theorem gcd_e' (h : b % 2 = 0) (h' : a % 2 = 1) : Nat.gcd a (b / 2) = Nat.gcd a b := by
  rw [Nat.gcd_comm, gcd_e h h', Nat.gcd_comm]
theorem gcd_ee (h : a % 2 = 0) (h' : b % 2 = 0) : Nat.gcd a b = 2 * Nat.gcd (a / 2) (b / 2) := by
  rw [← Nat.gcd_mul_left]
  congr 1 <;> omega
theorem gcd_t (h : a ≤ b) : Nat.gcd a (b - a) = Nat.gcd a b := by
  have e : b = (b - a) + a * 1 := by omega
  conv => rhs; rw [e]
  exact (Nat.gcd_add_mul_left_right _ _ _).symm
theorem ev2 : (if (a : Int) % 2 = 0 then (1 : Int) else 0) = if a % 2 = 0 then 1 else 0 := by
  by_cases h : a % 2 = 0
  · rw [if_pos h, if_pos (by omega)]
  · rw [if_neg h, if_neg (by omega)]
theorem m_gcdG : ∀ (f g : Nat) (J : MM) (t : Int) (w4 : AV), g ≤ f → 0 < g → RP J 4 (g : Int) → (g % 2 = 1 ∨ b % 2 = 1) → ∃ K, ∃ g' : Nat, runs (call (d + 2)) 155 55 [vR 70, vI p, vI q, vI t, w4] [] J = runs (call (d + 2)) 155 71 [vR 70, vI p, vI q, vI t, w4] [] K ∧ RP K 4 (g' : Int) ∧ FrB 4 J K ∧ g' % 2 = 1 ∧ g' ≤ g ∧ Nat.gcd g' b = Nat.gcd g b := by
  intro f
  induction f with
  | zero => intro g J t w4 h1 h2; omega
  | succ f ih =>
    intro g J t w4 h1 h2 hr ho
    have ce := m_isEven (d := d + 1) (s := 4) (by omega) hr
    rw [ev2] at ce
    by_cases he : g % 2 = 0
    · rw [if_pos he] at ce
      obtain ⟨J1, c1, r1, f1⟩ := m_halve (d := d) (s := 4) (by omega) hr
      have e2 : (g : Int) / 2 = ((g / 2 : Nat) : Int) := by omega
      rw [e2] at r1
      have hb : b % 2 = 1 := by omega
      obtain ⟨K, g', c2, r2, f2, o2, l2, q2⟩ := ih (g / 2) J1 t w4 (by omega) (by omega) r1 (Or.inr hb)
      refine ⟨K, g', ?_, r2, f1.trans f2, o2, by omega, q2.trans (gcd_e he hb)⟩
      rw [← c2, r155_55]
      clear ih c2 r1 r2 f1 f2 hr
      simp (disch := omega) only [r155_0, r155_1, r155_2, r155_3, r155_6, r155_7, r155_8, r155_9, r155_12, r155_13, r155_14, r155_15, r155_16, r155_19, r155_22, r155_23, r155_24, r155_27, r155_30, r155_31, r155_32, r155_35, r155_36, r155_37, r155_40, r155_43, r155_46, r155_47, r155_50, r155_51, r155_52, r155_56, r155_57, r155_60, r155_63, r155_64, r155_65, r155_68, r155_72, r155_73, r155_76, r155_79, r155_80, r155_81, r155_84, r155_87, r155_88, r155_89, r155_90, r155_93, r155_96, r155_97, r155_99, r155_100, r155_103, r155_104, r155_105, r155_106, r155_109, r155_110, r155_111, r155_113, r155_116, r155_117, r155_118, r155_119, r155_122, r155_125, r155_126, r155_128, r155_130, r155_131, r155_134, r155_135, r155_136, r155_139, r155_142, r155_145, r155_148, ↓if_pos, ↓if_neg, ce, c1, Option.bind_some, pushR_s, pushR_n]
    · rw [if_neg he] at ce
      refine ⟨J, g, ?_, hr, FrB.refl, by omega, Nat.le_refl _, rfl⟩
      clear ih hr
      simp (disch := omega) only [r155_0, r155_1, r155_2, r155_3, r155_6, r155_7, r155_8, r155_9, r155_12, r155_13, r155_14, r155_15, r155_16, r155_19, r155_22, r155_23, r155_24, r155_27, r155_30, r155_31, r155_32, r155_35, r155_36, r155_37, r155_40, r155_43, r155_46, r155_47, r155_50, r155_51, r155_52, r155_55, r155_56, r155_57, r155_60, r155_63, r155_64, r155_65, r155_68, r155_72, r155_73, r155_76, r155_79, r155_80, r155_81, r155_84, r155_87, r155_88, r155_89, r155_90, r155_93, r155_96, r155_97, r155_99, r155_100, r155_103, r155_104, r155_105, r155_106, r155_109, r155_110, r155_111, r155_113, r155_116, r155_117, r155_118, r155_119, r155_122, r155_125, r155_126, r155_128, r155_130, r155_131, r155_134, r155_135, r155_136, r155_139, r155_142, r155_145, r155_148, ↓if_pos, ↓if_neg, ce, Option.bind_some, pushR_s]
theorem m_gcdH : ∀ (f h : Nat) (J : MM) (t : Int) (w4 : AV), h ≤ f → 0 < h → RP J 5 (h : Int) → a % 2 = 1 → ∃ K, ∃ h' : Nat, runs (call (d + 2)) 155 71 [vR 70, vI p, vI q, vI t, w4] [] J = runs (call (d + 2)) 155 87 [vR 70, vI p, vI q, vI t, w4] [] K ∧ RP K 5 (h' : Int) ∧ FrB 5 J K ∧ h' % 2 = 1 ∧ h' ≤ h ∧ Nat.gcd a h' = Nat.gcd a h := by
  intro f
  induction f with
  | zero => intro h J t w4 h1 h2; omega
  | succ f ih =>
    intro h J t w4 h1 h2 hr ho
    have ce := m_isEven (d := d + 1) (s := 5) (by omega) hr
    rw [ev2] at ce
    by_cases he : h % 2 = 0
    · rw [if_pos he] at ce
      obtain ⟨J1, c1, r1, f1⟩ := m_halve (d := d) (s := 5) (by omega) hr
      have e2 : (h : Int) / 2 = ((h / 2 : Nat) : Int) := by omega
      rw [e2] at r1
      obtain ⟨K, h', c2, r2, f2, o2, l2, q2⟩ := ih (h / 2) J1 t w4 (by omega) (by omega) r1 ho
      refine ⟨K, h', ?_, r2, f1.trans f2, o2, by omega, q2.trans (gcd_e' he ho)⟩
      rw [← c2, r155_71]
      clear ih c2 r1 r2 f1 f2 hr
      simp (disch := omega) only [r155_0, r155_1, r155_2, r155_3, r155_6, r155_7, r155_8, r155_9, r155_12, r155_13, r155_14, r155_15, r155_16, r155_19, r155_22, r155_23, r155_24, r155_27, r155_30, r155_31, r155_32, r155_35, r155_36, r155_37, r155_40, r155_43, r155_46, r155_47, r155_50, r155_51, r155_52, r155_55, r155_56, r155_57, r155_60, r155_63, r155_64, r155_65, r155_68, r155_72, r155_73, r155_76, r155_79, r155_80, r155_81, r155_84, r155_88, r155_89, r155_90, r155_93, r155_96, r155_97, r155_99, r155_100, r155_103, r155_104, r155_105, r155_106, r155_109, r155_110, r155_111, r155_113, r155_116, r155_117, r155_118, r155_119, r155_122, r155_125, r155_126, r155_128, r155_130, r155_131, r155_134, r155_135, r155_136, r155_139, r155_142, r155_145, r155_148, ↓if_pos, ↓if_neg, ce, c1, Option.bind_some, pushR_s, pushR_n]
    · rw [if_neg he] at ce
      refine ⟨J, h, ?_, hr, FrB.refl, by omega, Nat.le_refl _, rfl⟩
      clear ih hr
      simp (disch := omega) only [r155_0, r155_1, r155_2, r155_3, r155_6, r155_7, r155_8, r155_9, r155_12, r155_13, r155_14, r155_15, r155_16, r155_19, r155_22, r155_23, r155_24, r155_27, r155_30, r155_31, r155_32, r155_35, r155_36, r155_37, r155_40, r155_43, r155_46, r155_47, r155_50, r155_51, r155_52, r155_55, r155_56, r155_57, r155_60, r155_63, r155_64, r155_65, r155_68, r155_71, r155_72, r155_73, r155_76, r155_79, r155_80, r155_81, r155_84, r155_88, r155_89, r155_90, r155_93, r155_96, r155_97, r155_99, r155_100, r155_103, r155_104, r155_105, r155_106, r155_109, r155_110, r155_111, r155_113, r155_116, r155_117, r155_118, r155_119, r155_122, r155_125, r155_126, r155_128, r155_130, r155_131, r155_134, r155_135, r155_136, r155_139, r155_142, r155_145, r155_148, ↓if_pos, ↓if_neg, ce, Option.bind_some, pushR_s]
/-- the twos that both have -/
theorem m_gcd2 : ∀ (f g h : Nat) (J : MM) (t : Int) (w4 : AV), g < 2 ^ f → 0 < g → 0 < h → 0 ≤ t → t + f ≤ 1000 → RP J 4 (g : Int) → RP J 5 (h : Int) → ∃ K, ∃ j g' h' : Nat, runs (call (d + 2)) 155 14 [vR 70, vI p, vI q, vI t, w4] [] J = runs (call (d + 2)) 155 46 [vR 70, vI p, vI q, vI (t + j), w4] [] K ∧ RP K 4 (g' : Int) ∧ RP K 5 (h' : Int) ∧ FrSl [4, 5] J K ∧ (g' % 2 = 1 ∨ h' % 2 = 1) ∧ 0 < g' ∧ 0 < h' ∧ 2 ^ j * Nat.gcd g' h' = Nat.gcd g h ∧ j ≤ f := by
  intro f
  induction f with
  | zero => intro g h J t w4 h1 h2; exfalso; rw [Nat.pow_zero] at h1; omega
  | succ f ih =>
    intro g h J t w4 h1 h2 h3 ht htf hr hr'
    have ce := m_isEven (d := d + 1) (s := 4) (by omega) hr
    have ce' := m_isEven (d := d + 1) (s := 5) (by omega) hr'
    rw [ev2] at ce ce'
    by_cases he : g % 2 = 0
    · rw [if_pos he] at ce
      by_cases he' : h % 2 = 0
      · rw [if_pos he'] at ce'
        obtain ⟨J1, c1, r1, f1⟩ := m_halve (d := d) (s := 4) (by omega) hr
        obtain ⟨J2, c2, r2, f2⟩ := m_halve (d := d) (s := 5) (by omega) (hr'.fr f1 (by omega))
        have e2 : (g : Int) / 2 = ((g / 2 : Nat) : Int) := by omega
        have e3 : (h : Int) / 2 = ((h / 2 : Nat) : Int) := by omega
        rw [e2] at r1
        rw [e3] at r2
        obtain ⟨K, j, g', h', c3, r3, r4, f3, o3, l3, l4, q3, j3⟩ := ih (g / 2) (h / 2) J2 (t + 1) w4 (by rw [Nat.pow_succ] at h1; omega) (by omega) (by omega) (by omega) (by omega) (r1.fr f2 (by omega)) r2
        refine ⟨K, j + 1, g', h', ?_, r3, r4, ((f1.q (by simp)).trans (f2.q (by simp))).trans f3, o3, l3, l4, by rw [gcd_ee he he', ← q3, Nat.pow_succ, Nat.mul_comm (2 ^ j) 2, Nat.mul_assoc], by omega⟩
        have et : t + ((j + 1 : Nat) : Int) = t + 1 + j := by omega
        rw [et, ← c3, r155_14]
        clear ih c3 r1 r2 r3 r4 f1 f2 f3 hr hr' q3 h1
        simp (disch := omega) only [r155_0, r155_1, r155_2, r155_3, r155_6, r155_7, r155_8, r155_9, r155_12, r155_13, r155_15, r155_16, r155_19, r155_22, r155_23, r155_24, r155_27, r155_30, r155_31, r155_32, r155_35, r155_36, r155_37, r155_40, r155_43, r155_47, r155_50, r155_51, r155_52, r155_55, r155_56, r155_57, r155_60, r155_63, r155_64, r155_65, r155_68, r155_71, r155_72, r155_73, r155_76, r155_79, r155_80, r155_81, r155_84, r155_87, r155_88, r155_89, r155_90, r155_93, r155_96, r155_97, r155_99, r155_100, r155_103, r155_104, r155_105, r155_106, r155_109, r155_110, r155_111, r155_113, r155_116, r155_117, r155_118, r155_119, r155_122, r155_125, r155_126, r155_128, r155_130, r155_131, r155_134, r155_135, r155_136, r155_139, r155_142, r155_145, r155_148, ↓if_pos, ↓if_neg, ce, ce', c1, c2, Option.bind_some, pushR_s, pushR_n, iadd_eq]
      · rw [if_neg he'] at ce'
        refine ⟨J, 0, g, h, ?_, hr, hr', FrSl.refl, by omega, h2, h3, by rw [Nat.pow_zero, Nat.one_mul], by omega⟩
        clear ih hr hr' h1
        simp (disch := omega) only [r155_0, r155_1, r155_2, r155_3, r155_6, r155_7, r155_8, r155_9, r155_12, r155_13, r155_14, r155_15, r155_16, r155_19, r155_22, r155_23, r155_24, r155_27, r155_30, r155_31, r155_32, r155_35, r155_36, r155_37, r155_40, r155_43, r155_47, r155_50, r155_51, r155_52, r155_55, r155_56, r155_57, r155_60, r155_63, r155_64, r155_65, r155_68, r155_71, r155_72, r155_73, r155_76, r155_79, r155_80, r155_81, r155_84, r155_87, r155_88, r155_89, r155_90, r155_93, r155_96, r155_97, r155_99, r155_100, r155_103, r155_104, r155_105, r155_106, r155_109, r155_110, r155_111, r155_113, r155_116, r155_117, r155_118, r155_119, r155_122, r155_125, r155_126, r155_128, r155_130, r155_131, r155_134, r155_135, r155_136, r155_139, r155_142, r155_145, r155_148, ↓if_pos, ↓if_neg, ce, ce', Option.bind_some, pushR_s]
        simp
    · rw [if_neg he] at ce
      refine ⟨J, 0, g, h, ?_, hr, hr', FrSl.refl, by omega, h2, h3, by rw [Nat.pow_zero, Nat.one_mul], by omega⟩
      clear ih hr hr' h1
      simp (disch := omega) only [r155_0, r155_1, r155_2, r155_3, r155_6, r155_7, r155_8, r155_9, r155_12, r155_13, r155_14, r155_15, r155_16, r155_19, r155_22, r155_23, r155_24, r155_27, r155_30, r155_31, r155_32, r155_35, r155_36, r155_37, r155_40, r155_43, r155_47, r155_50, r155_51, r155_52, r155_55, r155_56, r155_57, r155_60, r155_63, r155_64, r155_65, r155_68, r155_71, r155_72, r155_73, r155_76, r155_79, r155_80, r155_81, r155_84, r155_87, r155_88, r155_89, r155_90, r155_93, r155_96, r155_97, r155_99, r155_100, r155_103, r155_104, r155_105, r155_106, r155_109, r155_110, r155_111, r155_113, r155_116, r155_117, r155_118, r155_119, r155_122, r155_125, r155_126, r155_128, r155_130, r155_131, r155_134, r155_135, r155_136, r155_139, r155_142, r155_145, r155_148, ↓if_pos, ↓if_neg, ce, Option.bind_some, pushR_s]
      simp
theorem m_gcdM : ∀ (f g h : Nat) (J : MM) (t : Int) (w4 : AV), g + h ≤ f → 0 < g → (g % 2 = 1 ∨ h % 2 = 1) → RP J 4 (g : Int) → RP J 5 (h : Int) → ∃ K, runs (call (d + 2)) 155 46 [vR 70, vI p, vI q, vI t, w4] [] J = runs (call (d + 2)) 155 125 [vR 70, vI p, vI q, vI t, w4] [] K ∧ RP K 4 ((Nat.gcd g h : Nat) : Int) ∧ FrSl [4, 5, 6] J K := by
  intro f
  induction f with
  | zero => intro g h J t w4 h1 h2; omega
  | succ f ih =>
    intro g h J t w4 h1 h2 ho hr hr'
    have e5 := hr'.2.1
    have hb5 := lsz_r (v := (h : Int))
    have hz := lsz_0 hr'.1.1
    by_cases h0 : h = 0
    · subst h0
      refine ⟨J, ?_, by rw [Nat.gcd_zero_right]; exact hr, FrSl.refl⟩
      have hz0 := hz.mpr rfl
      rw [hz0] at e5
      clear ih hr hr'
      simp (disch := omega) only [r155_0, r155_1, r155_2, r155_3, r155_6, r155_7, r155_8, r155_9, r155_12, r155_13, r155_14, r155_15, r155_16, r155_19, r155_22, r155_23, r155_24, r155_27, r155_30, r155_31, r155_32, r155_35, r155_36, r155_37, r155_40, r155_43, r155_46, r155_47, r155_50, r155_51, r155_52, r155_55, r155_56, r155_57, r155_60, r155_63, r155_64, r155_65, r155_68, r155_71, r155_72, r155_73, r155_76, r155_79, r155_80, r155_81, r155_84, r155_87, r155_88, r155_89, r155_90, r155_93, r155_96, r155_97, r155_99, r155_100, r155_103, r155_104, r155_105, r155_106, r155_109, r155_110, r155_111, r155_113, r155_116, r155_117, r155_118, r155_119, r155_122, r155_126, r155_128, r155_130, r155_131, r155_134, r155_135, r155_136, r155_139, r155_142, r155_145, r155_148, ↓if_pos, ↓if_neg, e5]
    · have hl : 0 < lsz (h : Int) := by
        have : ¬ lsz (h : Int) = 0 := fun z => h0 (by have := hz.mp z; omega)
        omega
      rw [← e5] at hl
      obtain ⟨J1, g1, c1, r1, f1, o1, l1, q1⟩ := m_gcdG (d := d) (p := p) (q := q) (b := h) g g J t w4 (Nat.le_refl _) h2 hr ho
      obtain ⟨J2, h1', c2, r2, f2, o2, l2, q2⟩ := m_gcdH (d := d) (p := p) (q := q) (a := g1) h h J1 t w4 (Nat.le_refl _) (by omega) (hr'.fr f1 (by omega)) o1
      have r12 := r1.fr f2 (by omega)
      have cc := m_compare (d := d + 1) (s := 4) (t := 5) (by omega) (by omega) r12 r2
      have c12 : runs (call (d + 2)) 155 46 [vR 70, vI p, vI q, vI t, w4] [] J = runs (call (d + 2)) 155 87 [vR 70, vI p, vI q, vI t, w4] [] J2 := by
        rw [← c2, ← c1]
        clear ih c1 c2 r1 r2 f1 f2 hr hr' hz r12 cc
        simp (disch := omega) only [r155_0, r155_1, r155_2, r155_3, r155_6, r155_7, r155_8, r155_9, r155_12, r155_13, r155_14, r155_15, r155_16, r155_19, r155_22, r155_23, r155_24, r155_27, r155_30, r155_31, r155_32, r155_35, r155_36, r155_37, r155_40, r155_43, r155_46, r155_47, r155_50, r155_51, r155_52, r155_56, r155_57, r155_60, r155_63, r155_64, r155_65, r155_68, r155_72, r155_73, r155_76, r155_79, r155_80, r155_81, r155_84, r155_87, r155_88, r155_89, r155_90, r155_93, r155_96, r155_97, r155_99, r155_100, r155_103, r155_104, r155_105, r155_106, r155_109, r155_110, r155_111, r155_113, r155_116, r155_117, r155_118, r155_119, r155_122, r155_125, r155_126, r155_128, r155_130, r155_131, r155_134, r155_135, r155_136, r155_139, r155_142, r155_145, r155_148, ↓if_pos, ↓if_neg]
      rw [c12]
      have g12 : FrSl [4, 5, 6] J J2 := (f1.q (by simp)).trans (f2.q (by simp))
      rcases Nat.lt_or_ge h1' g1 with z | z
      · have ec : cmp (g1 : Int) (h1' : Int) = 1 := by unfold cmp; rw [if_neg (by omega), if_neg (by omega)]
        rw [ec] at cc
        obtain ⟨J3, c3, r3, f3⟩ := m_copy (d := d + 1) (s := 6) (t := 4) (by omega) (by omega) (by omega) r12
        obtain ⟨J4, c4, r4, f4⟩ := m_copy (d := d + 1) (s := 4) (t := 5) (by omega) (by omega) (by omega) (r2.fr f3 (by omega))
        obtain ⟨J5, c5, r5, f5⟩ := m_copy (d := d + 1) (s := 5) (t := 6) (by omega) (by omega) (by omega) (r3.fr f4 (by omega))
        have r45 := r4.fr f5 (by omega)
        obtain ⟨J6, c6, r6, f6⟩ := m_take (d := d) (s := 5) (t := 4) (by omega) (by omega) (by omega) r5 r45 (by omega)
        have eh : (g1 : Int) - (h1' : Int) = ((g1 - h1' : Nat) : Int) := by omega
        rw [eh] at r6
        obtain ⟨K, c7, r7, f7⟩ := ih h1' (g1 - h1') J6 t w4 (by omega) (by omega) (by omega) (r45.fr f6 (by omega)) r6
        rw [gcd_t (by omega), Nat.gcd_comm, q2, q1] at r7
        refine ⟨K, ?_, r7, g12.trans ((f3.q (by simp)).trans ((f4.q (by simp)).trans ((f5.q (by simp)).trans ((f6.q (by simp)).trans f7))))⟩
        rw [← c7]
        clear ih c12 c1 c2 c7 r1 r2 r3 r4 r5 r6 r7 r45 r12 f1 f2 f3 f4 f5 f6 f7 g12 hr hr' hz
        simp (disch := omega) only [r155_0, r155_1, r155_2, r155_3, r155_6, r155_7, r155_8, r155_9, r155_12, r155_13, r155_14, r155_15, r155_16, r155_19, r155_22, r155_23, r155_24, r155_27, r155_30, r155_31, r155_32, r155_35, r155_36, r155_37, r155_40, r155_43, r155_47, r155_50, r155_51, r155_52, r155_55, r155_56, r155_57, r155_60, r155_63, r155_64, r155_65, r155_68, r155_71, r155_72, r155_73, r155_76, r155_79, r155_80, r155_81, r155_84, r155_87, r155_88, r155_89, r155_90, r155_93, r155_96, r155_97, r155_99, r155_100, r155_103, r155_104, r155_105, r155_106, r155_109, r155_110, r155_111, r155_113, r155_116, r155_117, r155_118, r155_119, r155_122, r155_126, r155_128, r155_130, r155_131, r155_134, r155_135, r155_136, r155_139, r155_142, r155_145, r155_148, ↓if_pos, ↓if_neg, cc, c3, c4, c5, c6, Option.bind_some, pushR_s, pushR_n]
      · have ec : ¬ 0 < cmp (g1 : Int) (h1' : Int) := by
          unfold cmp
          split
          · omega
          · split <;> omega
        obtain ⟨J6, c6, r6, f6⟩ := m_take (d := d) (s := 5) (t := 4) (by omega) (by omega) (by omega) r2 r12 (by omega)
        have eh : (h1' : Int) - (g1 : Int) = ((h1' - g1 : Nat) : Int) := by omega
        rw [eh] at r6
        obtain ⟨K, c7, r7, f7⟩ := ih g1 (h1' - g1) J6 t w4 (by omega) (by omega) (by omega) (r12.fr f6 (by omega)) r6
        rw [gcd_t (by omega), q2, q1] at r7
        refine ⟨K, ?_, r7, g12.trans ((f6.q (by simp)).trans f7)⟩
        rw [← c7]
        clear ih c12 c1 c2 c7 r1 r2 r6 r7 r12 f1 f2 f6 f7 g12 hr hr' hz
        generalize cmp (g1 : Int) (h1' : Int) = cv at *
        simp (disch := omega) only [r155_0, r155_1, r155_2, r155_3, r155_6, r155_7, r155_8, r155_9, r155_12, r155_13, r155_14, r155_15, r155_16, r155_19, r155_22, r155_23, r155_24, r155_27, r155_30, r155_31, r155_32, r155_35, r155_36, r155_37, r155_40, r155_43, r155_47, r155_50, r155_51, r155_52, r155_55, r155_56, r155_57, r155_60, r155_63, r155_64, r155_65, r155_68, r155_71, r155_72, r155_73, r155_76, r155_79, r155_80, r155_81, r155_84, r155_87, r155_88, r155_89, r155_90, r155_93, r155_96, r155_97, r155_99, r155_100, r155_103, r155_104, r155_105, r155_106, r155_109, r155_110, r155_111, r155_113, r155_116, r155_117, r155_118, r155_119, r155_122, r155_126, r155_128, r155_130, r155_131, r155_134, r155_135, r155_136, r155_139, r155_142, r155_145, r155_148, ↓if_pos, ↓if_neg, cc, c6, Option.bind_some, pushR_s, pushR_n]
theorem m_gcdT : ∀ (j : Nat) (x i : Int) (J : MM), i + j = t → t ≤ 1000 → 0 ≤ i → RP J 4 x → x * 2 ^ j < 1329227995784915872903807060280344576 → ∃ K, runs (call (d + 2)) 155 128 [vR 70, vI p, vI q, vI t, vI i] [] J = some (none, K) ∧ RP K 4 (x * 2 ^ j) ∧ FrB 4 J K := by
  intro j
  induction j with
  | zero =>
    intro x i J hi ht i0 hr hw
    have : i = t := by omega
    subst this
    refine ⟨J, ?_, by rw [Int.pow_zero, Int.mul_one]; exact hr, FrB.refl⟩
    clear hr hw
    simp (disch := omega) only [r155_0, r155_1, r155_2, r155_3, r155_6, r155_7, r155_8, r155_9, r155_12, r155_13, r155_14, r155_15, r155_16, r155_19, r155_22, r155_23, r155_24, r155_27, r155_30, r155_31, r155_32, r155_35, r155_36, r155_37, r155_40, r155_43, r155_46, r155_47, r155_50, r155_51, r155_52, r155_55, r155_56, r155_57, r155_60, r155_63, r155_64, r155_65, r155_68, r155_71, r155_72, r155_73, r155_76, r155_79, r155_80, r155_81, r155_84, r155_87, r155_88, r155_89, r155_90, r155_93, r155_96, r155_97, r155_99, r155_100, r155_103, r155_104, r155_105, r155_106, r155_109, r155_110, r155_111, r155_113, r155_116, r155_117, r155_118, r155_119, r155_122, r155_125, r155_126, r155_128, r155_130, r155_131, r155_134, r155_135, r155_136, r155_139, r155_142, r155_145, r155_148, ↓if_pos, ↓if_neg]
  | succ j ih =>
    intro x i J hi ht i0 hr hw
    have ex : x * 2 ^ (j + 1) = x * 2 * 2 ^ j := by rw [Int.pow_succ, Int.mul_comm (2 ^ j) 2, Int.mul_assoc]
    rw [ex] at hw
    have hx0 : 0 ≤ x := hr.1.1
    have hx : x * 2 < 1329227995784915872903807060280344576 := by
      have hp : (0 : Int) < 2 ^ j := Int.pow_pos (by decide)
      have : x * 2 * 1 ≤ x * 2 * 2 ^ j := Int.mul_le_mul_of_nonneg_left (by omega) (by omega)
      omega
    obtain ⟨J1, c1, r1, f1⟩ := m_times (d := d) (s := 4) (f := 2) (by omega) (by omega) hr hx
    obtain ⟨K, c2, r2, f2⟩ := ih (x * 2) (i + 1) J1 (by omega) ht (by omega) r1 hw
    refine ⟨K, ?_, by rw [ex]; exact r2, f1.trans f2⟩
    rw [← c2, r155_128]
    clear ih c2 r1 r2 f1 f2 hr hw hx ex
    simp (disch := omega) only [r155_0, r155_1, r155_2, r155_3, r155_6, r155_7, r155_8, r155_9, r155_12, r155_13, r155_14, r155_15, r155_16, r155_19, r155_22, r155_23, r155_24, r155_27, r155_30, r155_31, r155_32, r155_35, r155_36, r155_37, r155_40, r155_43, r155_46, r155_47, r155_50, r155_51, r155_52, r155_55, r155_56, r155_57, r155_60, r155_63, r155_64, r155_65, r155_68, r155_71, r155_72, r155_73, r155_76, r155_79, r155_80, r155_81, r155_84, r155_87, r155_88, r155_89, r155_90, r155_93, r155_96, r155_97, r155_99, r155_100, r155_103, r155_104, r155_105, r155_106, r155_109, r155_110, r155_111, r155_113, r155_116, r155_117, r155_118, r155_119, r155_122, r155_125, r155_126, r155_130, r155_131, r155_134, r155_135, r155_136, r155_139, r155_142, r155_145, r155_148, ↓if_pos, ↓if_neg, c1, Option.bind_some, pushR_n, iadd_eq]
theorem m_findDivisor (hp : 2 ≤ p ∧ p ≤ 3) (hq : 2 ≤ q ∧ q ≤ 3) (ha : RP I p (a : Int)) (hb : RP I q (b : Int)) (a0 : 0 < a) (b0 : 0 < b) : ∃ K, call (d + 3) 155 [vR 70, vI p, vI q] I = some (none, K) ∧ RP K 4 ((Nat.gcd a b : Nat) : Int) ∧ FrSl [4, 5, 6] I K := by
  obtain ⟨J1, c1, r1, f1⟩ := m_copy (d := d + 1) (s := 4) (t := p) (by omega) (by omega) (by omega) ha
  obtain ⟨J2, c2, r2, f2⟩ := m_copy (d := d + 1) (s := 5) (t := q) (by omega) (by omega) (by omega) (hb.fr f1 (by omega))
  have h120 : (2 : Nat) ^ 120 = 1329227995784915872903807060280344576 := by decide
  have hab := ha.1.2
  obtain ⟨J3, j, g, h, c3, r3, r3', f3, o3, g3, h3, q3, j3⟩ := m_gcd2 (d := d) (p := p) (q := q) 120 a b J2 0 (vR 0) (by omega) a0 b0 (by omega) (by omega) (r1.fr f2 (by omega)) r2
  obtain ⟨J4, c4, r4, f4⟩ := m_gcdM (d := d) (p := p) (q := q) (g + h) g h J3 j (vR 0) (Nat.le_refl _) g3 o3 r3 r3'
  have hgl : Nat.gcd a b ≤ a := Nat.le_of_dvd a0 (Nat.gcd_dvd_left a b)
  have ev : ((Nat.gcd g h : Nat) : Int) * 2 ^ j = ((Nat.gcd a b : Nat) : Int) := by
    rw [← q3, Nat.mul_comm]
    simp
  obtain ⟨K, c5, r5, f5⟩ := m_gcdT (d := d) (p := p) (q := q) (t := (j : Int)) j ((Nat.gcd g h : Nat) : Int) 0 J4 (by omega) (by omega) (by omega) r4 (by rw [ev]; omega)
  rw [ev] at r5
  refine ⟨K, ?_, r5, (f1.q (by simp)).trans ((f2.q (by simp)).trans ((f3.sub (by simp)).trans (f4.trans (f5.q (by simp)))))⟩
  rw [← c5, en155]
  rw [show runs (call (d + 2)) 155 128 [vR 70, vI p, vI q, vI (j : Int), vI 0] [] J4 = runs (call (d + 2)) 155 125 [vR 70, vI p, vI q, vI (j : Int), vR 0] [] J4 by
    clear c1 c2 c3 c4 c5 r1 r2 r3 r3' r4 r5 f1 f2 f3 f4 f5 ha hb q3 h120 hab hgl ev
    simp (disch := omega) only [r155_0, r155_1, r155_2, r155_3, r155_6, r155_7, r155_8, r155_9, r155_12, r155_13, r155_14, r155_15, r155_16, r155_19, r155_22, r155_23, r155_24, r155_27, r155_30, r155_31, r155_32, r155_35, r155_36, r155_37, r155_40, r155_43, r155_46, r155_47, r155_50, r155_51, r155_52, r155_55, r155_56, r155_57, r155_60, r155_63, r155_64, r155_65, r155_68, r155_71, r155_72, r155_73, r155_76, r155_79, r155_80, r155_81, r155_84, r155_87, r155_88, r155_89, r155_90, r155_93, r155_96, r155_97, r155_99, r155_100, r155_103, r155_104, r155_105, r155_106, r155_109, r155_110, r155_111, r155_113, r155_116, r155_117, r155_118, r155_119, r155_122, r155_125, r155_126, r155_130, r155_131, r155_134, r155_135, r155_136, r155_139, r155_142, r155_145, r155_148]]
  rw [Int.zero_add] at c3
  rw [← c4, ← c3]
  clear c3 c4 c5 r1 r2 r3 r3' r4 r5 f1 f2 f3 f4 f5 ha hb q3 h120 hab hgl ev
  simp (disch := omega) only [r155_0, r155_1, r155_2, r155_3, r155_6, r155_7, r155_8, r155_9, r155_12, r155_13, r155_15, r155_16, r155_19, r155_22, r155_23, r155_24, r155_27, r155_30, r155_31, r155_32, r155_35, r155_36, r155_37, r155_40, r155_43, r155_47, r155_50, r155_51, r155_52, r155_55, r155_56, r155_57, r155_60, r155_63, r155_64, r155_65, r155_68, r155_71, r155_72, r155_73, r155_76, r155_79, r155_80, r155_81, r155_84, r155_87, r155_88, r155_89, r155_90, r155_93, r155_96, r155_97, r155_99, r155_100, r155_103, r155_104, r155_105, r155_106, r155_109, r155_110, r155_111, r155_113, r155_116, r155_117, r155_118, r155_119, r155_122, r155_126, r155_130, r155_131, r155_134, r155_135, r155_136, r155_139, r155_142, r155_145, r155_148, c1, c2, Option.bind_some, pushR_n]
end
