/-! The rule of the class: its steps are worked by a pile. -/
def psh (v : Int) (st : List Int) : List Int := if st.length < 40 then v :: st else st
def jn (c a b : Int) : Int :=
  if c = 124 then (if a ≠ 0 ∨ b ≠ 0 then 1 else 0)
  else if c = 38 then (if a ≠ 0 ∧ b ≠ 0 then 1 else 0)
  else if c = 60 then (if a < b then 1 else 0)
  else if c = 62 then (if b < a then 1 else 0)
  else if c = 61 then (if a = b then 1 else 0)
  else if c = 43 then ladd a b
  else if c = 45 then lsub a b
  else if c = 42 then lmul a b
  else if b = 0 then 0 else ldiv a b
def apS (L : Int → Int) (x : Int) (st : List Int) : List Int :=
  if 0 ≤ x then psh x st
  else if isS (ineg x) = true then psh (L (ineg x)) st
  else if x = -33 then psh (if st.headD 0 = 0 then 1 else 0) st.tail
  else if x = -126 then psh (lneg (st.headD 0)) st.tail
  else psh (jn (ineg x) (st.tail.headD 0) (st.headD 0)) st.tail.tail
def evS (L : Int → Int) : List Int → List Int
  | [] => []
  | x :: l => apS L x (evS L l)
def KS (J : MM) (st : List Int) : Prop := J 21 5 = st.length ∧ st.length ≤ 40 ∧ SK (J 24) st
def FrK (I J : MM) : Prop := ∀ a i, a ≠ 24 → ¬ (a = 21 ∧ i = 5) → J a i = I a i
theorem FrK.trans {I J K : MM} (f : FrK I J) (f' : FrK J K) : FrK I K := fun a i h h' => (f' a i h h').trans (f a i h h')
theorem FrK.refl {I : MM} : FrK I I := fun _ _ _ _ => rfl
theorem FrK.F {I J : MM} (f : FrK I J) : FrF I J := fun a i _ h h' => f a i h (by omega)
def LX (J : MM) (c : Int) : Int := if c = 97 then J 35 0 else if c = 110 then J 35 1 else if c = 99 then J 35 2 else if c = 98 then J 35 3 else if c = 107 then J 35 4 else J 35 5
section
variable {d : Nat} {I J K : MM} {r : Int → Int} {p : PS} {c i k x a b n o v : Int} {st : List Int}
theorem x_push (hK : KS I st) : ∃ J, call (d + 1) 79 [vR 21, vL v] I = some (none, J) ∧ KS J (psh v st) ∧ FrK I J := by
  obtain ⟨h5, hl, hS⟩ := hK
  rw [en79]
  unfold psh
  by_cases he : st.length < 40
  · rw [if_pos he]
    refine ⟨mset (mset I 24 st.length v) 21 5 (st.length + 1), ?_, ⟨?_, ?_, ?_, ?_⟩, fun a i h1 h2 => ?_⟩
    · simp (disch := omega) only [r79_0, r79_1, r79_4, r79_6, r79_9, r79_10, r79_13, r79_14, r79_17, r79_18, r79_19, r79_20, r79_21, r79_24, r79_25, r79_26, r79_29, ↓if_pos, ↓if_neg, h5, mset_at, iadd_eq]
    · rw [mset_at, if_pos ⟨rfl, rfl⟩]; simp
    · simp only [List.length_cons]; omega
    · rw [mset_at, if_neg (by omega), mset_at, if_pos ⟨rfl, rfl⟩]
    · exact SK.cong (fun i i0 i1 => by rw [mset_at, if_neg (by omega), mset_at, if_neg (by omega)]) hS
    · rw [mset_at, if_neg (by omega), mset_at, if_neg (by omega)]
  · rw [if_neg he]
    refine ⟨I, ?_, ⟨h5, hl, hS⟩, FrK.refl⟩
    simp (disch := omega) only [r79_0, r79_1, r79_4, r79_6, r79_9, r79_10, r79_13, r79_14, r79_17, r79_18, r79_19, r79_20, r79_21, r79_24, r79_25, r79_26, r79_29, ↓if_pos, ↓if_neg, h5]
theorem x_pop (hK : KS I st) : ∃ J, call (d + 1) 80 [vR 21] I = some (some (vL (st.headD 0)), J) ∧ KS J st.tail ∧ FrK I J := by
  obtain ⟨h5, hl, hS⟩ := hK
  rw [en80]
  cases st with
  | nil =>
    have h5' : I 21 5 = 0 := h5
    refine ⟨I, ?_, ⟨h5, hl, hS⟩, FrK.refl⟩
    simp (disch := omega) only [r80_0, r80_1, r80_4, r80_5, r80_8, r80_9, r80_12, r80_14, r80_17, r80_18, r80_19, r80_20, r80_21, r80_24, r80_25, r80_26, r80_29, r80_30, r80_33, r80_34, r80_37, r80_38, ↓if_pos, ↓if_neg, h5']
    rfl
  | cons y l =>
    have h5' : I 21 5 = (l.length : Int) + 1 := by rw [h5]; simp
    have hl' : l.length ≤ 39 := by simp only [List.length_cons] at hl; omega
    have hy : I 24 l.length = y := hS.1
    refine ⟨mset I 21 5 l.length, ?_, ⟨?_, ?_, ?_⟩, fun a i h1 h2 => ?_⟩
    · have e1 : (l.length : Int) + 1 - 1 = l.length := by omega
      simp (disch := omega) only [r80_0, r80_1, r80_4, r80_5, r80_8, r80_9, r80_12, r80_14, r80_17, r80_18, r80_19, r80_20, r80_21, r80_24, r80_25, r80_26, r80_29, r80_30, r80_33, r80_34, r80_37, r80_38, ↓if_pos, ↓if_neg, h5', isub_eq, e1, mset_at, hy]
      rfl
    · rw [mset_at, if_pos ⟨rfl, rfl⟩]; rfl
    · show l.length ≤ 40; omega
    · exact SK.cong (fun i i0 i1 => by rw [mset_at, if_neg (by omega)]) hS.2
    · rw [mset_at, if_neg (by omega)]
theorem x_seen (hc : isS c = true) : call (d + 1) 95 [vR 35, vI c] I = some (some (vI (LX I c)), I) := by
  have h := of_decide_eq_true hc
  rw [en95]
  unfold LX
  rcases h with rfl | rfl | rfl | rfl | rfl | rfl <;> simp (disch := omega) only [r95_0, r95_1, r95_1a, r95_1b, r95_1c, r95_1d, r95_1e, r95_1f, r95_1g, r95_1h, r95_1i, r95_1j, r95_1k, r95_1l, r95_1m, r95_1n, r95_72, r95_73, r95_76, r95_77, r95_78, r95_81, r95_82, r95_83, r95_86, r95_87, r95_88, r95_91, r95_92, r95_93, r95_96, r95_97, r95_98, r95_101, ↓if_pos, ↓if_neg]
theorem x_joined : call (d + 1) 81 [vR 21, vI c, vL a, vL b] I = some (some (vL (jn c a b)), I) := by
  rw [en81]
  unfold jn
  by_cases h1 : c = 124
  · subst h1
    by_cases ha : a = 0
    · by_cases hb : b = 0 <;> simp (disch := omega) only [r81_0, r81_1, r81_1a, r81_1b, r81_1c, r81_1d, r81_1e, r81_1f, r81_1g, r81_1h, r81_76, r81_77, r81_78, r81_79, r81_82, r81_84, r81_85, r81_86, r81_89, r81_90, r81_93, r81_94, r81_95, r81_96, r81_97, r81_98, r81_101, r81_103, r81_104, r81_105, r81_108, r81_109, r81_112, r81_113, r81_114, r81_115, r81_117, r81_118, r81_121, r81_122, r81_125, r81_126, r81_127, r81_128, r81_130, r81_131, r81_134, r81_135, r81_138, r81_139, r81_140, r81_141, r81_143, r81_144, r81_147, r81_148, r81_151, r81_152, r81_153, r81_154, r81_156, r81_157, r81_158, r81_159, r81_161, r81_162, r81_163, r81_164, r81_166, r81_167, r81_168, r81_170, r81_171, r81_172, r81_175, r81_176, r81_179, r81_180, r81_182, r81_183, ↓if_pos, ↓if_neg]
    · simp (disch := omega) only [r81_0, r81_1, r81_1a, r81_1b, r81_1c, r81_1d, r81_1e, r81_1f, r81_1g, r81_1h, r81_76, r81_77, r81_78, r81_79, r81_82, r81_84, r81_85, r81_86, r81_89, r81_90, r81_93, r81_94, r81_95, r81_96, r81_97, r81_98, r81_101, r81_103, r81_104, r81_105, r81_108, r81_109, r81_112, r81_113, r81_114, r81_115, r81_117, r81_118, r81_121, r81_122, r81_125, r81_126, r81_127, r81_128, r81_130, r81_131, r81_134, r81_135, r81_138, r81_139, r81_140, r81_141, r81_143, r81_144, r81_147, r81_148, r81_151, r81_152, r81_153, r81_154, r81_156, r81_157, r81_158, r81_159, r81_161, r81_162, r81_163, r81_164, r81_166, r81_167, r81_168, r81_170, r81_171, r81_172, r81_175, r81_176, r81_179, r81_180, r81_182, r81_183, ↓if_pos, ↓if_neg]
  by_cases h2 : c = 38
  · subst h2
    by_cases ha : a = 0
    · simp (disch := omega) only [r81_0, r81_1, r81_1a, r81_1b, r81_1c, r81_1d, r81_1e, r81_1f, r81_1g, r81_1h, r81_76, r81_77, r81_78, r81_79, r81_82, r81_84, r81_85, r81_86, r81_89, r81_90, r81_93, r81_94, r81_95, r81_96, r81_97, r81_98, r81_101, r81_103, r81_104, r81_105, r81_108, r81_109, r81_112, r81_113, r81_114, r81_115, r81_117, r81_118, r81_121, r81_122, r81_125, r81_126, r81_127, r81_128, r81_130, r81_131, r81_134, r81_135, r81_138, r81_139, r81_140, r81_141, r81_143, r81_144, r81_147, r81_148, r81_151, r81_152, r81_153, r81_154, r81_156, r81_157, r81_158, r81_159, r81_161, r81_162, r81_163, r81_164, r81_166, r81_167, r81_168, r81_170, r81_171, r81_172, r81_175, r81_176, r81_179, r81_180, r81_182, r81_183, ↓if_pos, ↓if_neg]
    · by_cases hb : b = 0 <;> simp (disch := omega) only [r81_0, r81_1, r81_1a, r81_1b, r81_1c, r81_1d, r81_1e, r81_1f, r81_1g, r81_1h, r81_76, r81_77, r81_78, r81_79, r81_82, r81_84, r81_85, r81_86, r81_89, r81_90, r81_93, r81_94, r81_95, r81_96, r81_97, r81_98, r81_101, r81_103, r81_104, r81_105, r81_108, r81_109, r81_112, r81_113, r81_114, r81_115, r81_117, r81_118, r81_121, r81_122, r81_125, r81_126, r81_127, r81_128, r81_130, r81_131, r81_134, r81_135, r81_138, r81_139, r81_140, r81_141, r81_143, r81_144, r81_147, r81_148, r81_151, r81_152, r81_153, r81_154, r81_156, r81_157, r81_158, r81_159, r81_161, r81_162, r81_163, r81_164, r81_166, r81_167, r81_168, r81_170, r81_171, r81_172, r81_175, r81_176, r81_179, r81_180, r81_182, r81_183, ↓if_pos, ↓if_neg]
  by_cases h3 : c = 60
  · subst h3
    by_cases ha : a < b <;> simp (disch := omega) only [r81_0, r81_1, r81_1a, r81_1b, r81_1c, r81_1d, r81_1e, r81_1f, r81_1g, r81_1h, r81_76, r81_77, r81_78, r81_79, r81_82, r81_84, r81_85, r81_86, r81_89, r81_90, r81_93, r81_94, r81_95, r81_96, r81_97, r81_98, r81_101, r81_103, r81_104, r81_105, r81_108, r81_109, r81_112, r81_113, r81_114, r81_115, r81_117, r81_118, r81_121, r81_122, r81_125, r81_126, r81_127, r81_128, r81_130, r81_131, r81_134, r81_135, r81_138, r81_139, r81_140, r81_141, r81_143, r81_144, r81_147, r81_148, r81_151, r81_152, r81_153, r81_154, r81_156, r81_157, r81_158, r81_159, r81_161, r81_162, r81_163, r81_164, r81_166, r81_167, r81_168, r81_170, r81_171, r81_172, r81_175, r81_176, r81_179, r81_180, r81_182, r81_183, ↓if_pos, ↓if_neg]
  by_cases h4 : c = 62
  · subst h4
    by_cases ha : b < a <;> simp (disch := omega) only [r81_0, r81_1, r81_1a, r81_1b, r81_1c, r81_1d, r81_1e, r81_1f, r81_1g, r81_1h, r81_76, r81_77, r81_78, r81_79, r81_82, r81_84, r81_85, r81_86, r81_89, r81_90, r81_93, r81_94, r81_95, r81_96, r81_97, r81_98, r81_101, r81_103, r81_104, r81_105, r81_108, r81_109, r81_112, r81_113, r81_114, r81_115, r81_117, r81_118, r81_121, r81_122, r81_125, r81_126, r81_127, r81_128, r81_130, r81_131, r81_134, r81_135, r81_138, r81_139, r81_140, r81_141, r81_143, r81_144, r81_147, r81_148, r81_151, r81_152, r81_153, r81_154, r81_156, r81_157, r81_158, r81_159, r81_161, r81_162, r81_163, r81_164, r81_166, r81_167, r81_168, r81_170, r81_171, r81_172, r81_175, r81_176, r81_179, r81_180, r81_182, r81_183, ↓if_pos, ↓if_neg]
  by_cases h5 : c = 61
  · subst h5
    by_cases ha : a = b <;> simp (disch := omega) only [r81_0, r81_1, r81_1a, r81_1b, r81_1c, r81_1d, r81_1e, r81_1f, r81_1g, r81_1h, r81_76, r81_77, r81_78, r81_79, r81_82, r81_84, r81_85, r81_86, r81_89, r81_90, r81_93, r81_94, r81_95, r81_96, r81_97, r81_98, r81_101, r81_103, r81_104, r81_105, r81_108, r81_109, r81_112, r81_113, r81_114, r81_115, r81_117, r81_118, r81_121, r81_122, r81_125, r81_126, r81_127, r81_128, r81_130, r81_131, r81_134, r81_135, r81_138, r81_139, r81_140, r81_141, r81_143, r81_144, r81_147, r81_148, r81_151, r81_152, r81_153, r81_154, r81_156, r81_157, r81_158, r81_159, r81_161, r81_162, r81_163, r81_164, r81_166, r81_167, r81_168, r81_170, r81_171, r81_172, r81_175, r81_176, r81_179, r81_180, r81_182, r81_183, ↓if_pos, ↓if_neg]
  by_cases h6 : c = 43
  · subst h6; simp (disch := omega) only [r81_0, r81_1, r81_1a, r81_1b, r81_1c, r81_1d, r81_1e, r81_1f, r81_1g, r81_1h, r81_76, r81_77, r81_78, r81_79, r81_82, r81_84, r81_85, r81_86, r81_89, r81_90, r81_93, r81_94, r81_95, r81_96, r81_97, r81_98, r81_101, r81_103, r81_104, r81_105, r81_108, r81_109, r81_112, r81_113, r81_114, r81_115, r81_117, r81_118, r81_121, r81_122, r81_125, r81_126, r81_127, r81_128, r81_130, r81_131, r81_134, r81_135, r81_138, r81_139, r81_140, r81_141, r81_143, r81_144, r81_147, r81_148, r81_151, r81_152, r81_153, r81_154, r81_156, r81_157, r81_158, r81_159, r81_161, r81_162, r81_163, r81_164, r81_166, r81_167, r81_168, r81_170, r81_171, r81_172, r81_175, r81_176, r81_179, r81_180, r81_182, r81_183, ↓if_pos, ↓if_neg]
  by_cases h7 : c = 45
  · subst h7; simp (disch := omega) only [r81_0, r81_1, r81_1a, r81_1b, r81_1c, r81_1d, r81_1e, r81_1f, r81_1g, r81_1h, r81_76, r81_77, r81_78, r81_79, r81_82, r81_84, r81_85, r81_86, r81_89, r81_90, r81_93, r81_94, r81_95, r81_96, r81_97, r81_98, r81_101, r81_103, r81_104, r81_105, r81_108, r81_109, r81_112, r81_113, r81_114, r81_115, r81_117, r81_118, r81_121, r81_122, r81_125, r81_126, r81_127, r81_128, r81_130, r81_131, r81_134, r81_135, r81_138, r81_139, r81_140, r81_141, r81_143, r81_144, r81_147, r81_148, r81_151, r81_152, r81_153, r81_154, r81_156, r81_157, r81_158, r81_159, r81_161, r81_162, r81_163, r81_164, r81_166, r81_167, r81_168, r81_170, r81_171, r81_172, r81_175, r81_176, r81_179, r81_180, r81_182, r81_183, ↓if_pos, ↓if_neg]
  by_cases h8 : c = 42
  · subst h8; simp (disch := omega) only [r81_0, r81_1, r81_1a, r81_1b, r81_1c, r81_1d, r81_1e, r81_1f, r81_1g, r81_1h, r81_76, r81_77, r81_78, r81_79, r81_82, r81_84, r81_85, r81_86, r81_89, r81_90, r81_93, r81_94, r81_95, r81_96, r81_97, r81_98, r81_101, r81_103, r81_104, r81_105, r81_108, r81_109, r81_112, r81_113, r81_114, r81_115, r81_117, r81_118, r81_121, r81_122, r81_125, r81_126, r81_127, r81_128, r81_130, r81_131, r81_134, r81_135, r81_138, r81_139, r81_140, r81_141, r81_143, r81_144, r81_147, r81_148, r81_151, r81_152, r81_153, r81_154, r81_156, r81_157, r81_158, r81_159, r81_161, r81_162, r81_163, r81_164, r81_166, r81_167, r81_168, r81_170, r81_171, r81_172, r81_175, r81_176, r81_179, r81_180, r81_182, r81_183, ↓if_pos, ↓if_neg]
  by_cases hb : b = 0 <;> simp (disch := omega) only [r81_0, r81_1, r81_1a, r81_1b, r81_1c, r81_1d, r81_1e, r81_1f, r81_1g, r81_1h, r81_76, r81_77, r81_78, r81_79, r81_82, r81_84, r81_85, r81_86, r81_89, r81_90, r81_93, r81_94, r81_95, r81_96, r81_97, r81_98, r81_101, r81_103, r81_104, r81_105, r81_108, r81_109, r81_112, r81_113, r81_114, r81_115, r81_117, r81_118, r81_121, r81_122, r81_125, r81_126, r81_127, r81_128, r81_130, r81_131, r81_134, r81_135, r81_138, r81_139, r81_140, r81_141, r81_143, r81_144, r81_147, r81_148, r81_151, r81_152, r81_153, r81_154, r81_156, r81_157, r81_158, r81_159, r81_161, r81_162, r81_163, r81_164, r81_166, r81_167, r81_168, r81_170, r81_171, r81_172, r81_175, r81_176, r81_179, r81_180, r81_182, r81_183, ↓if_pos, ↓if_neg]
theorem SK_at {f : Int → Int} : ∀ {A : List Int} {x : Int} {B : List Int}, SK f (A ++ x :: B) → f B.length = x
  | [], _, _, h => h.1
  | _ :: A, _, _, h => SK_at (A := A) h.2
theorem x_step (hx : J 23 n = x) (hn : 0 ≤ n ∧ n < J 21 3 ∧ n < 40) (hK : KS J st) (w3 w4 w5 : AV) : ∃ K u3 u4 u5, runs (call (d + 2)) 78 7 [vR 21, vR 35, vI n, w3, w4, w5] [] J = runs (call (d + 2)) 78 7 [vR 21, vR 35, vI (n + 1), u3, u4, u5] [] K ∧ KS K (apS (LX J) x st) ∧ FrK J K := by
  unfold apS
  by_cases h1 : 0 ≤ x
  · rw [if_pos h1]
    obtain ⟨K, c1, k1, f1⟩ := x_push (d := d + 1) (v := x) hK
    refine ⟨K, vI x, w4, w5, ?_, k1, f1⟩
    rw [r78_7]
    clear hK k1
    simp (disch := omega) only [r78_0, r78_1, r78_2, r78_5, r78_6, r78_8, r78_9, r78_12, r78_15, r78_16, r78_18, r78_21, r78_22, r78_25, r78_26, r78_27, r78_28, r78_29, r78_32, r78_33, r78_34, r78_35, r78_38, r78_41, r78_42, r78_43, r78_44, r78_47, r78_50, r78_51, r78_52, r78_53, r78_54, r78_57, r78_58, r78_61, r78_64, r78_65, r78_67, r78_70, r78_71, r78_72, r78_75, r78_76, r78_77, r78_80, r78_81, r78_84, r78_85, r78_88, r78_91, r78_92, r78_94, r78_97, r78_98, r78_99, r78_102, r78_103, r78_106, r78_109, r78_110, r78_113, r78_115, r78_116, r78_117, r78_118, r78_119, r78_120, r78_123, r78_125, r78_128, r78_131, r78_134, r78_137, r78_138, r78_141, ↓if_pos, ↓if_neg, hx, c1, iadd_eq, Option.bind_some, pushR_s, pushR_n]
  · rw [if_neg h1]
    have hs := x_isSeen (d := d + 1) (I := J) (c := ineg x)
    by_cases h2 : isS (ineg x) = true
    · rw [if_pos h2] at hs ⊢
      have hv := x_seen (d := d + 1) (I := J) h2
      obtain ⟨K, c1, k1, f1⟩ := x_push (d := d + 1) (v := LX J (ineg x)) hK
      refine ⟨K, vI x, w4, w5, ?_, k1, f1⟩
      rw [r78_7]
      clear hK k1
      simp (disch := omega) only [r78_0, r78_1, r78_2, r78_5, r78_6, r78_8, r78_9, r78_12, r78_15, r78_16, r78_18, r78_21, r78_22, r78_25, r78_26, r78_27, r78_28, r78_29, r78_32, r78_33, r78_34, r78_35, r78_38, r78_41, r78_42, r78_43, r78_44, r78_47, r78_50, r78_51, r78_52, r78_53, r78_54, r78_57, r78_58, r78_61, r78_64, r78_65, r78_67, r78_70, r78_71, r78_72, r78_75, r78_76, r78_77, r78_80, r78_81, r78_84, r78_85, r78_88, r78_91, r78_92, r78_94, r78_97, r78_98, r78_99, r78_102, r78_103, r78_106, r78_109, r78_110, r78_113, r78_115, r78_116, r78_117, r78_118, r78_119, r78_120, r78_123, r78_125, r78_128, r78_131, r78_134, r78_137, r78_138, r78_141, ↓if_pos, ↓if_neg, hx, hs, hv, c1, iadd_eq, Option.bind_some, pushR_s, pushR_n]
    · rw [if_neg h2] at hs ⊢
      obtain ⟨K1, c1, k1, f1⟩ := x_pop (d := d + 1) hK
      by_cases h3 : x = -33
      · rw [if_pos h3]
        obtain ⟨K, c2, k2, f2⟩ := x_push (d := d + 1) (v := if st.headD 0 = 0 then 1 else 0) k1
        refine ⟨K, vI x, w4, w5, ?_, k2, f1.trans f2⟩
        rw [r78_7]
        clear hK k1 k2
        generalize st.headD 0 = y at *
        by_cases hy : y = 0
        · rw [if_pos hy] at c2
          simp (disch := omega) only [r78_0, r78_1, r78_2, r78_5, r78_6, r78_8, r78_9, r78_12, r78_15, r78_16, r78_18, r78_21, r78_22, r78_25, r78_26, r78_27, r78_28, r78_29, r78_32, r78_33, r78_34, r78_35, r78_38, r78_41, r78_42, r78_43, r78_44, r78_47, r78_50, r78_51, r78_52, r78_53, r78_54, r78_57, r78_58, r78_61, r78_64, r78_65, r78_67, r78_70, r78_71, r78_72, r78_75, r78_76, r78_77, r78_80, r78_81, r78_84, r78_85, r78_88, r78_91, r78_92, r78_94, r78_97, r78_98, r78_99, r78_102, r78_103, r78_106, r78_109, r78_110, r78_113, r78_115, r78_116, r78_117, r78_118, r78_119, r78_120, r78_123, r78_125, r78_128, r78_131, r78_134, r78_137, r78_138, r78_141, ↓if_pos, ↓if_neg, hx, hs, c1, c2, iadd_eq, Option.bind_some, pushR_s, pushR_n]
        · rw [if_neg hy] at c2
          simp (disch := omega) only [r78_0, r78_1, r78_2, r78_5, r78_6, r78_8, r78_9, r78_12, r78_15, r78_16, r78_18, r78_21, r78_22, r78_25, r78_26, r78_27, r78_28, r78_29, r78_32, r78_33, r78_34, r78_35, r78_38, r78_41, r78_42, r78_43, r78_44, r78_47, r78_50, r78_51, r78_52, r78_53, r78_54, r78_57, r78_58, r78_61, r78_64, r78_65, r78_67, r78_70, r78_71, r78_72, r78_75, r78_76, r78_77, r78_80, r78_81, r78_84, r78_85, r78_88, r78_91, r78_92, r78_94, r78_97, r78_98, r78_99, r78_102, r78_103, r78_106, r78_109, r78_110, r78_113, r78_115, r78_116, r78_117, r78_118, r78_119, r78_120, r78_123, r78_125, r78_128, r78_131, r78_134, r78_137, r78_138, r78_141, ↓if_pos, ↓if_neg, hx, hs, c1, c2, iadd_eq, Option.bind_some, pushR_s, pushR_n]
      · rw [if_neg h3]
        by_cases h4 : x = -126
        · rw [if_pos h4]
          obtain ⟨K, c2, k2, f2⟩ := x_push (d := d + 1) (v := lneg (st.headD 0)) k1
          refine ⟨K, vI x, w4, w5, ?_, k2, f1.trans f2⟩
          rw [r78_7]
          clear hK k1 k2
          simp (disch := omega) only [r78_0, r78_1, r78_2, r78_5, r78_6, r78_8, r78_9, r78_12, r78_15, r78_16, r78_18, r78_21, r78_22, r78_25, r78_26, r78_27, r78_28, r78_29, r78_32, r78_33, r78_34, r78_35, r78_38, r78_41, r78_42, r78_43, r78_44, r78_47, r78_50, r78_51, r78_52, r78_53, r78_54, r78_57, r78_58, r78_61, r78_64, r78_65, r78_67, r78_70, r78_71, r78_72, r78_75, r78_76, r78_77, r78_80, r78_81, r78_84, r78_85, r78_88, r78_91, r78_92, r78_94, r78_97, r78_98, r78_99, r78_102, r78_103, r78_106, r78_109, r78_110, r78_113, r78_115, r78_116, r78_117, r78_118, r78_119, r78_120, r78_123, r78_125, r78_128, r78_131, r78_134, r78_137, r78_138, r78_141, ↓if_pos, ↓if_neg, hx, hs, c1, c2, iadd_eq, Option.bind_some, pushR_s, pushR_n]
        · rw [if_neg h4]
          obtain ⟨K2, c2, k2, f2⟩ := x_pop (d := d + 1) k1
          have cj := x_joined (d := d + 1) (I := K2) (c := ineg x) (a := st.tail.headD 0) (b := st.headD 0)
          obtain ⟨K, c3, k3, f3⟩ := x_push (d := d + 1) (v := jn (ineg x) (st.tail.headD 0) (st.headD 0)) k2
          refine ⟨K, vI x, vL (st.headD 0), vR 0, ?_, k3, (f1.trans f2).trans f3⟩
          rw [r78_7]
          clear hK k1 k2 k3
          simp (disch := omega) only [r78_0, r78_1, r78_2, r78_5, r78_6, r78_8, r78_9, r78_12, r78_15, r78_16, r78_18, r78_21, r78_22, r78_25, r78_26, r78_27, r78_28, r78_29, r78_32, r78_33, r78_34, r78_35, r78_38, r78_41, r78_42, r78_43, r78_44, r78_47, r78_50, r78_51, r78_52, r78_53, r78_54, r78_57, r78_58, r78_61, r78_64, r78_65, r78_67, r78_70, r78_71, r78_72, r78_75, r78_76, r78_77, r78_80, r78_81, r78_84, r78_85, r78_88, r78_91, r78_92, r78_94, r78_97, r78_98, r78_99, r78_102, r78_103, r78_106, r78_109, r78_110, r78_113, r78_115, r78_116, r78_117, r78_118, r78_119, r78_120, r78_123, r78_125, r78_128, r78_131, r78_134, r78_137, r78_138, r78_141, ↓if_pos, ↓if_neg, hx, hs, c1, c2, cj, c3, iadd_eq, Option.bind_some, pushR_s, pushR_n]
theorem x_workL {T : List Int} (hT : T.length ≤ 40) : ∀ (R B : List Int) (J : MM) (st : List Int) (w3 w4 w5 : AV) (L : Int → Int), T = R.reverse ++ B → J 21 3 = T.length → SK (J 23) T → KS J (evS L B) → LX J = L → ∃ K, runs (call (d + 2)) 78 7 [vR 21, vR 35, vI B.length, w3, w4, w5] [] J = some (some (vL ((evS L T).headD 0)), K) ∧ FrK J K := by
  intro R
  induction R with
  | nil =>
    intro B J st w3 w4 w5 L hTB h3 hS hK hL
    have hB : T = B := by simpa using hTB
    subst hB
    obtain ⟨K, c1, k1, f1⟩ := x_pop (d := d + 1) hK
    refine ⟨K, ?_, f1⟩
    clear hK k1 hS
    simp (disch := omega) only [r78_0, r78_1, r78_2, r78_5, r78_6, r78_7, r78_8, r78_9, r78_12, r78_15, r78_16, r78_18, r78_21, r78_22, r78_25, r78_26, r78_27, r78_28, r78_29, r78_32, r78_33, r78_34, r78_35, r78_38, r78_41, r78_42, r78_43, r78_44, r78_47, r78_50, r78_51, r78_52, r78_53, r78_54, r78_57, r78_58, r78_61, r78_64, r78_65, r78_67, r78_70, r78_71, r78_72, r78_75, r78_76, r78_77, r78_80, r78_81, r78_84, r78_85, r78_88, r78_91, r78_92, r78_94, r78_97, r78_98, r78_99, r78_102, r78_103, r78_106, r78_109, r78_110, r78_113, r78_115, r78_116, r78_117, r78_118, r78_119, r78_120, r78_123, r78_125, r78_128, r78_131, r78_134, r78_137, r78_138, r78_141, ↓if_pos, ↓if_neg, h3, c1, Option.bind_some, pushR_s, pushR_n]
  | cons x R ih =>
    intro B J st w3 w4 w5 L hTB h3 hS hK hL
    have hTB' : T = R.reverse ++ x :: B := by rw [hTB]; simp
    have hx : J 23 B.length = x := by rw [hTB'] at hS; exact SK_at hS
    have hlen : T.length = R.length + (B.length + 1) := by rw [hTB']; simp
    obtain ⟨K1, u3, u4, u5, c1, k1, f1⟩ := x_step (d := d) hx (by omega) hK w3 w4 w5
    have e5 : ∀ i, K1 35 i = J 35 i := fun i => f1 35 i (by omega) (by omega)
    obtain ⟨K, c2, f2⟩ := ih (x :: B) K1 st u3 u4 u5 L hTB' ((f1 21 3 (by omega) (by omega)).trans h3) (SK.cong (fun i _ _ => f1 23 i (by omega) (by omega)) hS) (by rw [hL] at k1; exact k1) (by
      rw [← hL]; funext q; unfold LX; simp only [e5])
    refine ⟨K, ?_, f1.trans f2⟩
    rw [c1, ← c2]
    simp
theorem x_worked {T : List Int} (hT : T.length ≤ 40) (h3 : I 21 3 = T.length) (hS : SK (I 23) T) : ∃ K, call (d + 3) 78 [vR 21, vR 35] I = some (some (vL ((evS (LX I) T).headD 0)), K) ∧ FrK I K := by
  have f0 : FrK I (mset I 21 5 0) := fun a i h1 h2 => by rw [mset_at, if_neg (by omega)]
  have e5 : ∀ i, (mset I 21 5 0) 35 i = I 35 i := fun i => f0 35 i (by omega) (by omega)
  obtain ⟨K, c1, f1⟩ := x_workL (d := d) hT T.reverse [] (mset I 21 5 0) [] (vR 0) (vR 0) (vR 0) (LX I) (by simp) ((f0 21 3 (by omega) (by omega)).trans h3) (SK.cong (fun i _ _ => f0 23 i (by omega) (by omega)) hS) ⟨by rw [mset_at, if_pos ⟨rfl, rfl⟩]; rfl, by show (0 : Nat) ≤ 40; omega, trivial⟩ (by
    funext q; unfold LX; simp only [e5])
  refine ⟨K, ?_, f0.trans f1⟩
  rw [← c1, en78]
  simp (disch := omega) only [r78_0, r78_1, r78_2, r78_5, r78_6, r78_8, r78_9, r78_12, r78_15, r78_16, r78_18, r78_21, r78_22, r78_25, r78_26, r78_27, r78_28, r78_29, r78_32, r78_33, r78_34, r78_35, r78_38, r78_41, r78_42, r78_43, r78_44, r78_47, r78_50, r78_51, r78_52, r78_53, r78_54, r78_57, r78_58, r78_61, r78_64, r78_65, r78_67, r78_70, r78_71, r78_72, r78_75, r78_76, r78_77, r78_80, r78_81, r78_84, r78_85, r78_88, r78_91, r78_92, r78_94, r78_97, r78_98, r78_99, r78_102, r78_103, r78_106, r78_109, r78_110, r78_113, r78_115, r78_116, r78_117, r78_118, r78_119, r78_120, r78_123, r78_125, r78_128, r78_131, r78_134, r78_137, r78_138, r78_141]
  rfl
end
