/-! Tokens of a text, and the class's tokenizer. -/
def isB (c : Int) : Bool := decide (c = 32)
def isL (c : Int) : Bool := decide (97 ≤ c ∧ c ≤ 122)
def isF (c : Int) : Bool := decide (48 ≤ c ∧ c ≤ 57)
def runE (P : Int → Bool) (t : Int → Int) (n : Int) : Nat → Int → Int
  | 0, k => k
  | f + 1, k => if k < n ∧ P (t k) = true then runE P t n f (k + 1) else k
/-- the first place from k on where P ends -/
def rE (P : Int → Bool) (t : Int → Int) (n k : Int) : Int := runE P t n (n - k).toNat k
theorem rE_y {P : Int → Bool} {t : Int → Int} {n k : Int} (h : k < n) (hp : P (t k) = true) : rE P t n k = rE P t n (k + 1) := by
  unfold rE
  rw [show (n - k).toNat = (n - (k + 1)).toNat + 1 by omega, runE, if_pos ⟨h, hp⟩]
theorem rE_n {P : Int → Bool} {t : Int → Int} {n k : Int} (h : ¬ (k < n ∧ P (t k) = true)) : rE P t n k = k := by
  unfold rE
  cases hf : (n - k).toNat with
  | zero => rfl
  | succ f => rw [runE, if_neg h]
theorem rE_b {P : Int → Bool} {t : Int → Int} {n : Int} : ∀ (f : Nat) (k : Int), (n - k).toNat ≤ f → k ≤ n → k ≤ rE P t n k ∧ rE P t n k ≤ n := by
  intro f
  induction f with
  | zero => intro k hf hk; rw [rE_n (by omega)]; omega
  | succ f ih =>
    intro k hf hk
    by_cases h : k < n ∧ P (t k) = true
    · rw [rE_y h.1 h.2]; have := ih (k + 1) (by omega) (by omega); omega
    · rw [rE_n h]; omega
/-- a token's kind, by its first character -/
def tkK (t : Int → Int) (n s : Int) : Int := if n ≤ s then 0 else if isL (t s) = true then 1 else if isF (t s) = true then 2 else if t s = 59 then 3 else 4
def tkE (t : Int → Int) (n s : Int) : Int := if n ≤ s then s else if isL (t s) = true then rE isL t n s else if isF (t s) = true then rE isF t n s else s + 1
def tkV (t : Int → Int) (s e : Int) : Int := if e - s = 1 then t s - 48 else if e - s = 2 then 10 * (t s - 48) + (t (s + 1) - 48) else -1
section
variable {d : Nat} {I J K : MM} {t : Int → Int} {n k v i : Int}
theorem x_byteAt (hT : TX I t) (hn : 0 ≤ t (-1) ∧ t (-1) ≤ 200) (hi : 0 ≤ i) : call (d + 1) 97 [vR 18, vI i] I = some (some (vI (if i < t (-1) then t i else -1)), I) := by
  rw [en97]
  have e := hT.1
  by_cases h : i < t (-1)
  · have e2 := hT.2 i hi h
    simp (disch := omega) only [r97_0, r97_1, r97_4, r97_5, r97_6, r97_9, r97_12, r97_13, r97_16, r97_19, r97_20, r97_23, r97_24, r97_25, r97_28, r97_29, ↓if_pos, ↓if_neg, e2]
  · simp (disch := omega) only [r97_0, r97_1, r97_4, r97_5, r97_6, r97_9, r97_12, r97_13, r97_16, r97_19, r97_20, r97_23, r97_24, r97_25, r97_28, r97_29, ↓if_pos, ↓if_neg]
theorem x_isLetter : call (d + 1) 107 [vR 20, vI v] I = some (some (vI (if isL v = true then 1 else 0)), I) := by
  rw [en107]
  by_cases h : 97 ≤ v ∧ v ≤ 122
  · have e : isL v = true := decide_eq_true h
    rw [if_pos e]
    simp (disch := omega) only [r107_0, r107_1, r107_3, r107_6, r107_7, r107_9, r107_12, r107_13, r107_16, r107_17, ↓if_pos, ↓if_neg]
  · have e : ¬ isL v = true := fun q => h (of_decide_eq_true q)
    rw [if_neg e]
    by_cases h0 : v < 97 <;> simp (disch := omega) only [r107_0, r107_1, r107_3, r107_6, r107_7, r107_9, r107_12, r107_13, r107_16, r107_17, ↓if_pos, ↓if_neg]
theorem x_isFigure : call (d + 1) 108 [vR 20, vI v] I = some (some (vI (if isF v = true then 1 else 0)), I) := by
  rw [en108]
  by_cases h : 48 ≤ v ∧ v ≤ 57
  · have e : isF v = true := decide_eq_true h
    rw [if_pos e]
    simp (disch := omega) only [r108_0, r108_1, r108_3, r108_6, r108_7, r108_9, r108_12, r108_13, r108_16, r108_17, ↓if_pos, ↓if_neg]
  · have e : ¬ isF v = true := fun q => h (of_decide_eq_true q)
    rw [if_neg e]
    by_cases h0 : v < 48 <;> simp (disch := omega) only [r108_0, r108_1, r108_3, r108_6, r108_7, r108_9, r108_12, r108_13, r108_16, r108_17, ↓if_pos, ↓if_neg]
theorem TX.set20 (hT : TX I t) (i v : Int) : TX (mset I 20 i v) t := hT.cong (by rw [mset_at, if_neg (by omega)]) (fun j => by rw [mset_at, if_neg (by omega)])
/-- blanks are passed -/
theorem x_skip (hn : 0 ≤ t (-1) ∧ t (-1) ≤ 200) (v1 : AV) : ∀ (f : Nat) (k : Int) (J : MM), (t (-1) - k).toNat ≤ f → 0 ≤ k → k ≤ t (-1) → TX J t → J 20 1 = k → runs (call (d + 1)) 104 0 [vR 20, v1] [] J = runs (call (d + 1)) 104 43 [vR 20, v1] [] (mset J 20 1 (rE isB t (t (-1)) k)) := by
  intro f
  induction f with
  | zero =>
    intro k J hf k0 hk hT h1
    have e := hT.1
    rw [rE_n (by omega)]
    have : mset J 20 1 k = J := by
      funext a j; rw [mset_at]; split
      · rename_i q; rw [q.1, q.2, h1]
      · rfl
    rw [this]
    simp (disch := omega) only [r104_0, r104_1, r104_4, r104_5, r104_8, r104_11, r104_14, r104_15, r104_18, r104_19, r104_22, r104_25, r104_27, r104_30, r104_31, r104_32, r104_35, r104_36, r104_37, r104_40, r104_44, r104_45, r104_48, r104_51, r104_52, r104_55, r104_56, r104_59, r104_62, r104_63, r104_64, r104_67, r104_68, r104_71, r104_74, r104_77, r104_78, r104_79, r104_82, r104_85, r104_86, r104_87, r104_90, r104_93, r104_94, r104_95, r104_98, r104_99, r104_102, r104_103, r104_106, r104_109, r104_112, r104_113, r104_114, r104_117, r104_118, r104_121, r104_124, r104_127, r104_130, r104_131, r104_132, r104_135, r104_136, r104_137, r104_140, r104_143, r104_144, r104_145, r104_148, r104_151, r104_152, r104_153, r104_156, r104_157, r104_160, r104_163, r104_164, r104_165, r104_167, r104_170, r104_171, r104_174, r104_175, r104_178, r104_179, r104_180, r104_183, r104_184, r104_185, r104_188, ↓if_pos, ↓if_neg]
  | succ f ih =>
    intro k J hf k0 hk hT h1
    have e := hT.1
    have same : mset J 20 1 k = J := by
      funext a j; rw [mset_at]; split
      · rename_i q; rw [q.1, q.2, h1]
      · rfl
    by_cases h : k < t (-1)
    · have hb := x_byteAt (d := d) (i := k) hT hn k0
      rw [if_pos h] at hb
      by_cases h32 : t k = 32
      · rw [rE_y h (decide_eq_true h32)]
        have hih := ih (k + 1) (mset J 20 1 (k + 1)) (by omega) (by omega) (by omega) (hT.set20 _ _) (by rw [mset_at, if_pos ⟨rfl, rfl⟩])
        have em : mset (mset J 20 1 (k + 1)) 20 1 (rE isB t (t (-1)) (k + 1)) = mset J 20 1 (rE isB t (t (-1)) (k + 1)) := by
          funext a j; simp only [mset_at]; split <;> rfl
        rw [em] at hih
        rw [← hih, r104_0]
        simp (disch := omega) only [r104_1, r104_4, r104_5, r104_8, r104_11, r104_14, r104_15, r104_18, r104_19, r104_22, r104_25, r104_27, r104_30, r104_31, r104_32, r104_35, r104_36, r104_37, r104_40, r104_44, r104_45, r104_48, r104_51, r104_52, r104_55, r104_56, r104_59, r104_62, r104_63, r104_64, r104_67, r104_68, r104_71, r104_74, r104_77, r104_78, r104_79, r104_82, r104_85, r104_86, r104_87, r104_90, r104_93, r104_94, r104_95, r104_98, r104_99, r104_102, r104_103, r104_106, r104_109, r104_112, r104_113, r104_114, r104_117, r104_118, r104_121, r104_124, r104_127, r104_130, r104_131, r104_132, r104_135, r104_136, r104_137, r104_140, r104_143, r104_144, r104_145, r104_148, r104_151, r104_152, r104_153, r104_156, r104_157, r104_160, r104_163, r104_164, r104_165, r104_167, r104_170, r104_171, r104_174, r104_175, r104_178, r104_179, r104_180, r104_183, r104_184, r104_185, r104_188, ↓if_pos, ↓if_neg, h1, hb, iadd_eq, Option.bind_some, pushR_s]
      · rw [rE_n (fun q => h32 (of_decide_eq_true q.2)), same]
        simp (disch := omega) only [r104_0, r104_1, r104_4, r104_5, r104_8, r104_11, r104_14, r104_15, r104_18, r104_19, r104_22, r104_25, r104_27, r104_30, r104_31, r104_32, r104_35, r104_36, r104_37, r104_40, r104_44, r104_45, r104_48, r104_51, r104_52, r104_55, r104_56, r104_59, r104_62, r104_63, r104_64, r104_67, r104_68, r104_71, r104_74, r104_77, r104_78, r104_79, r104_82, r104_85, r104_86, r104_87, r104_90, r104_93, r104_94, r104_95, r104_98, r104_99, r104_102, r104_103, r104_106, r104_109, r104_112, r104_113, r104_114, r104_117, r104_118, r104_121, r104_124, r104_127, r104_130, r104_131, r104_132, r104_135, r104_136, r104_137, r104_140, r104_143, r104_144, r104_145, r104_148, r104_151, r104_152, r104_153, r104_156, r104_157, r104_160, r104_163, r104_164, r104_165, r104_167, r104_170, r104_171, r104_174, r104_175, r104_178, r104_179, r104_180, r104_183, r104_184, r104_185, r104_188, ↓if_pos, ↓if_neg, h1, hb, Option.bind_some, pushR_s]
    · rw [rE_n (by omega), same]
      simp (disch := omega) only [r104_0, r104_1, r104_4, r104_5, r104_8, r104_11, r104_14, r104_15, r104_18, r104_19, r104_22, r104_25, r104_27, r104_30, r104_31, r104_32, r104_35, r104_36, r104_37, r104_40, r104_44, r104_45, r104_48, r104_51, r104_52, r104_55, r104_56, r104_59, r104_62, r104_63, r104_64, r104_67, r104_68, r104_71, r104_74, r104_77, r104_78, r104_79, r104_82, r104_85, r104_86, r104_87, r104_90, r104_93, r104_94, r104_95, r104_98, r104_99, r104_102, r104_103, r104_106, r104_109, r104_112, r104_113, r104_114, r104_117, r104_118, r104_121, r104_124, r104_127, r104_130, r104_131, r104_132, r104_135, r104_136, r104_137, r104_140, r104_143, r104_144, r104_145, r104_148, r104_151, r104_152, r104_153, r104_156, r104_157, r104_160, r104_163, r104_164, r104_165, r104_167, r104_170, r104_171, r104_174, r104_175, r104_178, r104_179, r104_180, r104_183, r104_184, r104_185, r104_188, ↓if_pos, ↓if_neg]
/-- a word's letters are passed -/
theorem x_word (hn : 0 ≤ t (-1) ∧ t (-1) ≤ 200) (v1 : AV) : ∀ (f : Nat) (k : Int) (J : MM), (t (-1) - k).toNat ≤ f → 0 ≤ k → k ≤ t (-1) → TX J t → J 20 1 = k → runs (call (d + 1)) 104 98 [vR 20, v1] [] J = some (none, mset J 20 1 (rE isL t (t (-1)) k)) := by
  intro f
  induction f with
  | zero =>
    intro k J hf k0 hk hT h1
    have e := hT.1
    rw [rE_n (by omega)]
    have : mset J 20 1 k = J := by
      funext a j; rw [mset_at]; split
      · rename_i q; rw [q.1, q.2, h1]
      · rfl
    rw [this]
    simp (disch := omega) only [r104_0, r104_1, r104_4, r104_5, r104_8, r104_11, r104_14, r104_15, r104_18, r104_19, r104_22, r104_25, r104_27, r104_30, r104_31, r104_32, r104_35, r104_36, r104_37, r104_40, r104_43, r104_44, r104_45, r104_48, r104_51, r104_52, r104_55, r104_56, r104_59, r104_62, r104_63, r104_64, r104_67, r104_68, r104_71, r104_74, r104_77, r104_78, r104_79, r104_82, r104_85, r104_86, r104_87, r104_90, r104_93, r104_94, r104_95, r104_98, r104_99, r104_102, r104_103, r104_106, r104_109, r104_112, r104_113, r104_114, r104_117, r104_118, r104_121, r104_124, r104_127, r104_130, r104_131, r104_132, r104_135, r104_136, r104_137, r104_140, r104_143, r104_144, r104_145, r104_148, r104_151, r104_152, r104_153, r104_156, r104_157, r104_160, r104_163, r104_164, r104_165, r104_167, r104_170, r104_171, r104_174, r104_175, r104_178, r104_179, r104_180, r104_183, r104_184, r104_185, r104_188, ↓if_pos, ↓if_neg]
  | succ f ih =>
    intro k J hf k0 hk hT h1
    have e := hT.1
    have same : mset J 20 1 k = J := by
      funext a j; rw [mset_at]; split
      · rename_i q; rw [q.1, q.2, h1]
      · rfl
    by_cases h : k < t (-1)
    · have hb := x_byteAt (d := d) (i := k) hT hn k0
      rw [if_pos h] at hb
      have hl := x_isLetter (d := d) (I := J) (v := t k)
      by_cases h32 : isL (t k) = true
      · rw [rE_y h h32]
        rw [if_pos h32] at hl
        have hih := ih (k + 1) (mset J 20 1 (k + 1)) (by omega) (by omega) (by omega) (hT.set20 _ _) (by rw [mset_at, if_pos ⟨rfl, rfl⟩])
        have em : mset (mset J 20 1 (k + 1)) 20 1 (rE isL t (t (-1)) (k + 1)) = mset J 20 1 (rE isL t (t (-1)) (k + 1)) := by
          funext a j; simp only [mset_at]; split <;> rfl
        rw [em] at hih
        rw [← hih, r104_98]
        simp (disch := omega) only [r104_0, r104_1, r104_4, r104_5, r104_8, r104_11, r104_14, r104_15, r104_18, r104_19, r104_22, r104_25, r104_27, r104_30, r104_31, r104_32, r104_35, r104_36, r104_37, r104_40, r104_43, r104_44, r104_45, r104_48, r104_51, r104_52, r104_55, r104_56, r104_59, r104_62, r104_63, r104_64, r104_67, r104_68, r104_71, r104_74, r104_77, r104_78, r104_79, r104_82, r104_85, r104_86, r104_87, r104_90, r104_93, r104_94, r104_95, r104_99, r104_102, r104_103, r104_106, r104_109, r104_112, r104_113, r104_114, r104_117, r104_118, r104_121, r104_124, r104_127, r104_130, r104_131, r104_132, r104_135, r104_136, r104_137, r104_140, r104_143, r104_144, r104_145, r104_148, r104_151, r104_152, r104_153, r104_156, r104_157, r104_160, r104_163, r104_164, r104_165, r104_167, r104_170, r104_171, r104_174, r104_175, r104_178, r104_179, r104_180, r104_183, r104_184, r104_185, r104_188, ↓if_pos, ↓if_neg, h1, hb, hl, iadd_eq, Option.bind_some, pushR_s]
      · rw [rE_n (fun q => h32 q.2), same]
        rw [if_neg h32] at hl
        simp (disch := omega) only [r104_0, r104_1, r104_4, r104_5, r104_8, r104_11, r104_14, r104_15, r104_18, r104_19, r104_22, r104_25, r104_27, r104_30, r104_31, r104_32, r104_35, r104_36, r104_37, r104_40, r104_43, r104_44, r104_45, r104_48, r104_51, r104_52, r104_55, r104_56, r104_59, r104_62, r104_63, r104_64, r104_67, r104_68, r104_71, r104_74, r104_77, r104_78, r104_79, r104_82, r104_85, r104_86, r104_87, r104_90, r104_93, r104_94, r104_95, r104_99, r104_102, r104_103, r104_106, r104_109, r104_112, r104_113, r104_114, r104_117, r104_118, r104_121, r104_124, r104_127, r104_130, r104_131, r104_132, r104_135, r104_136, r104_137, r104_140, r104_143, r104_144, r104_145, r104_148, r104_151, r104_152, r104_153, r104_156, r104_157, r104_160, r104_163, r104_164, r104_165, r104_167, r104_170, r104_171, r104_174, r104_175, r104_178, r104_179, r104_180, r104_183, r104_184, r104_185, r104_188, r104_98, ↓if_pos, ↓if_neg, h1, hb, hl, Option.bind_some, pushR_s]
    · rw [rE_n (by omega), same]
      simp (disch := omega) only [r104_0, r104_1, r104_4, r104_5, r104_8, r104_11, r104_14, r104_15, r104_18, r104_19, r104_22, r104_25, r104_27, r104_30, r104_31, r104_32, r104_35, r104_36, r104_37, r104_40, r104_43, r104_44, r104_45, r104_48, r104_51, r104_52, r104_55, r104_56, r104_59, r104_62, r104_63, r104_64, r104_67, r104_68, r104_71, r104_74, r104_77, r104_78, r104_79, r104_82, r104_85, r104_86, r104_87, r104_90, r104_93, r104_94, r104_95, r104_98, r104_99, r104_102, r104_103, r104_106, r104_109, r104_112, r104_113, r104_114, r104_117, r104_118, r104_121, r104_124, r104_127, r104_130, r104_131, r104_132, r104_135, r104_136, r104_137, r104_140, r104_143, r104_144, r104_145, r104_148, r104_151, r104_152, r104_153, r104_156, r104_157, r104_160, r104_163, r104_164, r104_165, r104_167, r104_170, r104_171, r104_174, r104_175, r104_178, r104_179, r104_180, r104_183, r104_184, r104_185, r104_188, ↓if_pos, ↓if_neg]
/-- a number's figures are passed; s: where it began; w: its value so far -/
def wal (t : Int → Int) (s k : Int) : Int := if k = s then 0 else tkV t s k
theorem x_figs (hn : 0 ≤ t (-1) ∧ t (-1) ≤ 200) {s : Int} (hs : 0 ≤ s) : ∀ (f : Nat) (k : Int) (J : MM), (t (-1) - k).toNat ≤ f → s ≤ k → k ≤ t (-1) → TX J t → J 20 1 = k → J 20 3 = s → J 20 4 = wal t s k → (∀ j, s ≤ j → j < k → isF (t j) = true) → runs (call (d + 1)) 105 5 [vR 20] [] J = some (none, mset (mset J 20 4 (wal t s (rE isF t (t (-1)) k))) 20 1 (rE isF t (t (-1)) k)) := by
  intro f
  induction f with
  | zero =>
    intro k J hf k0 hk hT h1 h3 h4 hF
    have e := hT.1
    rw [rE_n (by omega)]
    have : mset (mset J 20 4 (wal t s k)) 20 1 k = J := by
      funext a j; simp only [mset_at]; split
      · rename_i q; rw [q.1, q.2, h1]
      · split
        · rename_i q; rw [q.1, q.2, h4]
        · rfl
    rw [this]
    simp (disch := omega) only [r105_0, r105_1, r105_2, r105_5, r105_6, r105_9, r105_10, r105_13, r105_16, r105_19, r105_20, r105_21, r105_24, r105_25, r105_28, r105_31, r105_34, r105_37, r105_38, r105_39, r105_42, r105_43, r105_46, r105_47, r105_48, r105_51, r105_53, r105_54, r105_57, r105_58, r105_59, r105_62, r105_63, r105_66, r105_69, r105_70, r105_72, r105_73, r105_76, r105_77, r105_80, r105_81, r105_82, r105_85, r105_86, r105_87, r105_90, r105_93, ↓if_pos, ↓if_neg]
  | succ f ih =>
    intro k J hf k0 hk hT h1 h3 h4 hF
    have e := hT.1
    have same : mset (mset J 20 4 (wal t s k)) 20 1 k = J := by
      funext a j; simp only [mset_at]; split
      · rename_i q; rw [q.1, q.2, h1]
      · split
        · rename_i q; rw [q.1, q.2, h4]
        · rfl
    by_cases h : k < t (-1)
    · have hb := x_byteAt (d := d) (i := k) hT hn (by omega)
      rw [if_pos h] at hb
      have hl := x_isFigure (d := d) (I := J) (v := t k)
      by_cases h32 : isF (t k) = true
      · rw [rE_y h h32]
        rw [if_pos h32] at hl
        have hr := of_decide_eq_true h32
        have hw : wal t s (k + 1) = if k - s < 2 then 10 * wal t s k + (t k - 48) else -1 := by
          unfold wal tkV
          rw [if_neg (show ¬ k + 1 = s by omega)]
          by_cases a0 : k = s
          · subst a0
            rw [if_pos (show k + 1 - k = 1 by omega), if_pos (show k - k < 2 by omega), if_pos rfl]; omega
          · rw [if_neg a0]
            by_cases a1 : k = s + 1
            · rw [if_neg (show ¬ k + 1 - s = 1 by omega), if_pos (show k + 1 - s = 2 by omega), if_pos (show k - s < 2 by omega), if_pos (show k - s = 1 by omega), a1]
            · rw [if_neg (by omega), if_neg (by omega), if_neg (by omega)]
        have hwb : k - s < 2 → 0 ≤ wal t s k ∧ wal t s k ≤ 9 := fun q => by
          unfold wal tkV
          by_cases a0 : k = s
          · rw [if_pos a0]; omega
          · rw [if_neg a0, if_pos (by omega)]
            have := of_decide_eq_true (hF s (by omega) (by omega))
            omega
        have hih := ih (k + 1) (mset (mset J 20 4 (wal t s (k + 1))) 20 1 (k + 1)) (by omega) (by omega) (by omega) ((hT.set20 _ _).set20 _ _) (by rw [mset_at, if_pos ⟨rfl, rfl⟩]) (by rw [mset_at, if_neg (by omega), mset_at, if_neg (by omega)]; exact h3) (by rw [mset_at, if_neg (by omega), mset_at, if_pos ⟨rfl, rfl⟩]) (fun j j0 j1 => by
          rcases Int.lt_or_le j k with z | z
          · exact hF j j0 z
          · have : j = k := by omega
            rw [this]; exact h32)
        have em : ∀ u w, mset (mset (mset (mset J 20 4 (wal t s (k + 1))) 20 1 (k + 1)) 20 4 u) 20 1 w = mset (mset J 20 4 u) 20 1 w := fun u w => by
          funext a j; simp only [mset_at]; split
          · rfl
          · split <;> rfl
        rw [em] at hih
        rw [← hih, r105_5, hw]
        have hb2 : ∀ i u, call (d + 1) 97 [vR 18, vI k] (mset J 20 i u) = some (some (vI (t k)), mset J 20 i u) := fun i u => by
          rw [x_byteAt (hT.set20 i u) hn (by omega), if_pos h]
        clear hF hw
        by_cases h2 : k - s < 2
        · have hw2 := hwb h2
          rw [if_pos h2]
          have ee : 10 * wal t s k + t k - 48 = 10 * wal t s k + (t k - 48) := by omega
          simp (disch := omega) only [r105_0, r105_1, r105_2, r105_6, r105_9, r105_10, r105_13, r105_16, r105_19, r105_20, r105_21, r105_24, r105_25, r105_28, r105_31, r105_34, r105_37, r105_38, r105_39, r105_42, r105_43, r105_46, r105_47, r105_48, r105_51, r105_53, r105_54, r105_57, r105_58, r105_59, r105_62, r105_63, r105_66, r105_69, r105_70, r105_72, r105_73, r105_76, r105_77, r105_80, r105_81, r105_82, r105_85, r105_86, r105_87, r105_90, r105_93, ↓if_pos, ↓if_neg, h1, h3, h4, hb, hb2, hl, imul_eq, iadd_eq, isub_eq, ee, mset_at, Option.bind_some, pushR_s]
        · rw [if_neg h2]
          simp (disch := omega) only [r105_0, r105_1, r105_2, r105_6, r105_9, r105_10, r105_13, r105_16, r105_19, r105_20, r105_21, r105_24, r105_25, r105_28, r105_31, r105_34, r105_37, r105_38, r105_39, r105_42, r105_43, r105_46, r105_47, r105_48, r105_51, r105_53, r105_54, r105_57, r105_58, r105_59, r105_62, r105_63, r105_66, r105_69, r105_70, r105_72, r105_73, r105_76, r105_77, r105_80, r105_81, r105_82, r105_85, r105_86, r105_87, r105_90, r105_93, ↓if_pos, ↓if_neg, h1, h3, h4, hb, hb2, hl, imul_eq, iadd_eq, isub_eq, mset_at, Option.bind_some, pushR_s]
      · rw [rE_n (fun q => h32 q.2), same]
        rw [if_neg h32] at hl
        simp (disch := omega) only [r105_0, r105_1, r105_2, r105_5, r105_6, r105_9, r105_10, r105_13, r105_16, r105_19, r105_20, r105_21, r105_24, r105_25, r105_28, r105_31, r105_34, r105_37, r105_38, r105_39, r105_42, r105_43, r105_46, r105_47, r105_48, r105_51, r105_53, r105_54, r105_57, r105_58, r105_59, r105_62, r105_63, r105_66, r105_69, r105_70, r105_72, r105_73, r105_76, r105_77, r105_80, r105_81, r105_82, r105_85, r105_86, r105_87, r105_90, r105_93, ↓if_pos, ↓if_neg, h1, hb, hl, Option.bind_some, pushR_s]
    · rw [rE_n (by omega), same]
      simp (disch := omega) only [r105_0, r105_1, r105_2, r105_5, r105_6, r105_9, r105_10, r105_13, r105_16, r105_19, r105_20, r105_21, r105_24, r105_25, r105_28, r105_31, r105_34, r105_37, r105_38, r105_39, r105_42, r105_43, r105_46, r105_47, r105_48, r105_51, r105_53, r105_54, r105_57, r105_58, r105_59, r105_62, r105_63, r105_66, r105_69, r105_70, r105_72, r105_73, r105_76, r105_77, r105_80, r105_81, r105_82, r105_85, r105_86, r105_87, r105_90, r105_93, ↓if_pos, ↓if_neg]
end
