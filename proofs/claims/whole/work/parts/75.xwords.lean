/-! The reader of the class: words. -/
def wdL : Nat → List Int
  | 89 => [108, 97, 115, 116]
  | 90 => [105, 115, 108, 97, 110, 100]
  | 91 => [119, 97, 108, 107, 101, 114]
  | _ => [98, 111, 97, 114, 100]
def wd (k : Nat) (i : Int) : Int := (wdL k).getD i.toNat 0
/-- the letters from i on are the word's -/
def wdR (t : Int → Int) (s : Int) (k : Nat) : Nat → Int → Bool
  | 0, _ => true
  | f + 1, i => if t (s + i) = wd k i then wdR t s k f (i + 1) else false
def isW (t : Int → Int) (k : Int) (w : Nat) : Bool := decide (tkK t (t (-1)) (sk t k) = 1 ∧ tkE t (t (-1)) (sk t k) - sk t k = (wdL w).length) && wdR t (sk t k) w (wdL w).length 0
section
variable {d : Nat} {I J K : MM} {t : Int → Int} {n k v i : Int}
theorem x_check (h : 0 ≤ i ∧ i < n) : call (d + 1) 272 [vI i, vI n, vR 99] I = some (some (vI i), I) := by
  rw [en272]
  simp (disch := omega) only [r272_0, r272_1, r272_4, r272_5, r272_6, r272_10, r272_11, r272_16, r272_17, ↓if_pos, ↓if_neg]
theorem x_check2 (h : 0 ≤ i ∧ i < n) : call (d + 2) 270 [vI i, vI n] I = some (none, I) := by
  rw [en270]
  simp (disch := omega) only [r270_0, r270_1, r270_2, r270_5, r270_8, r270_9, x_check h, Option.bind_some, pushR_s]
theorem x_coder89 : call (d + 1) 268 [vR 89] I = some (some (vI 0), I) := by
  rw [en268]
  simp (disch := omega) only [r268_0, r268_3, r268_6, r268_7, r268_10, r268_13, r268_14, ↓if_pos, ↓if_neg]
theorem x_latin89 : call (d + 1) 269 [vR 89] I = some (some (vI 1), I) := by
  rw [en269]
  simp (disch := omega) only [r269_0, r269_3, r269_6, r269_7, r269_10, r269_13, r269_14, r269_17, r269_18, ↓if_pos, ↓if_neg]
theorem x_len89 : call (d + 2) 266 [vR 89] I = some (some (vI 4), I) := by
  have e : ishr 4 0 = 4 := by decide
  rw [en266]
  simp (disch := omega) only [r266_0, r266_1, r266_4, r266_5, r266_6, r266_9, r266_10, x_coder89, e, Option.bind_some, pushR_s]
theorem wd_b89 (h : 0 ≤ i ∧ i < 4) : i2c (iand ((wdL 89).getD i.toNat 0) 255) = wd 89 i ∧ 0 ≤ wd 89 i ∧ wd 89 i < 65536 := by
  obtain ⟨m, hm⟩ : ∃ m : Nat, i = m := ⟨i.toNat, by omega⟩
  subst hm
  have : ∀ m : Nat, m < 4 → i2c (iand ((wdL 89).getD ((m : Int)).toNat 0) 255) = wd 89 m ∧ 0 ≤ wd 89 m ∧ wd 89 m < 65536 := by decide
  exact this m (by omega)
theorem x_lchar89 (h : 0 ≤ i ∧ i < 4) : call (d + 3) 271 [vR 93, vI i] I = some (some (vI (wd 89 i)), I) := by
  obtain ⟨e, e1, e2⟩ := wd_b89 h
  simp only [wdL] at e
  rw [en271]
  simp (disch := omega) only [r271_0, r271_1, r271_2, r271_3, r271_6, r271_7, r271_8, r271_9, r271_12, r271_13, r271_14, x_check2 h, ↓if_pos, ↓if_neg, e, Option.bind_some, pushR_s, pushR_n]
theorem x_char89 (h : 0 ≤ i ∧ i < 4) : call (d + 4) 267 [vR 89, vI i] I = some (some (vI (wd 89 i)), I) := by
  obtain ⟨e, e1, e2⟩ := wd_b89 h
  rw [en267]
  simp (disch := omega) only [r267_0, r267_1, r267_4, r267_7, r267_8, r267_11, r267_12, r267_15, r267_16, r267_17, r267_20, x_latin89, x_lchar89 h, ↓if_pos, ↓if_neg, Option.bind_some, pushR_s]
theorem x_word89 (hT : TX I t) (hn : 0 ≤ t (-1) ∧ t (-1) ≤ 200) {s : Int} (h3 : I 20 3 = s) (hs : 0 ≤ s) (hl : s + 4 ≤ t (-1)) : ∀ (f : Nat) (i : Int), 0 ≤ i → i + f = 4 → runs (call (d + 4)) 106 28 [vR 20, vR 89, vI i] [] I = some (some (vI (if wdR t s 89 f i = true then 1 else 0)), I) := by
  have e := hT.1
  intro f
  induction f with
  | zero =>
    intro i i0 hi
    simp (disch := omega) only [r106_0, r106_1, r106_4, r106_5, r106_8, r106_9, r106_12, r106_13, r106_16, r106_17, r106_18, r106_21, r106_24, r106_25, r106_26, r106_27, r106_28, r106_29, r106_30, r106_33, r106_36, r106_37, r106_40, r106_41, r106_44, r106_45, r106_46, r106_49, r106_50, r106_51, r106_54, r106_57, r106_58, r106_59, r106_62, r106_65, r106_66, x_len89, ↓if_pos, ↓if_neg, wdR, Option.bind_some, pushR_s]
    simp
  | succ f ih =>
    intro i i0 hi
    have hb := x_byteAt (d := d + 3) (i := s + i) hT hn (by omega)
    rw [if_pos (by omega)] at hb
    have hc := x_char89 (d := d) (I := I) (i := i) (by omega)
    rw [wdR]
    by_cases h : t (s + i) = wd 89 i
    · rw [if_pos h]
      rw [← ih (i + 1) (by omega) (by omega), r106_28]
      simp (disch := omega) only [r106_0, r106_1, r106_4, r106_5, r106_8, r106_9, r106_12, r106_13, r106_16, r106_17, r106_18, r106_21, r106_24, r106_25, r106_26, r106_27, r106_29, r106_30, r106_33, r106_36, r106_37, r106_40, r106_41, r106_44, r106_45, r106_46, r106_49, r106_50, r106_51, r106_54, r106_57, r106_58, r106_59, r106_62, r106_65, r106_66, x_len89, h3, hb, hc, h, iadd_eq, ↓if_pos, ↓if_neg, Option.bind_some, pushR_s]
    · rw [if_neg h]
      simp (disch := first | omega | exact h) only [r106_0, r106_1, r106_4, r106_5, r106_8, r106_9, r106_12, r106_13, r106_16, r106_17, r106_18, r106_21, r106_24, r106_25, r106_26, r106_27, r106_28, r106_29, r106_30, r106_33, r106_36, r106_37, r106_40, r106_41, r106_44, r106_45, r106_46, r106_49, r106_50, r106_51, r106_54, r106_57, r106_58, r106_59, r106_62, r106_65, r106_66, x_len89, h3, hb, hc, iadd_eq, ↓if_pos, ↓if_neg, Option.bind_some, pushR_s]
      simp
theorem x_isWord89 (hT : TX I t) (hn : 0 ≤ t (-1) ∧ t (-1) ≤ 200) (hk : 0 ≤ k ∧ k ≤ t (-1)) (hx : TKx I t k) : call (d + 5) 106 [vR 20, vR 89] I = some (some (vI (if isW t k 89 = true then 1 else 0)), I) := by
  have hs := sk_b hk
  have he := tkE_b (t := t) (n := t (-1)) (s := sk t k) (by omega)
  obtain ⟨h1, h2, h3, -⟩ := hx
  have hL : ((wdL 89).length : Int) = 4 := rfl
  have hLN : (wdL 89).length = 4 := rfl
  unfold isW
  rw [hL, hLN]
  generalize tkE t (t (-1)) (sk t k) = e at *
  generalize tkK t (t (-1)) (sk t k) = q at *
  generalize sk t k = s at *
  rw [en106]
  by_cases hq : q = 1
  · by_cases hl : e - s = 4
    · have hw := x_word89 (d := d) (I := I) hT hn h3 (by omega) (by omega) 4 0 (by omega) (by omega)
      rw [r106_0]
      simp (disch := omega) only [r106_0, r106_1, r106_4, r106_5, r106_8, r106_9, r106_12, r106_13, r106_16, r106_17, r106_18, r106_21, r106_24, r106_25, r106_26, r106_27, r106_29, r106_30, r106_33, r106_36, r106_37, r106_40, r106_41, r106_44, r106_45, r106_46, r106_49, r106_50, r106_51, r106_54, r106_57, r106_58, r106_59, r106_62, r106_65, r106_66, x_len89, h1, h2, h3, isub_eq, ↓if_pos, ↓if_neg, Option.bind_some, pushR_s]
      rw [hw]
      simp [hq, hl]
    · simp (disch := omega) only [r106_0, r106_1, r106_4, r106_5, r106_8, r106_9, r106_12, r106_13, r106_16, r106_17, r106_18, r106_21, r106_24, r106_25, r106_26, r106_27, r106_29, r106_30, r106_33, r106_36, r106_37, r106_40, r106_41, r106_44, r106_45, r106_46, r106_49, r106_50, r106_51, r106_54, r106_57, r106_58, r106_59, r106_62, r106_65, r106_66, x_len89, h1, h2, h3, isub_eq, ↓if_pos, ↓if_neg, Option.bind_some, pushR_s]
      simp [hl]
  · simp (disch := omega) only [r106_0, r106_1, r106_4, r106_5, r106_8, r106_9, r106_12, r106_13, r106_16, r106_17, r106_18, r106_21, r106_24, r106_25, r106_26, r106_27, r106_29, r106_30, r106_33, r106_36, r106_37, r106_40, r106_41, r106_44, r106_45, r106_46, r106_49, r106_50, r106_51, r106_54, r106_57, r106_58, r106_59, r106_62, r106_65, r106_66, h2, ↓if_pos, ↓if_neg]
    simp [hq]
theorem x_coder90 : call (d + 1) 268 [vR 90] I = some (some (vI 0), I) := by
  rw [en268a]
  simp (disch := omega) only [r268_0, r268_3, r268_6a, r268_7a, r268_10, r268_13, r268_14, ↓if_pos, ↓if_neg]
theorem x_latin90 : call (d + 1) 269 [vR 90] I = some (some (vI 1), I) := by
  rw [en269a]
  simp (disch := omega) only [r269_0, r269_3, r269_6a, r269_7a, r269_10, r269_13, r269_14, r269_17, r269_18, ↓if_pos, ↓if_neg]
theorem x_len90 : call (d + 2) 266 [vR 90] I = some (some (vI 6), I) := by
  have e : ishr 6 0 = 6 := by decide
  rw [en266a]
  simp (disch := omega) only [r266_0a, r266_1a, r266_4a, r266_5a, r266_6a, r266_9, r266_10, x_coder90, e, Option.bind_some, pushR_s]
theorem wd_b90 (h : 0 ≤ i ∧ i < 6) : i2c (iand ((wdL 90).getD i.toNat 0) 255) = wd 90 i ∧ 0 ≤ wd 90 i ∧ wd 90 i < 65536 := by
  obtain ⟨m, hm⟩ : ∃ m : Nat, i = m := ⟨i.toNat, by omega⟩
  subst hm
  have : ∀ m : Nat, m < 6 → i2c (iand ((wdL 90).getD ((m : Int)).toNat 0) 255) = wd 90 m ∧ 0 ≤ wd 90 m ∧ wd 90 m < 65536 := by decide
  exact this m (by omega)
theorem x_lchar90 (h : 0 ≤ i ∧ i < 6) : call (d + 3) 271 [vR 94, vI i] I = some (some (vI (wd 90 i)), I) := by
  obtain ⟨e, e1, e2⟩ := wd_b90 h
  simp only [wdL] at e
  rw [en271a]
  simp (disch := omega) only [r271_0, r271_1a, r271_2a, r271_3, r271_6a, r271_7a, r271_8a, r271_9, r271_12, r271_13, r271_14, x_check2 h, ↓if_pos, ↓if_neg, e, Option.bind_some, pushR_s, pushR_n]
theorem x_char90 (h : 0 ≤ i ∧ i < 6) : call (d + 4) 267 [vR 90, vI i] I = some (some (vI (wd 90 i)), I) := by
  obtain ⟨e, e1, e2⟩ := wd_b90 h
  rw [en267a]
  simp (disch := omega) only [r267_0a, r267_1a, r267_4, r267_7a, r267_8a, r267_11a, r267_12a, r267_15, r267_16a, r267_17a, r267_20a, x_latin90, x_lchar90 h, ↓if_pos, ↓if_neg, Option.bind_some, pushR_s]
theorem x_word90 (hT : TX I t) (hn : 0 ≤ t (-1) ∧ t (-1) ≤ 200) {s : Int} (h3 : I 20 3 = s) (hs : 0 ≤ s) (hl : s + 6 ≤ t (-1)) : ∀ (f : Nat) (i : Int), 0 ≤ i → i + f = 6 → runs (call (d + 4)) 106 28 [vR 20, vR 90, vI i] [] I = some (some (vI (if wdR t s 90 f i = true then 1 else 0)), I) := by
  have e := hT.1
  intro f
  induction f with
  | zero =>
    intro i i0 hi
    simp (disch := omega) only [r106_0, r106_1, r106_4, r106_5, r106_8, r106_9, r106_12, r106_13, r106_16, r106_17a, r106_18a, r106_21, r106_24, r106_25, r106_26, r106_27, r106_28, r106_29a, r106_30a, r106_33, r106_36, r106_37, r106_40, r106_41, r106_44, r106_45, r106_46, r106_49a, r106_50a, r106_51a, r106_54, r106_57, r106_58, r106_59, r106_62, r106_65, r106_66, x_len90, ↓if_pos, ↓if_neg, wdR, Option.bind_some, pushR_s]
    simp
  | succ f ih =>
    intro i i0 hi
    have hb := x_byteAt (d := d + 3) (i := s + i) hT hn (by omega)
    rw [if_pos (by omega)] at hb
    have hc := x_char90 (d := d) (I := I) (i := i) (by omega)
    rw [wdR]
    by_cases h : t (s + i) = wd 90 i
    · rw [if_pos h]
      rw [← ih (i + 1) (by omega) (by omega), r106_28]
      simp (disch := omega) only [r106_0, r106_1, r106_4, r106_5, r106_8, r106_9, r106_12, r106_13, r106_16, r106_17a, r106_18a, r106_21, r106_24, r106_25, r106_26, r106_27, r106_29a, r106_30a, r106_33, r106_36, r106_37, r106_40, r106_41, r106_44, r106_45, r106_46, r106_49a, r106_50a, r106_51a, r106_54, r106_57, r106_58, r106_59, r106_62, r106_65, r106_66, x_len90, h3, hb, hc, h, iadd_eq, ↓if_pos, ↓if_neg, Option.bind_some, pushR_s]
    · rw [if_neg h]
      simp (disch := first | omega | exact h) only [r106_0, r106_1, r106_4, r106_5, r106_8, r106_9, r106_12, r106_13, r106_16, r106_17a, r106_18a, r106_21, r106_24, r106_25, r106_26, r106_27, r106_28, r106_29a, r106_30a, r106_33, r106_36, r106_37, r106_40, r106_41, r106_44, r106_45, r106_46, r106_49a, r106_50a, r106_51a, r106_54, r106_57, r106_58, r106_59, r106_62, r106_65, r106_66, x_len90, h3, hb, hc, iadd_eq, ↓if_pos, ↓if_neg, Option.bind_some, pushR_s]
      simp
theorem x_isWord90 (hT : TX I t) (hn : 0 ≤ t (-1) ∧ t (-1) ≤ 200) (hk : 0 ≤ k ∧ k ≤ t (-1)) (hx : TKx I t k) : call (d + 5) 106 [vR 20, vR 90] I = some (some (vI (if isW t k 90 = true then 1 else 0)), I) := by
  have hs := sk_b hk
  have he := tkE_b (t := t) (n := t (-1)) (s := sk t k) (by omega)
  obtain ⟨h1, h2, h3, -⟩ := hx
  have hL : ((wdL 90).length : Int) = 6 := rfl
  have hLN : (wdL 90).length = 6 := rfl
  unfold isW
  rw [hL, hLN]
  generalize tkE t (t (-1)) (sk t k) = e at *
  generalize tkK t (t (-1)) (sk t k) = q at *
  generalize sk t k = s at *
  rw [en106a]
  by_cases hq : q = 1
  · by_cases hl : e - s = 6
    · have hw := x_word90 (d := d) (I := I) hT hn h3 (by omega) (by omega) 6 0 (by omega) (by omega)
      rw [r106_0]
      simp (disch := omega) only [r106_0, r106_1, r106_4, r106_5, r106_8, r106_9, r106_12, r106_13, r106_16, r106_17a, r106_18a, r106_21, r106_24, r106_25, r106_26, r106_27, r106_29a, r106_30a, r106_33, r106_36, r106_37, r106_40, r106_41, r106_44, r106_45, r106_46, r106_49a, r106_50a, r106_51a, r106_54, r106_57, r106_58, r106_59, r106_62, r106_65, r106_66, x_len90, h1, h2, h3, isub_eq, ↓if_pos, ↓if_neg, Option.bind_some, pushR_s]
      rw [hw]
      simp [hq, hl]
    · simp (disch := omega) only [r106_0, r106_1, r106_4, r106_5, r106_8, r106_9, r106_12, r106_13, r106_16, r106_17a, r106_18a, r106_21, r106_24, r106_25, r106_26, r106_27, r106_29a, r106_30a, r106_33, r106_36, r106_37, r106_40, r106_41, r106_44, r106_45, r106_46, r106_49a, r106_50a, r106_51a, r106_54, r106_57, r106_58, r106_59, r106_62, r106_65, r106_66, x_len90, h1, h2, h3, isub_eq, ↓if_pos, ↓if_neg, Option.bind_some, pushR_s]
      simp [hl]
  · simp (disch := omega) only [r106_0, r106_1, r106_4, r106_5, r106_8, r106_9, r106_12, r106_13, r106_16, r106_17a, r106_18a, r106_21, r106_24, r106_25, r106_26, r106_27, r106_29a, r106_30a, r106_33, r106_36, r106_37, r106_40, r106_41, r106_44, r106_45, r106_46, r106_49a, r106_50a, r106_51a, r106_54, r106_57, r106_58, r106_59, r106_62, r106_65, r106_66, h2, ↓if_pos, ↓if_neg]
    simp [hq]
theorem x_coder91 : call (d + 1) 268 [vR 91] I = some (some (vI 0), I) := by
  rw [en268b]
  simp (disch := omega) only [r268_0, r268_3, r268_6b, r268_7b, r268_10, r268_13, r268_14, ↓if_pos, ↓if_neg]
theorem x_latin91 : call (d + 1) 269 [vR 91] I = some (some (vI 1), I) := by
  rw [en269b]
  simp (disch := omega) only [r269_0, r269_3, r269_6b, r269_7b, r269_10, r269_13, r269_14, r269_17, r269_18, ↓if_pos, ↓if_neg]
theorem x_len91 : call (d + 2) 266 [vR 91] I = some (some (vI 6), I) := by
  have e : ishr 6 0 = 6 := by decide
  rw [en266b]
  simp (disch := omega) only [r266_0b, r266_1b, r266_4b, r266_5b, r266_6b, r266_9, r266_10, x_coder91, e, Option.bind_some, pushR_s]
theorem wd_b91 (h : 0 ≤ i ∧ i < 6) : i2c (iand ((wdL 91).getD i.toNat 0) 255) = wd 91 i ∧ 0 ≤ wd 91 i ∧ wd 91 i < 65536 := by
  obtain ⟨m, hm⟩ : ∃ m : Nat, i = m := ⟨i.toNat, by omega⟩
  subst hm
  have : ∀ m : Nat, m < 6 → i2c (iand ((wdL 91).getD ((m : Int)).toNat 0) 255) = wd 91 m ∧ 0 ≤ wd 91 m ∧ wd 91 m < 65536 := by decide
  exact this m (by omega)
theorem x_lchar91 (h : 0 ≤ i ∧ i < 6) : call (d + 3) 271 [vR 95, vI i] I = some (some (vI (wd 91 i)), I) := by
  obtain ⟨e, e1, e2⟩ := wd_b91 h
  simp only [wdL] at e
  rw [en271b]
  simp (disch := omega) only [r271_0, r271_1b, r271_2b, r271_3, r271_6b, r271_7b, r271_8b, r271_9, r271_12, r271_13, r271_14, x_check2 h, ↓if_pos, ↓if_neg, e, Option.bind_some, pushR_s, pushR_n]
theorem x_char91 (h : 0 ≤ i ∧ i < 6) : call (d + 4) 267 [vR 91, vI i] I = some (some (vI (wd 91 i)), I) := by
  obtain ⟨e, e1, e2⟩ := wd_b91 h
  rw [en267b]
  simp (disch := omega) only [r267_0b, r267_1b, r267_4, r267_7b, r267_8b, r267_11b, r267_12b, r267_15, r267_16b, r267_17b, r267_20b, x_latin91, x_lchar91 h, ↓if_pos, ↓if_neg, Option.bind_some, pushR_s]
theorem x_word91 (hT : TX I t) (hn : 0 ≤ t (-1) ∧ t (-1) ≤ 200) {s : Int} (h3 : I 20 3 = s) (hs : 0 ≤ s) (hl : s + 6 ≤ t (-1)) : ∀ (f : Nat) (i : Int), 0 ≤ i → i + f = 6 → runs (call (d + 4)) 106 28 [vR 20, vR 91, vI i] [] I = some (some (vI (if wdR t s 91 f i = true then 1 else 0)), I) := by
  have e := hT.1
  intro f
  induction f with
  | zero =>
    intro i i0 hi
    simp (disch := omega) only [r106_0, r106_1, r106_4, r106_5, r106_8, r106_9, r106_12, r106_13, r106_16, r106_17b, r106_18b, r106_21, r106_24, r106_25, r106_26, r106_27, r106_28, r106_29b, r106_30b, r106_33, r106_36, r106_37, r106_40, r106_41, r106_44, r106_45, r106_46, r106_49b, r106_50b, r106_51b, r106_54, r106_57, r106_58, r106_59, r106_62, r106_65, r106_66, x_len91, ↓if_pos, ↓if_neg, wdR, Option.bind_some, pushR_s]
    simp
  | succ f ih =>
    intro i i0 hi
    have hb := x_byteAt (d := d + 3) (i := s + i) hT hn (by omega)
    rw [if_pos (by omega)] at hb
    have hc := x_char91 (d := d) (I := I) (i := i) (by omega)
    rw [wdR]
    by_cases h : t (s + i) = wd 91 i
    · rw [if_pos h]
      rw [← ih (i + 1) (by omega) (by omega), r106_28]
      simp (disch := omega) only [r106_0, r106_1, r106_4, r106_5, r106_8, r106_9, r106_12, r106_13, r106_16, r106_17b, r106_18b, r106_21, r106_24, r106_25, r106_26, r106_27, r106_29b, r106_30b, r106_33, r106_36, r106_37, r106_40, r106_41, r106_44, r106_45, r106_46, r106_49b, r106_50b, r106_51b, r106_54, r106_57, r106_58, r106_59, r106_62, r106_65, r106_66, x_len91, h3, hb, hc, h, iadd_eq, ↓if_pos, ↓if_neg, Option.bind_some, pushR_s]
    · rw [if_neg h]
      simp (disch := first | omega | exact h) only [r106_0, r106_1, r106_4, r106_5, r106_8, r106_9, r106_12, r106_13, r106_16, r106_17b, r106_18b, r106_21, r106_24, r106_25, r106_26, r106_27, r106_28, r106_29b, r106_30b, r106_33, r106_36, r106_37, r106_40, r106_41, r106_44, r106_45, r106_46, r106_49b, r106_50b, r106_51b, r106_54, r106_57, r106_58, r106_59, r106_62, r106_65, r106_66, x_len91, h3, hb, hc, iadd_eq, ↓if_pos, ↓if_neg, Option.bind_some, pushR_s]
      simp
theorem x_isWord91 (hT : TX I t) (hn : 0 ≤ t (-1) ∧ t (-1) ≤ 200) (hk : 0 ≤ k ∧ k ≤ t (-1)) (hx : TKx I t k) : call (d + 5) 106 [vR 20, vR 91] I = some (some (vI (if isW t k 91 = true then 1 else 0)), I) := by
  have hs := sk_b hk
  have he := tkE_b (t := t) (n := t (-1)) (s := sk t k) (by omega)
  obtain ⟨h1, h2, h3, -⟩ := hx
  have hL : ((wdL 91).length : Int) = 6 := rfl
  have hLN : (wdL 91).length = 6 := rfl
  unfold isW
  rw [hL, hLN]
  generalize tkE t (t (-1)) (sk t k) = e at *
  generalize tkK t (t (-1)) (sk t k) = q at *
  generalize sk t k = s at *
  rw [en106b]
  by_cases hq : q = 1
  · by_cases hl : e - s = 6
    · have hw := x_word91 (d := d) (I := I) hT hn h3 (by omega) (by omega) 6 0 (by omega) (by omega)
      rw [r106_0]
      simp (disch := omega) only [r106_0, r106_1, r106_4, r106_5, r106_8, r106_9, r106_12, r106_13, r106_16, r106_17b, r106_18b, r106_21, r106_24, r106_25, r106_26, r106_27, r106_29b, r106_30b, r106_33, r106_36, r106_37, r106_40, r106_41, r106_44, r106_45, r106_46, r106_49b, r106_50b, r106_51b, r106_54, r106_57, r106_58, r106_59, r106_62, r106_65, r106_66, x_len91, h1, h2, h3, isub_eq, ↓if_pos, ↓if_neg, Option.bind_some, pushR_s]
      rw [hw]
      simp [hq, hl]
    · simp (disch := omega) only [r106_0, r106_1, r106_4, r106_5, r106_8, r106_9, r106_12, r106_13, r106_16, r106_17b, r106_18b, r106_21, r106_24, r106_25, r106_26, r106_27, r106_29b, r106_30b, r106_33, r106_36, r106_37, r106_40, r106_41, r106_44, r106_45, r106_46, r106_49b, r106_50b, r106_51b, r106_54, r106_57, r106_58, r106_59, r106_62, r106_65, r106_66, x_len91, h1, h2, h3, isub_eq, ↓if_pos, ↓if_neg, Option.bind_some, pushR_s]
      simp [hl]
  · simp (disch := omega) only [r106_0, r106_1, r106_4, r106_5, r106_8, r106_9, r106_12, r106_13, r106_16, r106_17b, r106_18b, r106_21, r106_24, r106_25, r106_26, r106_27, r106_29b, r106_30b, r106_33, r106_36, r106_37, r106_40, r106_41, r106_44, r106_45, r106_46, r106_49b, r106_50b, r106_51b, r106_54, r106_57, r106_58, r106_59, r106_62, r106_65, r106_66, h2, ↓if_pos, ↓if_neg]
    simp [hq]
theorem x_coder92 : call (d + 1) 268 [vR 92] I = some (some (vI 0), I) := by
  rw [en268c]
  simp (disch := omega) only [r268_0, r268_3, r268_6c, r268_7c, r268_10, r268_13, r268_14, ↓if_pos, ↓if_neg]
theorem x_latin92 : call (d + 1) 269 [vR 92] I = some (some (vI 1), I) := by
  rw [en269c]
  simp (disch := omega) only [r269_0, r269_3, r269_6c, r269_7c, r269_10, r269_13, r269_14, r269_17, r269_18, ↓if_pos, ↓if_neg]
theorem x_len92 : call (d + 2) 266 [vR 92] I = some (some (vI 5), I) := by
  have e : ishr 5 0 = 5 := by decide
  rw [en266c]
  simp (disch := omega) only [r266_0c, r266_1c, r266_4c, r266_5c, r266_6c, r266_9, r266_10, x_coder92, e, Option.bind_some, pushR_s]
theorem wd_b92 (h : 0 ≤ i ∧ i < 5) : i2c (iand ((wdL 92).getD i.toNat 0) 255) = wd 92 i ∧ 0 ≤ wd 92 i ∧ wd 92 i < 65536 := by
  obtain ⟨m, hm⟩ : ∃ m : Nat, i = m := ⟨i.toNat, by omega⟩
  subst hm
  have : ∀ m : Nat, m < 5 → i2c (iand ((wdL 92).getD ((m : Int)).toNat 0) 255) = wd 92 m ∧ 0 ≤ wd 92 m ∧ wd 92 m < 65536 := by decide
  exact this m (by omega)
theorem x_lchar92 (h : 0 ≤ i ∧ i < 5) : call (d + 3) 271 [vR 96, vI i] I = some (some (vI (wd 92 i)), I) := by
  obtain ⟨e, e1, e2⟩ := wd_b92 h
  simp only [wdL] at e
  rw [en271c]
  simp (disch := omega) only [r271_0, r271_1c, r271_2c, r271_3, r271_6c, r271_7c, r271_8c, r271_9, r271_12, r271_13, r271_14, x_check2 h, ↓if_pos, ↓if_neg, e, Option.bind_some, pushR_s, pushR_n]
theorem x_char92 (h : 0 ≤ i ∧ i < 5) : call (d + 4) 267 [vR 92, vI i] I = some (some (vI (wd 92 i)), I) := by
  obtain ⟨e, e1, e2⟩ := wd_b92 h
  rw [en267c]
  simp (disch := omega) only [r267_0c, r267_1c, r267_4, r267_7c, r267_8c, r267_11c, r267_12c, r267_15, r267_16c, r267_17c, r267_20c, x_latin92, x_lchar92 h, ↓if_pos, ↓if_neg, Option.bind_some, pushR_s]
theorem x_word92 (hT : TX I t) (hn : 0 ≤ t (-1) ∧ t (-1) ≤ 200) {s : Int} (h3 : I 20 3 = s) (hs : 0 ≤ s) (hl : s + 5 ≤ t (-1)) : ∀ (f : Nat) (i : Int), 0 ≤ i → i + f = 5 → runs (call (d + 4)) 106 28 [vR 20, vR 92, vI i] [] I = some (some (vI (if wdR t s 92 f i = true then 1 else 0)), I) := by
  have e := hT.1
  intro f
  induction f with
  | zero =>
    intro i i0 hi
    simp (disch := omega) only [r106_0, r106_1, r106_4, r106_5, r106_8, r106_9, r106_12, r106_13, r106_16, r106_17c, r106_18c, r106_21, r106_24, r106_25, r106_26, r106_27, r106_28, r106_29c, r106_30c, r106_33, r106_36, r106_37, r106_40, r106_41, r106_44, r106_45, r106_46, r106_49c, r106_50c, r106_51c, r106_54, r106_57, r106_58, r106_59, r106_62, r106_65, r106_66, x_len92, ↓if_pos, ↓if_neg, wdR, Option.bind_some, pushR_s]
    simp
  | succ f ih =>
    intro i i0 hi
    have hb := x_byteAt (d := d + 3) (i := s + i) hT hn (by omega)
    rw [if_pos (by omega)] at hb
    have hc := x_char92 (d := d) (I := I) (i := i) (by omega)
    rw [wdR]
    by_cases h : t (s + i) = wd 92 i
    · rw [if_pos h]
      rw [← ih (i + 1) (by omega) (by omega), r106_28]
      simp (disch := omega) only [r106_0, r106_1, r106_4, r106_5, r106_8, r106_9, r106_12, r106_13, r106_16, r106_17c, r106_18c, r106_21, r106_24, r106_25, r106_26, r106_27, r106_29c, r106_30c, r106_33, r106_36, r106_37, r106_40, r106_41, r106_44, r106_45, r106_46, r106_49c, r106_50c, r106_51c, r106_54, r106_57, r106_58, r106_59, r106_62, r106_65, r106_66, x_len92, h3, hb, hc, h, iadd_eq, ↓if_pos, ↓if_neg, Option.bind_some, pushR_s]
    · rw [if_neg h]
      simp (disch := first | omega | exact h) only [r106_0, r106_1, r106_4, r106_5, r106_8, r106_9, r106_12, r106_13, r106_16, r106_17c, r106_18c, r106_21, r106_24, r106_25, r106_26, r106_27, r106_28, r106_29c, r106_30c, r106_33, r106_36, r106_37, r106_40, r106_41, r106_44, r106_45, r106_46, r106_49c, r106_50c, r106_51c, r106_54, r106_57, r106_58, r106_59, r106_62, r106_65, r106_66, x_len92, h3, hb, hc, iadd_eq, ↓if_pos, ↓if_neg, Option.bind_some, pushR_s]
      simp
theorem x_isWord92 (hT : TX I t) (hn : 0 ≤ t (-1) ∧ t (-1) ≤ 200) (hk : 0 ≤ k ∧ k ≤ t (-1)) (hx : TKx I t k) : call (d + 5) 106 [vR 20, vR 92] I = some (some (vI (if isW t k 92 = true then 1 else 0)), I) := by
  have hs := sk_b hk
  have he := tkE_b (t := t) (n := t (-1)) (s := sk t k) (by omega)
  obtain ⟨h1, h2, h3, -⟩ := hx
  have hL : ((wdL 92).length : Int) = 5 := rfl
  have hLN : (wdL 92).length = 5 := rfl
  unfold isW
  rw [hL, hLN]
  generalize tkE t (t (-1)) (sk t k) = e at *
  generalize tkK t (t (-1)) (sk t k) = q at *
  generalize sk t k = s at *
  rw [en106c]
  by_cases hq : q = 1
  · by_cases hl : e - s = 5
    · have hw := x_word92 (d := d) (I := I) hT hn h3 (by omega) (by omega) 5 0 (by omega) (by omega)
      rw [r106_0]
      simp (disch := omega) only [r106_0, r106_1, r106_4, r106_5, r106_8, r106_9, r106_12, r106_13, r106_16, r106_17c, r106_18c, r106_21, r106_24, r106_25, r106_26, r106_27, r106_29c, r106_30c, r106_33, r106_36, r106_37, r106_40, r106_41, r106_44, r106_45, r106_46, r106_49c, r106_50c, r106_51c, r106_54, r106_57, r106_58, r106_59, r106_62, r106_65, r106_66, x_len92, h1, h2, h3, isub_eq, ↓if_pos, ↓if_neg, Option.bind_some, pushR_s]
      rw [hw]
      simp [hq, hl]
    · simp (disch := omega) only [r106_0, r106_1, r106_4, r106_5, r106_8, r106_9, r106_12, r106_13, r106_16, r106_17c, r106_18c, r106_21, r106_24, r106_25, r106_26, r106_27, r106_29c, r106_30c, r106_33, r106_36, r106_37, r106_40, r106_41, r106_44, r106_45, r106_46, r106_49c, r106_50c, r106_51c, r106_54, r106_57, r106_58, r106_59, r106_62, r106_65, r106_66, x_len92, h1, h2, h3, isub_eq, ↓if_pos, ↓if_neg, Option.bind_some, pushR_s]
      simp [hl]
  · simp (disch := omega) only [r106_0, r106_1, r106_4, r106_5, r106_8, r106_9, r106_12, r106_13, r106_16, r106_17c, r106_18c, r106_21, r106_24, r106_25, r106_26, r106_27, r106_29c, r106_30c, r106_33, r106_36, r106_37, r106_40, r106_41, r106_44, r106_45, r106_46, r106_49c, r106_50c, r106_51c, r106_54, r106_57, r106_58, r106_59, r106_62, r106_65, r106_66, h2, ↓if_pos, ↓if_neg]
    simp [hq]
end
