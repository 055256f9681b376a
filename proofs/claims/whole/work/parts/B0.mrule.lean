/-! The rule of the model: its leaves. Values and signs are piles, the newest first. -/
def rk (c : Int) : Int := if c = 124 then 1 else if c = 38 then 2 else if c = 60 ∨ c = 62 ∨ c = 61 then 3 else if c = 43 ∨ c = 45 then 4 else if c = 42 ∨ c = 47 then 5 else 0
def wO (s : Int) : List Int → Option (List Int)
  | y2 :: y1 :: V => some (jn s y1 y2 :: V)
  | _ => none
def wD (l : Int) : List Int → List Int → Option (List Int × List Int)
  | [], V => some (V, [])
  | s :: S, V => if s < 1000 ∧ l ≤ rk s then (wO s V).bind (fun V1 => wD l S V1) else some (V, s :: S)
def un1 (s v : Int) : Int := if s = 1001 then (if v = 0 then 1 else 0) else lneg v
def stU : List Int → Int → Int × List Int
  | [], v => (v, [])
  | s :: S, v => if 1000 < s then stU S (un1 s v) else (v, s :: S)
def TQ (r : Int → Int) (J : MM) (a b : Int) (V S : List Int) : Prop := RMf (J 71) r ∧ J 70 29 = a ∧ J 70 30 = b ∧ (J 70 32 = V.length ∧ SK (J 86) V) ∧ (J 70 34 = S.length ∧ SK (J 87) S)
def FrT (I J : MM) : Prop := ∀ a i, a ≠ 86 → a ≠ 87 → ¬ (a = 70 ∧ 29 ≤ i ∧ i ≤ 36) → J a i = I a i
theorem FrT.trans {I J K : MM} (f : FrT I J) (f' : FrT J K) : FrT I K := fun a i h h2 h' => (f' a i h h2 h').trans (f a i h h2 h')
theorem FrT.refl {I : MM} : FrT I I := fun _ _ _ _ _ => rfl
theorem FrT.set {I : MM} {a : Nat} {i : Int} (v : Int) (h : a = 86 ∨ a = 87 ∨ (a = 70 ∧ 29 ≤ i ∧ i ≤ 36)) : FrT I (mset I a i v) := fun b j h1 h2 h3 => by rw [mset_at, if_neg (by omega)]
def letI' (c : Int) : Int := if c = 97 then 0 else if c = 110 then 1 else if c = 99 then 2 else if c = 98 then 3 else if c = 107 then 4 else if c = 116 then 5 else -1
section
variable {d : Nat} {I J K : MM} {r : Int → Int} {c i k x a b n o v l s y1 y2 : Int} {V S : List Int}
theorem TQ.setA (h : TQ r J a b V S) : TQ r (mset J 70 29 k) k b V S := by
  obtain ⟨h1, h2, h3, ⟨h4, h5⟩, h6, h7⟩ := h
  exact ⟨h1, by rw [mset_at, if_pos ⟨rfl, rfl⟩], by rw [mset_at, if_neg (by omega)]; exact h3, ⟨by rw [mset_at, if_neg (by omega)]; exact h4, h5⟩, by rw [mset_at, if_neg (by omega)]; exact h6, h7⟩
theorem TQ.setB (h : TQ r J a b V S) : TQ r (mset J 70 30 k) a k V S := by
  obtain ⟨h1, h2, h3, ⟨h4, h5⟩, h6, h7⟩ := h
  exact ⟨h1, by rw [mset_at, if_neg (by omega)]; exact h2, by rw [mset_at, if_pos ⟨rfl, rfl⟩], ⟨by rw [mset_at, if_neg (by omega)]; exact h4, h5⟩, by rw [mset_at, if_neg (by omega)]; exact h6, h7⟩
theorem TQ.popS (h : TQ r J a b V (s :: S)) : TQ r (mset J 70 34 S.length) a b V S := by
  obtain ⟨h1, h2, h3, ⟨h4, h5⟩, h6, h7⟩ := h
  exact ⟨h1, by rw [mset_at, if_neg (by omega)]; exact h2, by rw [mset_at, if_neg (by omega)]; exact h3, ⟨by rw [mset_at, if_neg (by omega)]; exact h4, h5⟩, by rw [mset_at, if_pos ⟨rfl, rfl⟩], h7.2⟩
theorem TQ.popV (h : TQ r J a b (v :: V) S) : TQ r (mset J 70 32 V.length) a b V S := by
  obtain ⟨h1, h2, h3, ⟨h4, h5⟩, h6, h7⟩ := h
  exact ⟨h1, by rw [mset_at, if_neg (by omega)]; exact h2, by rw [mset_at, if_neg (by omega)]; exact h3, ⟨by rw [mset_at, if_pos ⟨rfl, rfl⟩], h5.2⟩, by rw [mset_at, if_neg (by omega)]; exact h6, h7⟩
theorem TQ.pushS (h : TQ r J a b V S) : TQ r (mset (mset J 87 S.length s) 70 34 (S.length + 1)) a b V (s :: S) := by
  obtain ⟨h1, h2, h3, ⟨h4, h5⟩, h6, h7⟩ := h
  refine ⟨h1, ?_, ?_, ⟨?_, h5⟩, ?_, ?_, ?_⟩
  · rw [mset_at, if_neg (by omega), mset_at, if_neg (by omega)]; exact h2
  · rw [mset_at, if_neg (by omega), mset_at, if_neg (by omega)]; exact h3
  · rw [mset_at, if_neg (by omega), mset_at, if_neg (by omega)]; exact h4
  · rw [mset_at, if_pos ⟨rfl, rfl⟩]; simp
  · rw [mset_at, if_neg (by omega), mset_at, if_pos ⟨rfl, rfl⟩]
  · exact SK.cong (fun i i0 i1 => by rw [mset_at, if_neg (by omega), mset_at, if_neg (by omega)]) h7
theorem TQ.pushV (h : TQ r J a b V S) : TQ r (mset (mset J 86 V.length v) 70 32 (V.length + 1)) a b (v :: V) S := by
  obtain ⟨h1, h2, h3, ⟨h4, h5⟩, h6, h7⟩ := h
  refine ⟨h1, ?_, ?_, ⟨?_, ?_, ?_⟩, ?_, h7⟩
  · rw [mset_at, if_neg (by omega), mset_at, if_neg (by omega)]; exact h2
  · rw [mset_at, if_neg (by omega), mset_at, if_neg (by omega)]; exact h3
  · rw [mset_at, if_pos ⟨rfl, rfl⟩]; simp
  · rw [mset_at, if_neg (by omega), mset_at, if_pos ⟨rfl, rfl⟩]
  · exact SK.cong (fun i i0 i1 => by rw [mset_at, if_neg (by omega), mset_at, if_neg (by omega)]) h5
  · rw [mset_at, if_neg (by omega), mset_at, if_neg (by omega)]; exact h6
theorem m_textLong (hR : RMf (I 71) r) : call (d + 1) 236 [vR 70] I = some (some (vI (r (-1))), I) := by
  have e := hR.1
  rw [en236]; simp (disch := omega) only [r236_0, r236_1, r236_4, r236_6, r236_7, ↓if_pos, e]
theorem m_charAt (hR : RMf (I 71) r) (h : RB r) (hi : 0 ≤ i ∧ i < r (-1)) : call (d + 1) 237 [vR 70, vI i] I = some (some (vI (r i)), I) := by
  have e := hR.2 i hi.1 hi.2
  have h40 := h.1
  rw [en237]; simp (disch := omega) only [r237_0, r237_1, r237_4, r237_6, r237_7, r237_8, r237_9, ↓if_pos, iadd_eq, e]
theorem m_rank : call (d + 1) 239 [vI c] I = some (some (vI (rk c)), I) := by
  rw [en239]
  unfold rk
  by_cases h1 : c = 124
  · subst h1; simp (disch := omega) only [r239_0, r239_1, r239_1a, r239_1b, r239_1c, r239_1d, r239_1e, r239_1f, r239_1g, r239_1h, r239_1i, r239_84, r239_85, r239_86, r239_87, r239_88, r239_89, r239_90, r239_91, r239_92, r239_93, r239_94, r239_95, ↓if_pos, ↓if_neg]
  by_cases h2 : c = 38
  · subst h2; simp (disch := omega) only [r239_0, r239_1, r239_1a, r239_1b, r239_1c, r239_1d, r239_1e, r239_1f, r239_1g, r239_1h, r239_1i, r239_84, r239_85, r239_86, r239_87, r239_88, r239_89, r239_90, r239_91, r239_92, r239_93, r239_94, r239_95, ↓if_pos, ↓if_neg]
  by_cases h3 : c = 60
  · subst h3; simp (disch := omega) only [r239_0, r239_1, r239_1a, r239_1b, r239_1c, r239_1d, r239_1e, r239_1f, r239_1g, r239_1h, r239_1i, r239_84, r239_85, r239_86, r239_87, r239_88, r239_89, r239_90, r239_91, r239_92, r239_93, r239_94, r239_95, ↓if_pos, ↓if_neg]
  by_cases h4 : c = 62
  · subst h4; simp (disch := omega) only [r239_0, r239_1, r239_1a, r239_1b, r239_1c, r239_1d, r239_1e, r239_1f, r239_1g, r239_1h, r239_1i, r239_84, r239_85, r239_86, r239_87, r239_88, r239_89, r239_90, r239_91, r239_92, r239_93, r239_94, r239_95, ↓if_pos, ↓if_neg]
  by_cases h5 : c = 61
  · subst h5; simp (disch := omega) only [r239_0, r239_1, r239_1a, r239_1b, r239_1c, r239_1d, r239_1e, r239_1f, r239_1g, r239_1h, r239_1i, r239_84, r239_85, r239_86, r239_87, r239_88, r239_89, r239_90, r239_91, r239_92, r239_93, r239_94, r239_95, ↓if_pos, ↓if_neg]
  by_cases h6 : c = 43
  · subst h6; simp (disch := omega) only [r239_0, r239_1, r239_1a, r239_1b, r239_1c, r239_1d, r239_1e, r239_1f, r239_1g, r239_1h, r239_1i, r239_84, r239_85, r239_86, r239_87, r239_88, r239_89, r239_90, r239_91, r239_92, r239_93, r239_94, r239_95, ↓if_pos, ↓if_neg]
  by_cases h7 : c = 45
  · subst h7; simp (disch := omega) only [r239_0, r239_1, r239_1a, r239_1b, r239_1c, r239_1d, r239_1e, r239_1f, r239_1g, r239_1h, r239_1i, r239_84, r239_85, r239_86, r239_87, r239_88, r239_89, r239_90, r239_91, r239_92, r239_93, r239_94, r239_95, ↓if_pos, ↓if_neg]
  by_cases h8 : c = 42
  · subst h8; simp (disch := omega) only [r239_0, r239_1, r239_1a, r239_1b, r239_1c, r239_1d, r239_1e, r239_1f, r239_1g, r239_1h, r239_1i, r239_84, r239_85, r239_86, r239_87, r239_88, r239_89, r239_90, r239_91, r239_92, r239_93, r239_94, r239_95, ↓if_pos, ↓if_neg]
  by_cases h9 : c = 47
  · subst h9; simp (disch := omega) only [r239_0, r239_1, r239_1a, r239_1b, r239_1c, r239_1d, r239_1e, r239_1f, r239_1g, r239_1h, r239_1i, r239_84, r239_85, r239_86, r239_87, r239_88, r239_89, r239_90, r239_91, r239_92, r239_93, r239_94, r239_95, ↓if_pos, ↓if_neg]
  simp (disch := omega) only [r239_0, r239_1, r239_1a, r239_1b, r239_1c, r239_1d, r239_1e, r239_1f, r239_1g, r239_1h, r239_1i, r239_84, r239_85, r239_86, r239_87, r239_88, r239_89, r239_90, r239_91, r239_92, r239_93, r239_94, r239_95, ↓if_pos, ↓if_neg]
theorem m_letterOf : call (d + 1) 243 [vI c] I = some (some (vI (letI' c)), I) := by
  rw [en243]
  unfold letI'
  by_cases h1 : c = 97
  · simp (disch := omega) only [r243_0, r243_1, r243_3, r243_6, r243_7, r243_10, r243_11, r243_13, r243_16, r243_17, r243_20, r243_21, r243_23, r243_26, r243_27, r243_30, r243_31, r243_33, r243_36, r243_37, r243_40, r243_41, r243_43, r243_46, r243_47, r243_50, r243_51, r243_53, r243_56, r243_57, r243_60, r243_61, ↓if_pos, ↓if_neg]
  by_cases h2 : c = 110
  · simp (disch := omega) only [r243_0, r243_1, r243_3, r243_6, r243_7, r243_10, r243_11, r243_13, r243_16, r243_17, r243_20, r243_21, r243_23, r243_26, r243_27, r243_30, r243_31, r243_33, r243_36, r243_37, r243_40, r243_41, r243_43, r243_46, r243_47, r243_50, r243_51, r243_53, r243_56, r243_57, r243_60, r243_61, ↓if_pos, ↓if_neg]
  by_cases h3 : c = 99
  · simp (disch := omega) only [r243_0, r243_1, r243_3, r243_6, r243_7, r243_10, r243_11, r243_13, r243_16, r243_17, r243_20, r243_21, r243_23, r243_26, r243_27, r243_30, r243_31, r243_33, r243_36, r243_37, r243_40, r243_41, r243_43, r243_46, r243_47, r243_50, r243_51, r243_53, r243_56, r243_57, r243_60, r243_61, ↓if_pos, ↓if_neg]
  by_cases h4 : c = 98
  · simp (disch := omega) only [r243_0, r243_1, r243_3, r243_6, r243_7, r243_10, r243_11, r243_13, r243_16, r243_17, r243_20, r243_21, r243_23, r243_26, r243_27, r243_30, r243_31, r243_33, r243_36, r243_37, r243_40, r243_41, r243_43, r243_46, r243_47, r243_50, r243_51, r243_53, r243_56, r243_57, r243_60, r243_61, ↓if_pos, ↓if_neg]
  by_cases h5 : c = 107
  · simp (disch := omega) only [r243_0, r243_1, r243_3, r243_6, r243_7, r243_10, r243_11, r243_13, r243_16, r243_17, r243_20, r243_21, r243_23, r243_26, r243_27, r243_30, r243_31, r243_33, r243_36, r243_37, r243_40, r243_41, r243_43, r243_46, r243_47, r243_50, r243_51, r243_53, r243_56, r243_57, r243_60, r243_61, ↓if_pos, ↓if_neg]
  by_cases h6 : c = 116
  · simp (disch := omega) only [r243_0, r243_1, r243_3, r243_6, r243_7, r243_10, r243_11, r243_13, r243_16, r243_17, r243_20, r243_21, r243_23, r243_26, r243_27, r243_30, r243_31, r243_33, r243_36, r243_37, r243_40, r243_41, r243_43, r243_46, r243_47, r243_50, r243_51, r243_53, r243_56, r243_57, r243_60, r243_61, ↓if_pos, ↓if_neg]
  simp (disch := omega) only [r243_0, r243_1, r243_3, r243_6, r243_7, r243_10, r243_11, r243_13, r243_16, r243_17, r243_20, r243_21, r243_23, r243_26, r243_27, r243_30, r243_31, r243_33, r243_36, r243_37, r243_40, r243_41, r243_43, r243_46, r243_47, r243_50, r243_51, r243_53, r243_56, r243_57, r243_60, r243_61, ↓if_pos, ↓if_neg]
theorem m_isFigure : call (d + 2) 244 [vI c] I = some (some (vI (if isF c = true then 1 else 0)), I) := by
  have e : isF c = true ↔ (48 ≤ c ∧ c ≤ 57) := ⟨of_decide_eq_true, decide_eq_true⟩
  rw [en244]
  by_cases h : 48 ≤ c ∧ c ≤ 57
  · rw [if_pos (e.mpr h)]
    clear e
    simp (disch := omega) only [r244_0, r244_1, r244_2, r244_5, r244_8, r244_11, ↓if_pos, ↓if_neg, m_in, Option.bind_some, pushR_s]
  · rw [if_neg (fun z => h (e.mp z))]
    clear e
    simp (disch := omega) only [r244_0, r244_1, r244_2, r244_5, r244_8, r244_11, ↓if_pos, ↓if_neg, m_in, Option.bind_some, pushR_s]
theorem m_blanks (h : RB r) : ∀ (f : Nat) (k : Int) (J : MM), (r (-1) - k).toNat ≤ f → 0 ≤ k → k ≤ r (-1) → RMf (J 71) r → J 70 29 = k → runs (call (d + 1)) 238 0 [vR 70] [] J = runs (call (d + 1)) 238 37 [vR 70] [] (mset J 70 29 (sk r k)) := by
  unfold sk
  have h40 := h.1
  intro f
  induction f with
  | zero =>
    intro k J hf k0 hk hT h1
    have e := m_textLong (d := d) hT
    rw [rE_n (by omega)]
    have : mset J 70 29 k = J := by
      funext a j; rw [mset_at]; split
      · rename_i q; rw [q.1, q.2, h1]
      · rfl
    rw [this]
    simp (disch := omega) only [r238_0, r238_1, r238_4, r238_5, r238_8, r238_11, r238_12, r238_13, r238_16, r238_19, r238_21, r238_24, r238_25, r238_26, r238_29, r238_30, r238_31, r238_34, r238_38, r238_41, r238_42, r238_45, r238_48, r238_49, r238_50, r238_53, r238_56, r238_59, r238_60, ↓if_pos, ↓if_neg, h1, e, Option.bind_some, pushR_s]
  | succ f ih =>
    intro k J hf k0 hk hT h1
    have e := m_textLong (d := d) hT
    have same : mset J 70 29 k = J := by
      funext a j; rw [mset_at]; split
      · rename_i q; rw [q.1, q.2, h1]
      · rfl
    by_cases hl : k < r (-1)
    · have hb := m_charAt (d := d) hT h ⟨k0, hl⟩
      by_cases h32 : r k = 32
      · rw [rE_y hl (decide_eq_true h32)]
        have hih := ih (k + 1) (mset J 70 29 (k + 1)) (by omega) (by omega) (by omega) hT (by rw [mset_at, if_pos ⟨rfl, rfl⟩])
        have em : mset (mset J 70 29 (k + 1)) 70 29 (rE isB r (r (-1)) (k + 1)) = mset J 70 29 (rE isB r (r (-1)) (k + 1)) := by
          funext a j; simp only [mset_at]; split <;> rfl
        rw [em] at hih
        rw [← hih, r238_0]
        simp (disch := omega) only [r238_1, r238_4, r238_5, r238_8, r238_11, r238_12, r238_13, r238_16, r238_19, r238_21, r238_24, r238_25, r238_26, r238_29, r238_30, r238_31, r238_34, r238_38, r238_41, r238_42, r238_45, r238_48, r238_49, r238_50, r238_53, r238_56, r238_59, r238_60, ↓if_pos, ↓if_neg, h1, e, hb, iadd_eq, Option.bind_some, pushR_s]
      · rw [rE_n (fun q => h32 (of_decide_eq_true q.2)), same]
        simp (disch := omega) only [r238_0, r238_1, r238_4, r238_5, r238_8, r238_11, r238_12, r238_13, r238_16, r238_19, r238_21, r238_24, r238_25, r238_26, r238_29, r238_30, r238_31, r238_34, r238_38, r238_41, r238_42, r238_45, r238_48, r238_49, r238_50, r238_53, r238_56, r238_59, r238_60, ↓if_pos, ↓if_neg, h1, e, hb, Option.bind_some, pushR_s]
    · rw [rE_n (by omega), same]
      simp (disch := omega) only [r238_0, r238_1, r238_4, r238_5, r238_8, r238_11, r238_12, r238_13, r238_16, r238_19, r238_21, r238_24, r238_25, r238_26, r238_29, r238_30, r238_31, r238_34, r238_38, r238_41, r238_42, r238_45, r238_48, r238_49, r238_50, r238_53, r238_56, r238_59, r238_60, ↓if_pos, ↓if_neg, h1, e, Option.bind_some, pushR_s]
theorem m_ahead (h : RB r) (ha : 0 ≤ a ∧ a ≤ r (-1)) (hQ : TQ r I a b V S) : call (d + 2) 238 [vR 70] I = some (some (vI (chr r (sk r a))), mset I 70 29 (sk r a)) := by
  have hR := hQ.1
  have hs := sk_b ha
  have h40 := h.1
  rw [en238, m_blanks (d := d) h _ a I (Nat.le_refl _) ha.1 ha.2 hR hQ.2.1]
  have hR2 : RMf ((mset I 70 29 (sk r a)) 71) r := hR
  have e := m_textLong (d := d) hR2
  unfold chr
  by_cases h0 : sk r a < r (-1)
  · have hb := m_charAt (d := d) hR2 h ⟨by omega, h0⟩
    rw [if_pos ⟨by omega, h0⟩]
    simp (disch := omega) only [r238_0, r238_1, r238_4, r238_5, r238_8, r238_11, r238_12, r238_13, r238_16, r238_19, r238_21, r238_24, r238_25, r238_26, r238_29, r238_30, r238_31, r238_34, r238_37, r238_38, r238_41, r238_42, r238_45, r238_48, r238_49, r238_50, r238_53, r238_56, r238_59, r238_60, ↓if_pos, ↓if_neg, e, hb, mset_at, Option.bind_some, pushR_s]
  · rw [if_neg (by omega)]
    simp (disch := omega) only [r238_0, r238_1, r238_4, r238_5, r238_8, r238_11, r238_12, r238_13, r238_16, r238_19, r238_21, r238_24, r238_25, r238_26, r238_29, r238_30, r238_31, r238_34, r238_37, r238_38, r238_41, r238_42, r238_45, r238_48, r238_49, r238_50, r238_53, r238_56, r238_59, r238_60, ↓if_pos, ↓if_neg, e, mset_at, Option.bind_some, pushR_s]
end
