/-! from of the class; image and from of the model. -/
def memFr (k : Nat) (I : MM) : MM := memF (memCP 25 (k + 13) (memCR 21 (k + 9) (memCB 2 (k + 1) I)))
theorem memFr_o {k a : Nat} {I : MM} (h : 10 ≤ a ∧ a ≠ 21 ∧ a ≠ 22 ∧ a ≠ 25 ∧ a ≠ 26 ∧ a ≠ 27 ∧ a ≠ 32 ∧ a ≠ 33) (i : Int) : memFr k I a i = I a i := by
  rw [memFr, memF_o (by omega) (by omega) (by omega), memCP_o (by omega), memCR_o (by omega), memCB_o (by omega)]
theorem memFr_o1 {k : Nat} {I : MM} (i : Int) : memFr k I 1 i = I 1 i := by
  rw [memFr, memF_o (by omega) (by omega) (by omega), memCP_o (by omega), memCR_o (by omega), memCB_o (by omega)]
section
variable {d : Nat} {I J K : MM} {s : ST} {g : G} {a c w x y b p v i m f : Int}
theorem memFr_X {k : Nat} {r : Nat → Int → Int} (hk : 40 ≤ k) (hI : IX k I g r) (h1 : r 6 0 = 1) (hr : r 2 (-1) ≤ 40) (hp : r 3 (-1) ≤ 8) : BX 2 (memFr k I) g (r 0 0) ∧ RX 21 (memFr k I) (r 2) ∧ PX 25 (memFr k I) (r 3) := by
  obtain ⟨hB, hR, hP⟩ := hI.2 h1
  refine ⟨?_, ?_, ?_⟩
  · refine BX.cong (I := memCB 2 (k + 1) I) (fun a a1 a2 i => ?_) (memCB_BX (by omega) hB)
    rw [memFr, memF_o (by omega) (by omega) (by omega), memCP_o (by omega), memCR_o (by omega)]
  · refine RX.cong (I := memCR 21 (k + 9) I) ?_ (fun i => ?_) (memCR_RX hr hR)
    · rw [memFr, memF_o (by omega) (by omega) (by omega), memCP_o (by omega)]
      simp (disch := omega) only [memCR, mcpy_at, mset_at, ↓if_pos, ↓if_neg, memCB_o]
    · rw [memFr, memF_o (by omega) (by omega) (by omega), memCP_o (by omega)]
      have e : ∀ j, memCB 2 (k + 1) I (k + 9 + 1) j = I (k + 9 + 1) j := fun j => memCB_o (by omega) j
      simp (disch := omega) only [memCR, mcpy_at, mset_at, ↓if_neg, memCB_o]
  · refine PX.cong (I := memCP 25 (k + 13) I) ?_ (fun i => ?_) (memCP_PX hp hP)
    · rw [memFr, memF_o (by omega) (by omega) (by omega)]
      simp (disch := omega) only [memCP, mcpy_at, mset_at, ↓if_pos, ↓if_neg, memCR_o, memCB_o]
    · rw [memFr, memF_o (by omega) (by omega) (by omega)]
      simp (disch := omega) only [memCP, mcpy_at, mset_at, ↓if_neg, memCR_o, memCB_o]
theorem memFr_Q (k : Nat) (I : MM) : SC0 (memFr k I) ∧ (∀ i, i ≠ 10 → memFr k I 27 i = I 27 i) ∧ memFr k I 21 6 = 0 := by
  refine ⟨memF_SC0 _, fun i hi => ?_, ?_⟩
  · rw [memFr, memF_5 _ hi, memCP_o (by omega), memCR_o (by omega), memCB_o (by omega)]
  · rw [memFr, memF_o (by omega) (by omega) (by omega), memCP_o (by omega), memCR, mset_at, if_pos ⟨rfl, rfl⟩]
theorem X_from (hX : XR I s) (hO : OK s) : XQ (d + 3) 133 [vI i] [1, 2, 3, 4, 5, 6, 7, 8, 9, 21, 22, 25, 26, 27, 32, 33] I (aFrom s i) (sFrom s i) (fun J => (SC0 J ∧ (∀ i, i ≠ 10 → J 27 i = I 27 i) ∧ J 21 6 = 0) ∨ (∀ a, a ≠ 1 → ∀ i, J a i = I a i)) := by
  obtain ⟨-, -, -, -, hI0, hI1⟩ := hO
  unfold aFrom sFrom
  by_cases h : kImg i
  · rw [if_pos h, if_pos h]
    have : i = 0 ∨ i = 1 := by omega
    rcases this with rfl | rfl
    · have e : isK s 0 = s 4 6 0 := if_pos rfl
      have e0 : I 40 0 = s 4 6 0 := hX.I0.1
      rw [e]
      by_cases h0 : s 4 6 0 = 0
      · rw [if_pos h0, if_pos h0]
        refine ⟨xbump I 1, ?_, hX.bump (by omega), fun a ha i => xbump_o (fun q => ha (by simp [q])) i, Or.inr (fun a ha i => xbump_o ha i)⟩
        rw [en133]
        simp (disch := omega) only [r133_0, r133_1, r133_4, r133_5, r133_6, r133_9, r133_10, r133_12, r133_14, r133_17, r133_18, r133_19, r133_20, r133_23, r133_23a, r133_24, r133_24a, r133_25, r133_25a, r133_28, r133_31, r133_32, r133_34, r133_36, r133_39, r133_40, r133_41, r133_44, r133_44a, r133_45, r133_45a, r133_48, r133_48a, r133_51, r133_52, r133_55, r133_55a, r133_56, r133_56a, r133_59, r133_59a, r133_62, r133_63, r133_66, r133_66a, r133_67, r133_67a, r133_70, r133_70a, r133_73, r133_74, r133_77, r133_80, r133_81, ↓if_pos, ↓if_neg, x_imageOf0, x_no, Option.bind_some, pushR_s]
      · rw [if_neg h0, if_neg h0, takeI_0]
        have h1 := hI0.1.resolve_left h0
        obtain ⟨b1, b2, b3⟩ := memFr_X (by omega) hX.I0 h1 (hI0.2 h1).2.2.1.2 (hI0.2 h1).2.2.2.2.1.2
        refine ⟨memFr 40 I, ?_, ⟨b1, hX.T.cong (memFr_o (by omega) _) (memFr_o (by omega)), b2, b3, hX.C.cong (fun i _ => memFr_o1 i), hX.F.cong (memFr_o (by omega)) (memFr_o (by omega)) (memFr_o (by omega) _) (memFr_o (by omega) _), hX.I0.cong (fun a a1 a2 i => memFr_o (by omega) i), hX.I1.cong (fun a a1 a2 i => memFr_o (by omega) i), hX.K.cong (memFr_o (by omega)) (memFr_o (by omega))⟩, fun k hk i => ?_, Or.inl (memFr_Q 40 I)⟩
        · rw [en133]
          simp (disch := omega) only [r133_0, r133_1, r133_4, r133_5, r133_6, r133_9, r133_10, r133_12, r133_14, r133_17, r133_18, r133_19, r133_20, r133_23, r133_23a, r133_24, r133_24a, r133_25, r133_25a, r133_28, r133_31, r133_32, r133_34, r133_36, r133_39, r133_40, r133_41, r133_44, r133_44a, r133_45, r133_45a, r133_48, r133_48a, r133_51, r133_52, r133_55, r133_55a, r133_56, r133_56a, r133_59, r133_59a, r133_62, r133_63, r133_66, r133_66a, r133_67, r133_67a, r133_70, r133_70a, r133_73, r133_74, r133_77, r133_80, r133_81, ↓if_pos, ↓if_neg, x_imageOf0, x_copyB_2_41, x_copyR_21_49, x_copyP_25_53, x_forget, Option.bind_some, pushR_s, pushR_n]
          rfl
        · simp at hk
          by_cases k0 : k = 0
          · subst k0; rw [memFr, memF_o (by omega) (by omega) (by omega), memCP_o (by omega), memCR_o (by omega), memCB_o (by omega)]
          · exact memFr_o (by omega) i
    · have e : isK s 1 = s 5 6 0 := if_neg (by decide)
      have e0 : I 55 0 = s 5 6 0 := hX.I1.1
      rw [e]
      by_cases h0 : s 5 6 0 = 0
      · rw [if_pos h0, if_pos h0]
        refine ⟨xbump I 1, ?_, hX.bump (by omega), fun a ha i => xbump_o (fun q => ha (by simp [q])) i, Or.inr (fun a ha i => xbump_o ha i)⟩
        rw [en133]
        simp (disch := omega) only [r133_0, r133_1, r133_4, r133_5, r133_6, r133_9, r133_10, r133_12, r133_14, r133_17, r133_18, r133_19, r133_20, r133_23, r133_23a, r133_24, r133_24a, r133_25, r133_25a, r133_28, r133_31, r133_32, r133_34, r133_36, r133_39, r133_40, r133_41, r133_44, r133_44a, r133_45, r133_45a, r133_48, r133_48a, r133_51, r133_52, r133_55, r133_55a, r133_56, r133_56a, r133_59, r133_59a, r133_62, r133_63, r133_66, r133_66a, r133_67, r133_67a, r133_70, r133_70a, r133_73, r133_74, r133_77, r133_80, r133_81, ↓if_pos, ↓if_neg, x_imageOf1, x_no, Option.bind_some, pushR_s]
      · rw [if_neg h0, if_neg h0, takeI_1]
        have h1 := hI1.1.resolve_left h0
        obtain ⟨b1, b2, b3⟩ := memFr_X (by omega) hX.I1 h1 (hI1.2 h1).2.2.1.2 (hI1.2 h1).2.2.2.2.1.2
        refine ⟨memFr 55 I, ?_, ⟨b1, hX.T.cong (memFr_o (by omega) _) (memFr_o (by omega)), b2, b3, hX.C.cong (fun i _ => memFr_o1 i), hX.F.cong (memFr_o (by omega)) (memFr_o (by omega)) (memFr_o (by omega) _) (memFr_o (by omega) _), hX.I0.cong (fun a a1 a2 i => memFr_o (by omega) i), hX.I1.cong (fun a a1 a2 i => memFr_o (by omega) i), hX.K.cong (memFr_o (by omega)) (memFr_o (by omega))⟩, fun k hk i => ?_, Or.inl (memFr_Q 55 I)⟩
        · rw [en133]
          simp (disch := omega) only [r133_0, r133_1, r133_4, r133_5, r133_6, r133_9, r133_10, r133_12, r133_14, r133_17, r133_18, r133_19, r133_20, r133_23, r133_23a, r133_24, r133_24a, r133_25, r133_25a, r133_28, r133_31, r133_32, r133_34, r133_36, r133_39, r133_40, r133_41, r133_44, r133_44a, r133_45, r133_45a, r133_48, r133_48a, r133_51, r133_52, r133_55, r133_55a, r133_56, r133_56a, r133_59, r133_59a, r133_62, r133_63, r133_66, r133_66a, r133_67, r133_67a, r133_70, r133_70a, r133_73, r133_74, r133_77, r133_80, r133_81, ↓if_pos, ↓if_neg, x_imageOf1, x_copyB_2_56, x_copyR_21_64, x_copyP_25_68, x_forget, Option.bind_some, pushR_s, pushR_n]
          rfl
        · simp at hk
          by_cases k0 : k = 0
          · subst k0; rw [memFr, memF_o (by omega) (by omega) (by omega), memCP_o (by omega), memCR_o (by omega), memCB_o (by omega)]
          · exact memFr_o (by omega) i
  · rw [if_neg h, if_neg h]
    refine ⟨xbump I 0, ?_, hX.bump (by omega), fun a ha i => xbump_o (fun q => ha (by simp [q])) i, Or.inr (fun a ha i => xbump_o ha i)⟩
    rw [en133]
    by_cases q : i < 0 <;> simp (disch := omega) only [r133_0, r133_1, r133_4, r133_5, r133_6, r133_9, r133_10, r133_12, r133_14, r133_17, r133_18, r133_19, r133_20, r133_23, r133_23a, r133_24, r133_24a, r133_25, r133_25a, r133_28, r133_31, r133_32, r133_34, r133_36, r133_39, r133_40, r133_41, r133_44, r133_44a, r133_45, r133_45a, r133_48, r133_48a, r133_51, r133_52, r133_55, r133_55a, r133_56, r133_56a, r133_59, r133_59a, r133_62, r133_63, r133_66, r133_66a, r133_67, r133_67a, r133_70, r133_70a, r133_73, r133_74, r133_77, r133_80, r133_81, ↓if_pos, ↓if_neg, x_bad, Option.bind_some, pushR_s]
theorem image_loop (hi : 0 ≤ i ∧ i ≤ 1) : ∀ (n : Nat) (k : Int) (J : MM), k + n = 110 → 0 ≤ k → (∀ j, 0 ≤ j → j < k → J 72 (110 * i + j) = I 71 j) → (∀ a j, ¬ (a = 72 ∧ 110 * i ≤ j ∧ j < 110 * i + 110) → J a j = I a j) → ∃ K, runs (call d) 258 19 [vR 70, vI i, vI k] [] J = runs (call d) 258 48 [vR 70, vI i, vI 110] [] K ∧ (∀ j, 0 ≤ j → j < 110 → K 72 (110 * i + j) = I 71 j) ∧ (∀ a j, ¬ (a = 72 ∧ 110 * i ≤ j ∧ j < 110 * i + 110) → K a j = I a j) := by
  intro n
  induction n with
  | zero =>
    intro k J hk k0 h1 h2
    have hk2 : k = 110 := by omega
    subst hk2
    refine ⟨J, ?_, h1, h2⟩
    simp (disch := omega) only [r258_0, r258_1, r258_2, r258_3, r258_4, r258_7, r258_10, r258_11, r258_13, r258_16, r258_17, r258_18, r258_19, r258_20, r258_22, r258_25, r258_26, r258_29, r258_31, r258_32, r258_33, r258_34, r258_35, r258_36, r258_39, r258_40, r258_41, r258_42, r258_45, r258_49, r258_52, r258_53, r258_54, r258_55, r258_56, ↓if_pos, ↓if_neg]
  | succ n ih =>
    intro k J hk k0 h1 h2
    push_cast at hk
    obtain ⟨K, e, q1, q2⟩ := ih (k + 1) (mset J 72 (110 * i + k) (J 71 k)) (by omega) (by omega) (fun j j0 j1 => by
      by_cases hj : j = k
      · rw [mset_at, if_pos ⟨rfl, by omega⟩, h2 71 k (by omega), hj]
      · rw [mset_at, if_neg (by omega)]; exact h1 j j0 (by omega)) (fun a j hj => by rw [mset_at, if_neg (by omega)]; exact h2 a j hj)
    refine ⟨K, Eq.trans ?_ e, q1, q2⟩
    rw [r258_19]
    simp (disch := omega) only [r258_0, r258_1, r258_2, r258_3, r258_4, r258_7, r258_10, r258_11, r258_13, r258_16, r258_17, r258_18, r258_20, r258_22, r258_25, r258_26, r258_29, r258_31, r258_32, r258_33, r258_34, r258_35, r258_36, r258_39, r258_40, r258_41, r258_42, r258_45, r258_49, r258_52, r258_53, r258_54, r258_55, r258_56, ↓if_pos, ↓if_neg, imul_eq, iadd_eq]
theorem from_loop (hi : 0 ≤ i ∧ i ≤ 1) : ∀ (n : Nat) (k : Int) (J : MM), k + n = 110 → 0 ≤ k → (∀ j, 0 ≤ j → j < k → J 71 j = I 72 (110 * i + j)) → (∀ a j, ¬ (a = 71 ∧ 0 ≤ j ∧ j < 110) → J a j = I a j) → ∃ K, runs (call d) 259 33 [vR 70, vI i, vI k] [] J = runs (call d) 259 62 [vR 70, vI i, vI 110] [] K ∧ (∀ j, 0 ≤ j → j < 110 → K 71 j = I 72 (110 * i + j)) ∧ (∀ a j, ¬ (a = 71 ∧ 0 ≤ j ∧ j < 110) → K a j = I a j) := by
  intro n
  induction n with
  | zero =>
    intro k J hk k0 h1 h2
    have hk2 : k = 110 := by omega
    subst hk2
    refine ⟨J, ?_, h1, h2⟩
    simp (disch := omega) only [r259_0, r259_1, r259_2, r259_3, r259_4, r259_7, r259_10, r259_11, r259_13, r259_16, r259_17, r259_18, r259_21, r259_22, r259_23, r259_26, r259_27, r259_30, r259_31, r259_32, r259_33, r259_34, r259_36, r259_39, r259_40, r259_43, r259_44, r259_45, r259_48, r259_50, r259_51, r259_52, r259_53, r259_54, r259_55, r259_56, r259_59, r259_63, ↓if_pos, ↓if_neg]
  | succ n ih =>
    intro k J hk k0 h1 h2
    push_cast at hk
    obtain ⟨K, e, q1, q2⟩ := ih (k + 1) (mset J 71 k (J 72 (110 * i + k))) (by omega) (by omega) (fun j j0 j1 => by
      by_cases hj : j = k
      · rw [mset_at, if_pos ⟨rfl, by omega⟩, h2 72 _ (by omega), hj]
      · rw [mset_at, if_neg (by omega)]; exact h1 j j0 (by omega)) (fun a j hj => by rw [mset_at, if_neg (by omega)]; exact h2 a j hj)
    refine ⟨K, Eq.trans ?_ e, q1, q2⟩
    rw [r259_33]
    simp (disch := omega) only [r259_0, r259_1, r259_2, r259_3, r259_4, r259_7, r259_10, r259_11, r259_13, r259_16, r259_17, r259_18, r259_21, r259_22, r259_23, r259_26, r259_27, r259_30, r259_31, r259_32, r259_34, r259_36, r259_39, r259_40, r259_43, r259_44, r259_45, r259_48, r259_50, r259_51, r259_52, r259_53, r259_54, r259_55, r259_56, r259_59, r259_63, ↓if_pos, ↓if_neg, imul_eq, iadd_eq]
theorem M_image (hM : MR I s) (hO : OK s) : MA (d + 2) 258 [vI i] I (aImage i) (sImage s i) := by
  unfold aImage sImage
  by_cases h : kImg i
  · rw [if_pos h, if_pos h]
    obtain ⟨K, k1, k2, k3⟩ := image_loop (I := I) (d := d + 1) h 110 0 I (by omega) (by omega) (fun j j0 j1 => by omega) (fun _ _ _ => rfl)
    have oK : ∀ a j, a ≠ 72 → a ≠ 73 → mset K 73 i 1 a j = I a j := fun a j h1 h2 => by
      rw [mset_at, if_neg (by omega), k3 a j (by omega)]
    have hrun : call (d + 2) 258 [vR 70, vI i] I = some (some (vI 1), mset K 73 i 1) := by
      rw [en258]
      simp (disch := omega) only [r258_0, r258_1, r258_2, r258_3, r258_4, r258_7, r258_10, r258_11, r258_13, r258_16, r258_17, r258_18, r258_20, r258_22, r258_25, r258_26, r258_29, r258_31, r258_32, r258_33, r258_34, r258_35, r258_36, r258_39, r258_40, r258_41, r258_42, r258_45, r258_48, r258_49, r258_52, r258_53, r258_54, r258_55, r258_56, ↓if_pos, ↓if_neg, m_in, Option.bind_some, pushR_s]
      rw [k1]
      simp (disch := omega) only [r258_0, r258_1, r258_2, r258_3, r258_4, r258_7, r258_10, r258_11, r258_13, r258_16, r258_17, r258_18, r258_19, r258_20, r258_22, r258_25, r258_26, r258_29, r258_31, r258_32, r258_33, r258_34, r258_35, r258_36, r258_39, r258_40, r258_41, r258_42, r258_45, r258_48, r258_49, r258_52, r258_53, r258_54, r258_55, r258_56, ↓if_pos, ↓if_neg]
    have o : OUT MC I (mset K 73 i 1) := fun a ha j => oK a j (fun q => ha (by simp [q])) (fun q => ha (by simp [q]))
    have hN : NM (mset K 73 i 1 71) (gg s) (s 3) := hM.N.cong (fun j _ _ => oK 71 j (by omega) (by omega)) hO.1
    have hT := hM.T.cong (oK 70 20 (by omega) (by omega)) (fun j => oK 84 j (by omega) (by omega))
    have hC := hM.C.cong (fun j => oK 74 j (by omega) (by omega))
    have hF := hM.F.cong (fun j => oK 75 j (by omega) (by omega)) (fun j => oK 76 j (by omega) (by omega)) (oK 70 6 (by omega) (by omega))
    have hnew : NM (fun j => mset K 73 i 1 72 (110 * i + j)) (gg s) (s 3) := hM.N.cong (fun j j0 j1 => by rw [mset_at, if_neg (by omega)]; exact k2 j j0 j1) hO.1
    have : i = 0 ∨ i = 1 := by omega
    rcases this with rfl | rfl
    · rw [putI_0]
      refine ⟨_, hrun, ⟨hN, hT, hC, hF, ⟨by rw [mset_at, if_pos ⟨rfl, rfl⟩]; rfl, fun _ => hnew⟩, ⟨by rw [mset_at, if_neg (by omega), k3 73 1 (by omega)]; exact hM.I1.1, fun q => (hM.I1.2 q).cong (fun j j0 j1 => by rw [mset_at, if_neg (by omega)]; exact k3 72 _ (by omega)) (hO.2.2.2.2.2.2 q)⟩⟩, o⟩
    · rw [putI_1]
      refine ⟨_, hrun, ⟨hN, hT, hC, hF, ⟨by rw [mset_at, if_neg (by omega), k3 73 0 (by omega)]; exact hM.I0.1, fun q => (hM.I0.2 q).cong (fun j j0 j1 => by rw [mset_at, if_neg (by omega)]; exact k3 72 _ (by omega)) (hO.2.2.2.2.1.2 q)⟩, ⟨by rw [mset_at, if_pos ⟨rfl, rfl⟩]; rfl, fun _ => hnew⟩⟩, o⟩
  · rw [if_neg h, if_neg h]; refine MA.bump hO hM (by omega) ?_
    rw [en258]; simp (disch := omega) only [r258_0, r258_1, r258_2, r258_3, r258_4, r258_7, r258_10, r258_11, r258_13, r258_16, r258_17, r258_18, r258_19, r258_20, r258_22, r258_25, r258_26, r258_29, r258_31, r258_32, r258_33, r258_34, r258_35, r258_36, r258_39, r258_40, r258_41, r258_42, r258_45, r258_48, r258_49, r258_52, r258_53, r258_54, r258_55, r258_56, ↓if_pos, ↓if_neg, m_in, m_bad, Option.bind_some, pushR_s]
theorem M_from (hM : MR I s) (hO : OK s) : MA (d + 2) 259 [vI i] I (aFrom s i) (sFrom s i) := by
  unfold aFrom sFrom
  by_cases h : kImg i
  · rw [if_pos h, if_pos h]
    have e73 : I 73 i = isK s i := by
      have : i = 0 ∨ i = 1 := by omega
      rcases this with rfl | rfl
      · exact hM.I0.1.trans (if_pos rfl).symm
      · exact hM.I1.1.trans (if_neg (by decide)).symm
    by_cases h0 : isK s i = 0
    · rw [if_pos h0, if_pos h0]; refine MA.bump hO hM (by omega) ?_
      rw [en259]; simp (disch := omega) only [r259_0, r259_1, r259_2, r259_3, r259_4, r259_7, r259_10, r259_11, r259_13, r259_16, r259_17, r259_18, r259_21, r259_22, r259_23, r259_26, r259_27, r259_30, r259_31, r259_32, r259_33, r259_34, r259_36, r259_39, r259_40, r259_43, r259_44, r259_45, r259_48, r259_50, r259_51, r259_52, r259_53, r259_54, r259_55, r259_56, r259_59, r259_62, r259_63, ↓if_pos, ↓if_neg, m_in, m_no, Option.bind_some, pushR_s]
    · rw [if_neg h0, if_neg h0]
      obtain ⟨K, k1, k2, k3⟩ := from_loop (I := I) (d := d + 1) h 110 0 I (by omega) (by omega) (fun j j0 j1 => by omega) (fun _ _ _ => rfl)
      have oK : ∀ a j, a ≠ 71 → K a j = I a j := fun a j h1 => k3 a j (by omega)
      have hrun : call (d + 2) 259 [vR 70, vI i] I = some (some (vI 1), K) := by
        rw [en259]
        simp (disch := omega) only [r259_0, r259_1, r259_2, r259_3, r259_4, r259_7, r259_10, r259_11, r259_13, r259_16, r259_17, r259_18, r259_21, r259_22, r259_23, r259_26, r259_27, r259_30, r259_31, r259_32, r259_34, r259_36, r259_39, r259_40, r259_43, r259_44, r259_45, r259_48, r259_50, r259_51, r259_52, r259_53, r259_54, r259_55, r259_56, r259_59, r259_62, r259_63, ↓if_pos, ↓if_neg, m_in, Option.bind_some, pushR_s]
        rw [k1]
        simp (disch := omega) only [r259_0, r259_1, r259_2, r259_3, r259_4, r259_7, r259_10, r259_11, r259_13, r259_16, r259_17, r259_18, r259_21, r259_22, r259_23, r259_26, r259_27, r259_30, r259_31, r259_32, r259_33, r259_34, r259_36, r259_39, r259_40, r259_43, r259_44, r259_45, r259_48, r259_50, r259_51, r259_52, r259_53, r259_54, r259_55, r259_56, r259_59, r259_62, r259_63, ↓if_pos, ↓if_neg]
      have o : OUT MC I K := fun a ha j => oK a j (fun q => ha (by simp [q]))
      have hT := hM.T.cong (oK 70 20 (by omega)) (fun j => oK 84 j (by omega))
      have hC := hM.C.cong (fun j => oK 74 j (by omega))
      have hF := hM.F.cong (fun j => oK 75 j (by omega)) (fun j => oK 76 j (by omega)) (oK 70 6 (by omega))
      have hI0 := hM.I0.cong (fun j => oK 73 j (by omega)) (fun j => oK 72 j (by omega)) hO.2.2.2.2.1
      have hI1 := hM.I1.cong (fun j => oK 73 j (by omega)) (fun j => oK 72 j (by omega)) hO.2.2.2.2.2
      have : i = 0 ∨ i = 1 := by omega
      rcases this with rfl | rfl
      · rw [takeI_0]
        have q1 : s 4 6 0 = 1 := hO.2.2.2.2.1.1.resolve_left (fun q => h0 ((if_pos rfl).trans q))
        exact ⟨_, hrun, ⟨(hM.I0.2 q1).cong (fun j j0 j1 => k2 j j0 j1) (hO.2.2.2.2.1.2 q1), hT, hC, hF, hI0, hI1⟩, o⟩
      · rw [takeI_1]
        have q1 : s 5 6 0 = 1 := hO.2.2.2.2.2.1.resolve_left (fun q => h0 ((if_neg (by decide)).trans q))
        exact ⟨_, hrun, ⟨(hM.I1.2 q1).cong (fun j j0 j1 => k2 j j0 j1) (hO.2.2.2.2.2.2 q1), hT, hC, hF, hI0, hI1⟩, o⟩
  · rw [if_neg h, if_neg h]; refine MA.bump hO hM (by omega) ?_
    rw [en259]; simp (disch := omega) only [r259_0, r259_1, r259_2, r259_3, r259_4, r259_7, r259_10, r259_11, r259_13, r259_16, r259_17, r259_18, r259_21, r259_22, r259_23, r259_26, r259_27, r259_30, r259_31, r259_32, r259_33, r259_34, r259_36, r259_39, r259_40, r259_43, r259_44, r259_45, r259_48, r259_50, r259_51, r259_52, r259_53, r259_54, r259_55, r259_56, r259_59, r259_62, r259_63, ↓if_pos, ↓if_neg, m_in, m_bad, Option.bind_some, pushR_s]
end
