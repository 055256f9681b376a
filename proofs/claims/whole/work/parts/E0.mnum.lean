/-! Numbers of the model: words and rows. -/
def BB (k : Nat) : Int := 1073741824 ^ k
def RLm (J : MM) (s m v : Int) : Prop := J 76 s = m ∧ ∀ i, 0 ≤ i → i < m → J 75 (64 * s + i) = lmb v i
def RP (J : MM) (s v : Int) : Prop := (0 ≤ v ∧ v < 1329227995784915872903807060280344576) ∧ RLm J s (lsz v) v
def FrB (s : Int) (I J : MM) : Prop := ∀ a i, ¬ (a = 75 ∧ 64 * s ≤ i ∧ i < 64 * s + 64) → ¬ (a = 76 ∧ i = s) → J a i = I a i
section
variable {d : Nat} {I J K : MM} {v u f s t m n p : Int} {k : Nat}
theorem BB_pos (k : Nat) : 0 < BB k := Int.pow_pos (by decide)
theorem BB_s (k : Nat) : BB (k + 1) = BB k * 1073741824 := Int.pow_succ _ _
theorem BB_0 : BB 0 = 1 := rfl
theorem lmb_k : lmb v (k : Int) = v / BB k % 1073741824 := by unfold lmb BB; simp
theorem div_s (v : Int) (k : Nat) : v / BB (k + 1) = v / BB k / 1073741824 := by rw [BB_s, Int.ediv_ediv_of_nonneg (Int.le_of_lt (BB_pos k))]
theorem lsz_r : 0 ≤ lsz v ∧ lsz v ≤ 4 := by
  unfold lsz
  split
  · omega
  · split
    · omega
    · split
      · omega
      · split <;> omega
theorem BB4 : BB 4 = 1329227995784915872903807060280344576 := by decide
/-- a number is below the power of its size, not below the one under it -/
theorem lsz_lt (hv : 0 ≤ v ∧ v < 1329227995784915872903807060280344576) (h : lsz v ≤ k) : v < BB k := by
  have h0 : BB 0 = 1 := rfl
  have h1 : BB 1 = 1073741824 := by decide
  have h2 : BB 2 = 1152921504606846976 := by decide
  have h3 : BB 3 = 1237940039285380274899124224 := by decide
  have hm : ∀ a b : Nat, a ≤ b → BB a ≤ BB b := fun a b hab => by
    obtain ⟨c, rfl⟩ := Nat.exists_eq_add_of_le hab
    clear hab h h0 h1 h2 h3
    induction c with
    | zero => exact Int.le_refl _
    | succ c ih =>
      rw [← Nat.add_assoc, BB_s]
      have := BB_pos (a + c)
      omega
  unfold lsz at h
  split at h
  · have := BB_pos k; omega
  · split at h
    · have := hm 1 k (by omega); omega
    · split at h
      · have := hm 2 k (by omega); omega
      · split at h
        · have := hm 3 k (by omega); omega
        · have := hm 4 k (by omega); rw [BB4] at this; omega
theorem lsz_le (hv : 0 ≤ v) (h : v < BB k) (hk : k ≤ 4) : lsz v ≤ k := by
  have h0 : BB 0 = 1 := rfl
  have h1 : BB 1 = 1073741824 := by decide
  have h2 : BB 2 = 1152921504606846976 := by decide
  have h3 : BB 3 = 1237940039285380274899124224 := by decide
  have hc : k = 0 ∨ k = 1 ∨ k = 2 ∨ k = 3 ∨ k = 4 := by omega
  unfold lsz
  rcases hc with rfl | rfl | rfl | rfl | rfl
  · rw [h0] at h; rw [if_pos (by omega)]; omega
  · rw [h1] at h; split
    · omega
    · first | omega | (rw [if_pos h]; omega)
  · rw [h2] at h; split
    · omega
    · split
      · omega
      · first | omega | (rw [if_pos h]; omega)
  · rw [h3] at h; split
    · omega
    · split
      · omega
      · split
        · omega
        · first | omega | (rw [if_pos h]; omega)
  · exact lsz_r.2
theorem lmb_hi (hv : 0 ≤ v ∧ v < 1329227995784915872903807060280344576) (h : lsz v ≤ k) : lmb v (k : Int) = 0 := by
  rw [lmb_k, Int.ediv_eq_zero_of_lt hv.1 (lsz_lt hv h)]; rfl
theorem lmb_top (hv : 0 ≤ v ∧ v < 1329227995784915872903807060280344576) (h : lsz v = k + 1) : lmb v (k : Int) ≠ 0 := by
  have hb := lsz_r (v := v)
  have h1 := lsz_lt hv (k := k + 1) (by omega)
  intro hz
  rw [lmb_k] at hz
  have h2 : v / BB k < 1073741824 := by
    rw [BB_s] at h1
    exact Int.ediv_lt_of_lt_mul (BB_pos k) (by rw [Int.mul_comm]; exact h1)
  have h3 : 0 ≤ v / BB k := Int.ediv_nonneg hv.1 (Int.le_of_lt (BB_pos k))
  rw [Int.emod_eq_of_lt h3 h2] at hz
  have h4 : v < BB k := by
    rcases Int.lt_or_le v (BB k) with z | z
    · exact z
    · exfalso
      have := Int.le_ediv_of_mul_le (BB_pos k) (show 1 * BB k ≤ v by omega)
      omega
  have := lsz_le hv.1 h4 (by omega)
  omega
theorem RLm.cong (h : RLm I s m v) (e76 : J 76 s = I 76 s) (e75 : ∀ i, 64 * s ≤ i → i < 64 * s + 64 → J 75 i = I 75 i) (hm : m ≤ 64) : RLm J s m v := ⟨e76.trans h.1, fun i i0 i1 => (e75 _ (by omega) (by omega)).trans (h.2 i i0 i1)⟩
theorem RP.fr (h : RP I t v) (f : FrB s I J) (hs : s ≠ t) : RP J t v := ⟨h.1, h.2.cong (f 76 t (by omega) (by omega)) (fun i i0 i1 => f 75 i (by omega) (by omega)) (by have := lsz_r (v := v); omega)⟩
theorem FrB.trans (f : FrB s I J) (f' : FrB s J K) : FrB s I K := fun a i h1 h2 => (f' a i h1 h2).trans (f a i h1 h2)
theorem FrB.refl : FrB s I I := fun _ _ _ _ => rfl
theorem FrB.s76 (w : Int) : FrB s I (mset I 76 s w) := fun a i h1 h2 => by rw [mset_at, if_neg (by omega)]
theorem FrB.s75 {i : Int} (w : Int) (hi : 0 ≤ i ∧ i < 64) : FrB s I (mset I 75 (64 * s + i) w) := fun a j h1 h2 => by rw [mset_at, if_neg (by omega)]
/-- leading noughts are cut off -/
theorem m_trimL (hv : 0 ≤ v ∧ v < 1329227995784915872903807060280344576) (hs : 0 ≤ s ∧ s ≤ 7) : ∀ (f : Nat) (m : Int) (J : MM), m = lsz v + f → m ≤ 5 → RLm J s m v → ∃ K, runs (call d) 148 0 [vR 70, vI s] [] J = some (none, K) ∧ RP K s v ∧ (∀ a i, ¬ (a = 76 ∧ i = s) → K a i = J a i) := by
  have hb := lsz_r (v := v)
  intro f
  induction f with
  | zero =>
    intro m J hm hm5 hR
    have e1 := hR.1
    have em : m = lsz v := by omega
    refine ⟨J, ?_, ⟨hv, em ▸ hR⟩, fun _ _ _ => rfl⟩
    by_cases h0 : m = 0
    · clear hR
      simp (disch := omega) only [r148_0, r148_1, r148_4, r148_5, r148_6, r148_9, r148_10, r148_13, r148_15, r148_16, r148_17, r148_18, r148_21, r148_22, r148_23, r148_24, r148_25, r148_26, r148_27, r148_28, r148_29, r148_32, r148_33, r148_36, r148_37, r148_38, r148_39, r148_40, r148_41, r148_42, r148_45, ↓if_pos, ↓if_neg, e1]
    · obtain ⟨k, hk⟩ : ∃ k : Nat, m - 1 = k := ⟨(m - 1).toNat, by omega⟩
      have ht := lmb_top (v := v) (k := k) hv (by omega)
      have el := hR.2 k (by omega) (by omega)
      rw [← el] at ht
      have ei : 64 * s + m - 1 = 64 * s + (k : Int) := by omega
      clear hR el hv
      simp (disch := first | omega | exact ht) only [r148_0, r148_1, r148_4, r148_5, r148_6, r148_9, r148_10, r148_13, r148_15, r148_16, r148_17, r148_18, r148_21, r148_22, r148_23, r148_24, r148_25, r148_26, r148_27, r148_28, r148_29, r148_32, r148_33, r148_36, r148_37, r148_38, r148_39, r148_40, r148_41, r148_42, r148_45, ↓if_pos, ↓if_neg, e1, imul_eq, iadd_eq, isub_eq, ei]
  | succ f ih =>
    intro m J hm hm5 hR
    have e1 := hR.1
    obtain ⟨k, hk⟩ : ∃ k : Nat, m - 1 = k := ⟨(m - 1).toNat, by omega⟩
    have ht := lmb_hi (v := v) (k := k) hv (by omega)
    have el := hR.2 k (by omega) (by omega)
    rw [ht] at el
    have ei : 64 * s + m - 1 = 64 * s + (k : Int) := by omega
    obtain ⟨K, c2, q2, f2⟩ := ih (m - 1) (mset J 76 s (m - 1)) (by omega) (by omega) ⟨by rw [mset_at, if_pos ⟨rfl, rfl⟩], fun i i0 i1 => by rw [mset_at, if_neg (by omega)]; exact hR.2 i i0 (by omega)⟩
    refine ⟨K, ?_, q2, fun a i h => by rw [f2 a i h, mset_at, if_neg (by omega)]⟩
    rw [← c2, r148_0]
    clear hR ih c2 q2 hv ht
    simp (disch := omega) only [r148_1, r148_4, r148_5, r148_6, r148_9, r148_10, r148_13, r148_15, r148_16, r148_17, r148_18, r148_21, r148_22, r148_23, r148_24, r148_25, r148_26, r148_27, r148_28, r148_29, r148_32, r148_33, r148_36, r148_37, r148_38, r148_39, r148_40, r148_41, r148_42, r148_45, ↓if_pos, ↓if_neg, e1, imul_eq, iadd_eq, isub_eq, ei, el]
theorem m_trim (hv : 0 ≤ v ∧ v < 1329227995784915872903807060280344576) (hs : 0 ≤ s ∧ s ≤ 7) (hm : lsz v ≤ m ∧ m ≤ 5) (hR : RLm I s m v) : ∃ K, call (d + 1) 148 [vR 70, vI s] I = some (none, K) ∧ RP K s v ∧ (∀ a i, ¬ (a = 76 ∧ i = s) → K a i = I a i) := by
  rw [en148]
  exact m_trimL (d := d) hv hs (m - lsz v).toNat m I (by omega) hm.2 hR
theorem m_copyL (hs : 0 ≤ s ∧ s ≤ 7) (ht : 0 ≤ t ∧ t ≤ 7) (hne : s ≠ t) (hP : RP I t v) : ∀ (f : Nat) (i : Int) (J : MM), 0 ≤ i → i + f = lsz v → FrB s I J → (∀ j, 0 ≤ j → j < i → J 75 (64 * s + j) = lmb v j) → ∃ K, runs (call d) 147 2 [vR 70, vI s, vI t, vI i] [] J = some (none, K) ∧ RP K s v ∧ FrB s I K := by
  have hb := lsz_r (v := v)
  intro f
  induction f with
  | zero =>
    intro i J i0 hi hf hl
    have e1 : J 76 t = lsz v := (hf 76 t (by omega) (by omega)).trans hP.2.1
    refine ⟨mset J 76 s (lsz v), ?_, ⟨hP.1, by rw [mset_at, if_pos ⟨rfl, rfl⟩], fun j j0 j1 => by rw [mset_at, if_neg (by omega)]; exact hl j j0 (by omega)⟩, hf.trans (FrB.s76 _)⟩
    clear hP hf hl
    simp (disch := omega) only [r147_0, r147_1, r147_2, r147_3, r147_4, r147_7, r147_8, r147_9, r147_12, r147_13, r147_16, r147_18, r147_19, r147_20, r147_21, r147_22, r147_23, r147_26, r147_28, r147_29, r147_30, r147_31, r147_32, r147_33, r147_34, r147_37, r147_40, r147_41, r147_44, r147_45, r147_46, r147_49, r147_50, r147_51, r147_52, ↓if_pos, ↓if_neg, e1]
  | succ f ih =>
    intro i J i0 hi hf hl
    have e1 : J 76 t = lsz v := (hf 76 t (by omega) (by omega)).trans hP.2.1
    have e2 : J 75 (64 * t + i) = lmb v i := (hf 75 _ (by omega) (by omega)).trans (hP.2.2 i i0 (by omega))
    obtain ⟨K, c2, q2, f2⟩ := ih (i + 1) (mset J 75 (64 * s + i) (lmb v i)) (by omega) (by omega) (hf.trans (FrB.s75 _ (by omega))) (fun j j0 j1 => by
      by_cases hj : j = i
      · rw [mset_at, if_pos ⟨rfl, by omega⟩, hj]
      · rw [mset_at, if_neg (by omega)]; exact hl j j0 (by omega))
    refine ⟨K, ?_, q2, f2⟩
    rw [← c2, r147_2]
    clear ih c2 q2 hP hf hl
    simp (disch := omega) only [r147_0, r147_1, r147_3, r147_4, r147_7, r147_8, r147_9, r147_12, r147_13, r147_16, r147_18, r147_19, r147_20, r147_21, r147_22, r147_23, r147_26, r147_28, r147_29, r147_30, r147_31, r147_32, r147_33, r147_34, r147_37, r147_40, r147_41, r147_44, r147_45, r147_46, r147_49, r147_50, r147_51, r147_52, ↓if_pos, ↓if_neg, e1, e2, imul_eq, iadd_eq]
theorem m_copy (hs : 0 ≤ s ∧ s ≤ 7) (ht : 0 ≤ t ∧ t ≤ 7) (hne : s ≠ t) (hP : RP I t v) : ∃ K, call (d + 1) 147 [vR 70, vI s, vI t] I = some (none, K) ∧ RP K s v ∧ FrB s I K := by
  have hb := lsz_r (v := v)
  obtain ⟨K, c1, q1, f1⟩ := m_copyL (d := d) hs ht hne hP (lsz v).toNat 0 I (by omega) (by omega) FrB.refl (fun j j0 j1 => by omega)
  refine ⟨K, ?_, q1, f1⟩
  rw [← c1, en147]
  clear c1 q1 hP
  simp (disch := omega) only [r147_0, r147_1, r147_3, r147_4, r147_7, r147_8, r147_9, r147_12, r147_13, r147_16, r147_18, r147_19, r147_20, r147_21, r147_22, r147_23, r147_26, r147_28, r147_29, r147_30, r147_31, r147_32, r147_33, r147_34, r147_37, r147_40, r147_41, r147_44, r147_45, r147_46, r147_49, r147_50, r147_51, r147_52]
theorem m_set (hs : 0 ≤ s ∧ s ≤ 7) (hv : 0 ≤ v ∧ v < 1073741824) : ∃ K, call (d + 1) 146 [vR 70, vI s, vL v] I = some (none, K) ∧ RP K s v ∧ FrB s I K := by
  by_cases h0 : v = 0
  · subst h0
    refine ⟨mset I 76 s 0, ?_, ⟨by omega, by rw [mset_at, if_pos ⟨rfl, rfl⟩]; decide, fun i i0 i1 => absurd i1 (by rw [show lsz 0 = 0 by decide]; omega)⟩, FrB.s76 _⟩
    rw [en146]
    simp (disch := omega) only [r146_0, r146_1, r146_3, r146_4, r146_7, r146_8, r146_9, r146_10, r146_12, r146_13, r146_14, r146_17, r146_18, r146_21, r146_23, r146_24, r146_25, r146_26, r146_29, r146_30, r146_31, r146_32, r146_34, r146_37, r146_38, r146_39, r146_41, r146_44, r146_45, r146_47, r146_48, r146_51, r146_52, r146_53, r146_54, r146_55, r146_56, r146_57, r146_60, ↓if_pos, ↓if_neg, kill]
  · have e1 : lsz v = 1 := by unfold lsz; rw [if_neg (by omega), if_pos (by omega)]
    have er : lrem v 1073741824 = v := by rw [lrem_pos (by omega) (by omega)]; omega
    have ed : ldiv v 1073741824 = 0 := by rw [ldiv_pos (by omega) (by omega)]; omega
    refine ⟨mset (mset (mset I 76 s 0) 75 (64 * s) v) 76 s 1, ?_, ⟨by omega, by rw [e1, mset_at, if_pos ⟨rfl, rfl⟩], fun i i0 i1 => ?_⟩, ?_⟩
    · rw [en146]
      simp (disch := omega) only [r146_0, r146_1, r146_3, r146_4, r146_7, r146_8, r146_9, r146_10, r146_12, r146_13, r146_14, r146_17, r146_18, r146_21, r146_23, r146_24, r146_25, r146_26, r146_29, r146_30, r146_31, r146_32, r146_34, r146_37, r146_38, r146_39, r146_41, r146_44, r146_45, r146_47, r146_48, r146_51, r146_52, r146_53, r146_54, r146_55, r146_56, r146_57, r146_60, ↓if_pos, ↓if_neg, kill, mset_at, imul_eq, iadd_eq, Int.add_zero, er, ed, Int.zero_add]
    · rw [e1] at i1
      have : i = 0 := by omega
      subst this
      rw [mset_at, if_neg (by omega), mset_at, if_pos ⟨rfl, by omega⟩, lmb0]; omega
    · have := (FrB.s76 (s := s) (I := I) 0).trans (FrB.s75 (i := 0) v (by omega))
      rw [Int.add_zero] at this
      exact this.trans (FrB.s76 _)
theorem m_isEven (hs : 0 ≤ s ∧ s ≤ 7) (hP : RP I s v) : call (d + 1) 154 [vR 70, vI s] I = some (some (vI (if v % 2 = 0 then 1 else 0)), I) := by
  have hb := lsz_r (v := v)
  have e1 := hP.2.1
  have hz := lsz_0 hP.1.1
  rw [en154]
  by_cases h0 : v = 0
  · have hl : lsz v = 0 := hz.mpr h0
    rw [hl] at e1
    rw [h0, if_pos (by decide)]
    clear hP hz
    simp (disch := omega) only [r154_0, r154_1, r154_4, r154_5, r154_6, r154_9, r154_10, r154_13, r154_15, r154_16, r154_17, r154_18, r154_21, r154_22, r154_23, r154_24, r154_27, r154_28, r154_31, r154_32, ↓if_pos, ↓if_neg, e1]
  · have hl : ¬ lsz v = 0 := fun z => h0 (hz.mp z)
    have e2 := hP.2.2 0 (by omega) (by omega)
    rw [Int.add_zero, lmb0] at e2
    have er : lrem (v % 1073741824) 2 = v % 2 := by rw [lrem_pos (by omega) (by omega)]; omega
    have hp := hP.1
    clear hP hz
    by_cases h : v % 2 = 0
    · rw [if_pos h]
      rw [h] at er
      simp (disch := omega) only [r154_0, r154_1, r154_4, r154_5, r154_6, r154_9, r154_10, r154_13, r154_15, r154_16, r154_17, r154_18, r154_21, r154_22, r154_23, r154_24, r154_27, r154_28, r154_31, r154_32, ↓if_pos, ↓if_neg, e1, imul_eq, e2, er]
    · rw [if_neg h]
      simp (disch := omega) only [r154_0, r154_1, r154_4, r154_5, r154_6, r154_9, r154_10, r154_13, r154_15, r154_16, r154_17, r154_18, r154_21, r154_22, r154_23, r154_24, r154_27, r154_28, r154_31, r154_32, ↓if_pos, ↓if_neg, e1, imul_eq, e2, er]
end
