/-! over, why, status, count, sign, limb, clear, erase, write, in both. -/
theorem l2i_eq {x : Int} (h : -2147483648 ≤ x ∧ x ≤ 2147483647) : l2i x = x := by
  have e : (Int64.ofInt x).toInt32 = Int32.ofInt x := by simp
  rw [l2i, e]; exact i32_id h
def ovi (g : G) (c : Int) : Int := if overs g c then 1 else 0
theorem ovi_c (g : G) (c : Int) : ovi g c = 1 ∨ ovi g c = 0 := by unfold ovi; split <;> simp
theorem lmb_b (p i : Int) : 0 ≤ lmb p i ∧ lmb p i < 1073741824 := by unfold lmb; omega
theorem lsz_b (p : Int) : 0 ≤ lsz p ∧ lsz p ≤ 4 := by
  unfold lsz; split
  · omega
  · split
    · omega
    · split
      · omega
      · split <;> omega
theorem lsz_z {p : Int} (h : 0 ≤ p) : lsz p = 0 ↔ p = 0 := by
  unfold lsz; split
  · omega
  · split
    · omega
    · split
      · omega
      · split <;> omega
/-- an answer of the class with something more that holds behind it -/
def XQ (d z : Nat) (args : List AV) (l : List Nat) (I : MM) (r : Int) (s' : ST) (Q : MM → Prop) : Prop := ∃ J, call d z (vR 1 :: args) I = some (some (vI r), J) ∧ XR J s' ∧ OUT l I J ∧ Q J
section
variable {d : Nat} {I : MM} {s : ST} {g : G} {a c w x y b p v i : Int}
theorem x_isOveri (hA : At 2 I g) (hg : WG g) (hc : 0 ≤ c ∧ c < 131072) : call (d + 4) 15 [vR 2, vI c] I = some (some (vI (ovi g c)), I) := x_isOver hA hg hc
theorem m_isOveri (hR : RG I g) (hM : MS I g c) (hg : WG g) : call (d + 3) 178 [vR 70] I = some (some (vI (ovi g c)), I) := m_isOver hR hM hg
theorem X_over (hX : XR I s) (hO : OK s) : XA (d + 5) 119 [] [1] I (ovi (gg s) (cd s)) s := by
  refine XA.same hX ?_
  rw [en119]
  rcases ovi_c (gg s) (cd s) with k | k <;> rw [k] <;> simp (disch := omega) only [r119_0, r119_1, r119_4, r119_5, r119_8, r119_11, r119_14, r119_17, r119_18, r119_21, r119_22, ↓if_pos, ↓if_neg, hX.n, x_isOveri hX.A hO.W hO.V.c, k, Option.bind_some, pushR_s]
theorem M_over (hM : MR I s) (hO : OK s) : MA (d + 4) 197 [] I (ovi (gg s) (cd s)) s := by
  have f := (memN_fr I).to8
  have hv := m_isOveri (d := d) (hM.R.cong (f.oth (by omega))) (memN_MS hO.W hM.S) hO.W
  refine MA.fr8 hO hM f ?_
  rw [en197]
  rcases ovi_c (gg s) (cd s) with k | k <;> rw [k] at hv ⊢ <;> simp (disch := omega) only [r197_0, r197_1, r197_4, r197_5, r197_8, r197_11, r197_12, r197_15, r197_16, ↓if_pos, ↓if_neg, m_takeNow, hv, Option.bind_some, pushR_s, pushR_n]
theorem X_why (hX : XR I s) (hO : OK s) : XA (d + 6) 116 [vI a] [1] I (rso (why (gg s) (cd s) a)) s := XA.same hX (x_why hX.A hO.W hX.n hO.V)
theorem M_why (hM : MR I s) (hO : OK s) : MA (d + 9) 194 [vI a] I (rso (why (gg s) (cd s) a)) s := by
  obtain ⟨J, h1, h2⟩ := m_why (d := d) (a := a) hM.R hM.S hO.W hO.V
  exact MA.fr8 hO hM h2 h1
/-! status -/
def aStatus (s : ST) (x : Int) : Int := if 0 ≤ x ∧ x ≤ 2 then s 3 4 x else -1
def sStatus (s : ST) (x : Int) : ST := if 0 ≤ x ∧ x ≤ 2 then s else bump s 0
theorem X_status (hX : XR I s) : XA (d + 2) 134 [vI x] [1] I (aStatus s x) (sStatus s x) := by
  unfold aStatus sStatus
  obtain ⟨c0, c1, c2⟩ := hX.C
  by_cases h : 0 ≤ x ∧ x ≤ 2
  · rw [if_pos h, if_pos h]; refine XA.same hX ?_
    rw [en134]
    rcases w012 (w := x) (by omega) with rfl | rfl | rfl <;> simp (disch := omega) only [r134_0, r134_1, r134_1a, r134_1b, r134_1c, r134_28, r134_29, r134_32, r134_33, r134_34, r134_37, r134_38, r134_39, r134_42, r134_43, r134_44, r134_46, r134_47, r134_50, ↓if_pos, ↓if_neg, c0, c1, c2, Option.bind_some, pushR_s]
  · rw [if_neg h, if_neg h]; refine XA.bump hX (by omega) ?_
    rw [en134]; simp (disch := omega) only [r134_0, r134_1, r134_1a, r134_1b, r134_1c, r134_28, r134_29, r134_32, r134_33, r134_34, r134_37, r134_38, r134_39, r134_42, r134_43, r134_44, r134_46, r134_47, r134_50, ↓if_pos, ↓if_neg, x_bad, Option.bind_some, pushR_s]
theorem M_status (hM : MR I s) (hO : OK s) : MA (d + 2) 260 [vI x] I (aStatus s x) (sStatus s x) := by
  unfold aStatus sStatus
  obtain ⟨c0, c1, c2⟩ := hM.C
  by_cases h : 0 ≤ x ∧ x ≤ 2
  · rw [if_pos h, if_pos h]; refine MA.same hM ?_
    rw [en260]
    rcases w012 (w := x) (by omega) with rfl | rfl | rfl <;> simp (disch := omega) only [r260_0, r260_1, r260_2, r260_3, r260_6, r260_9, r260_12, r260_13, r260_16, r260_17, r260_18, r260_21, r260_22, r260_23, r260_26, ↓if_pos, ↓if_neg, m_in, c0, c1, c2, Option.bind_some, pushR_s]
  · rw [if_neg h, if_neg h]; refine MA.bump hO hM (by omega) ?_
    rw [en260]; simp (disch := omega) only [r260_0, r260_1, r260_2, r260_3, r260_6, r260_9, r260_12, r260_13, r260_16, r260_17, r260_18, r260_21, r260_22, r260_23, r260_26, ↓if_pos, ↓if_neg, m_in, m_bad, Option.bind_some, pushR_s]
/-! count -/
def amt (s : ST) (x : Int) : Int := if x = 0 then (gg s).nW else if x = 1 then (gg s).nB else if x = 2 then s 3 1 (-1) else if x = 3 then s 3 2 (-1) else if x = 4 then s 3 3 (-1) else (gg s).last
def aCount (s : ST) (x : Int) : Int := if 0 ≤ x ∧ x ≤ 5 then amt s x else -2
def sCount (s : ST) (x : Int) : ST := if 0 ≤ x ∧ x ≤ 5 then s else bump s 0
theorem x05 {x : Int} (h : 0 ≤ x ∧ x ≤ 5) : x = 0 ∨ x = 1 ∨ x = 2 ∨ x = 3 ∨ x = 4 ∨ x = 5 := by omega
theorem x_amount (hX : XR I s) (h : 0 ≤ x ∧ x ≤ 5) : call (d + 1) 137 [vR 1, vI x] I = some (some (vI (amt s x)), I) := by
  rw [en137]
  have e1 := hX.A.nW; have e2 := hX.A.nB; have e3 := hX.T.1; have e4 := hX.R.1; have e5 := hX.P.1; have e6 := hX.A.last
  rcases x05 h with rfl | rfl | rfl | rfl | rfl | rfl <;> simp (disch := omega) only [r137_0, r137_1, r137_1a, r137_1b, r137_1c, r137_1d, r137_1e, r137_36, r137_37, r137_40, r137_43, r137_44, r137_45, r137_48, r137_51, r137_52, r137_53, r137_56, r137_59, r137_60, r137_61, r137_64, r137_67, r137_68, r137_69, r137_72, r137_75, r137_76, r137_77, r137_80, r137_83, ↓if_pos, ↓if_neg, e1, e2, e3, e4, e5, e6, amt]
theorem m_counted (hM : MR I s) (h : 0 ≤ x ∧ x ≤ 5) : call (d + 2) 261 [vR 70, vI x] I = some (some (vI (amt s x)), I) := by
  rw [en261]
  have e3 := hM.T.1; have e4 : I 71 26 = s 3 2 (-1) := hM.N.2.2.1.1; have e5 : I 71 69 = s 3 3 (-1) := hM.N.2.2.2.1
  rcases x05 h with rfl | rfl | rfl | rfl | rfl | rfl <;> simp (disch := omega) only [r261_0, r261_1, r261_4, r261_5, r261_8, r261_11, r261_12, r261_13, r261_16, r261_17, r261_20, r261_23, r261_24, r261_25, r261_28, r261_29, r261_32, r261_35, r261_36, r261_37, r261_40, r261_41, r261_44, r261_46, r261_47, r261_50, r261_51, r261_52, r261_55, r261_56, r261_59, r261_61, r261_62, r261_65, r261_66, r261_69, ↓if_pos, ↓if_neg, m_walkers hM.R, m_boards hM.R, m_last hM.R, e3, e4, e5, amt, Option.bind_some, pushR_s]
theorem X_count (hX : XR I s) : XA (d + 2) 135 [vI x] [1] I (aCount s x) (sCount s x) := by
  unfold aCount sCount
  by_cases h : 0 ≤ x ∧ x ≤ 5
  · rw [if_pos h, if_pos h]; refine XA.same hX ?_
    rw [en135]; simp (disch := omega) only [r135_0, r135_1, r135_4, r135_5, r135_6, r135_9, r135_10, r135_12, r135_14, r135_17, r135_18, r135_19, r135_20, r135_23, ↓if_pos, ↓if_neg, x_amount hX, Option.bind_some, pushR_s]
  · rw [if_neg h, if_neg h]; refine XA.bump hX (by omega) ?_
    rw [en135]
    by_cases q : x < 0 <;> simp (disch := omega) only [r135_0, r135_1, r135_4, r135_5, r135_6, r135_9, r135_10, r135_12, r135_14, r135_17, r135_18, r135_19, r135_20, r135_23, ↓if_pos, ↓if_neg, x_bad, Option.bind_some, pushR_s]
theorem M_count (hM : MR I s) (hO : OK s) : MA (d + 3) 262 [vI x] I (aCount s x) (sCount s x) := by
  unfold aCount sCount
  by_cases h : 0 ≤ x ∧ x ≤ 5
  · rw [if_pos h, if_pos h]; refine MA.same hM ?_
    rw [en262]; simp (disch := omega) only [r262_0, r262_1, r262_2, r262_3, r262_6, r262_9, r262_12, r262_13, r262_14, r262_17, r262_20, r262_21, r262_23, r262_26, ↓if_pos, ↓if_neg, m_in, m_counted hM, Option.bind_some, pushR_s]
  · rw [if_neg h, if_neg h]; refine MA.bump hO hM (by omega) ?_
    rw [en262]; simp (disch := omega) only [r262_0, r262_1, r262_2, r262_3, r262_6, r262_9, r262_12, r262_13, r262_14, r262_17, r262_20, r262_21, r262_23, r262_26, ↓if_pos, ↓if_neg, m_in, m_bad, Option.bind_some, pushR_s]
/-! sign -/
def aSign (s : ST) (x : Int) : Int := if x = 0 then (if s 3 5 0 = 0 then 0 else 1) else if x = 1 then lsz (s 3 5 0) else if x = 2 then lsz (s 3 5 1) else -2
theorem X_sign (hX : XR I s) (hO : OK s) : XA (d + 2) 130 [vI x] [1] I (aSign s x) (sStatus s x) := by
  unfold aSign sStatus
  obtain ⟨-, -, c0, c1⟩ := hX.F
  have hz := lsz_z hO.2.2.1.1
  by_cases h : 0 ≤ x ∧ x ≤ 2
  · rw [if_pos h]; refine XA.same hX ?_
    rw [en130]
    rcases w012 (w := x) (by omega) with rfl | rfl | rfl
    · by_cases h0 : s 3 5 0 = 0 <;> simp (disch := omega) only [r130_0, r130_1, r130_1a, r130_1b, r130_1c, r130_28, r130_29, r130_32, r130_35, r130_38, r130_39, r130_42, r130_43, r130_44, r130_45, r130_48, r130_51, r130_52, r130_53, r130_56, r130_59, r130_60, r130_61, r130_63, r130_65, r130_68, ↓if_pos, ↓if_neg, c0, c1, Option.bind_some, pushR_s]
    all_goals simp (disch := omega) only [r130_0, r130_1, r130_1a, r130_1b, r130_1c, r130_28, r130_29, r130_32, r130_35, r130_38, r130_39, r130_42, r130_43, r130_44, r130_45, r130_48, r130_51, r130_52, r130_53, r130_56, r130_59, r130_60, r130_61, r130_63, r130_65, r130_68, ↓if_pos, ↓if_neg, c0, c1, Option.bind_some, pushR_s]
  · rw [if_neg h, if_neg (by omega), if_neg (by omega), if_neg (by omega)]; refine XA.bump hX (by omega) ?_
    rw [en130]; simp (disch := omega) only [r130_0, r130_1, r130_1a, r130_1b, r130_1c, r130_28, r130_29, r130_32, r130_35, r130_38, r130_39, r130_42, r130_43, r130_44, r130_45, r130_48, r130_51, r130_52, r130_53, r130_56, r130_59, r130_60, r130_61, r130_63, r130_65, r130_68, ↓if_pos, ↓if_neg, x_bad, Option.bind_some, pushR_s]
theorem M_sign (hM : MR I s) (hO : OK s) : MA (d + 2) 256 [vI x] I (aSign s x) (sStatus s x) := by
  unfold aSign sStatus
  obtain ⟨-, -, c0, c1, c2⟩ := hM.F
  by_cases h : 0 ≤ x ∧ x ≤ 2
  · rw [if_pos h]; refine MA.same hM ?_
    rw [en256]
    rcases w012 (w := x) (by omega) with rfl | rfl | rfl
    · rw [if_pos rfl, ← c2]; clear c2
      simp (disch := omega) only [r256_0, r256_1, r256_4, r256_5, r256_8, r256_11, r256_12, r256_13, r256_16, r256_17, r256_20, r256_21, r256_22, r256_25, r256_26, r256_27, r256_30, r256_31, r256_34, r256_35, r256_36, r256_39, r256_40, r256_42, r256_45, ↓if_pos, ↓if_neg, c0, c1, Option.bind_some, pushR_s]
    all_goals simp (disch := omega) only [r256_0, r256_1, r256_4, r256_5, r256_8, r256_11, r256_12, r256_13, r256_16, r256_17, r256_20, r256_21, r256_22, r256_25, r256_26, r256_27, r256_30, r256_31, r256_34, r256_35, r256_36, r256_39, r256_40, r256_42, r256_45, ↓if_pos, ↓if_neg, c0, c1, Option.bind_some, pushR_s]
  · rw [if_neg h, if_neg (by omega), if_neg (by omega), if_neg (by omega)]; refine MA.bump hO hM (by omega) ?_
    rw [en256]; simp (disch := omega) only [r256_0, r256_1, r256_4, r256_5, r256_8, r256_11, r256_12, r256_13, r256_16, r256_17, r256_20, r256_21, r256_22, r256_25, r256_26, r256_27, r256_30, r256_31, r256_34, r256_35, r256_36, r256_39, r256_40, r256_42, r256_45, ↓if_pos, ↓if_neg, m_bad, Option.bind_some, pushR_s]
/-! limb -/
abbrev kLimb (w i : Int) : Prop := (0 ≤ w ∧ w ≤ 1) ∧ 0 ≤ i
def aLimb (s : ST) (w i : Int) : Int := if kLimb w i then (if i < lsz (s 3 5 w) then lmb (s 3 5 w) i else -1) else -2
def sLimb (s : ST) (w i : Int) : ST := if kLimb w i then s else bump s 0
theorem x_aboveLimb (hX : XR I s) (hi : 0 ≤ i) : call (d + 1) 49 [vR 36, vI i] I = some (some (vI (if i < lsz (s 3 5 0) then lmb (s 3 5 0) i else -1)), I) := by
  rw [en49]
  obtain ⟨c1, c2, c3, c4⟩ := hX.F
  have h1 := lsz_b (s 3 5 0); have h2 := lmb_b (s 3 5 0) i
  by_cases h : i < lsz (s 3 5 0)
  · have e := c1 i hi (by omega)
    simp (disch := omega) only [r49_0, r49_1, r49_4, r49_5, r49_6, r49_9, r49_12, r49_13, r49_16, r49_17, r49_18, r49_19, r49_22, r49_23, ↓if_pos, ↓if_neg, e, l2i_eq]
  · simp (disch := omega) only [r49_0, r49_1, r49_4, r49_5, r49_6, r49_9, r49_12, r49_13, r49_16, r49_17, r49_18, r49_19, r49_22, r49_23, ↓if_pos, ↓if_neg]
theorem x_belowLimb (hX : XR I s) (hi : 0 ≤ i) : call (d + 1) 50 [vR 36, vI i] I = some (some (vI (if i < lsz (s 3 5 1) then lmb (s 3 5 1) i else -1)), I) := by
  rw [en50]
  obtain ⟨c1, c2, c3, c4⟩ := hX.F
  have h1 := lsz_b (s 3 5 1); have h2 := lmb_b (s 3 5 1) i
  by_cases h : i < lsz (s 3 5 1)
  · have e := c2 i hi (by omega)
    simp (disch := omega) only [r50_0, r50_1, r50_4, r50_5, r50_6, r50_9, r50_12, r50_13, r50_16, r50_17, r50_18, r50_19, r50_22, r50_23, ↓if_pos, ↓if_neg, e, l2i_eq]
  · simp (disch := omega) only [r50_0, r50_1, r50_4, r50_5, r50_6, r50_9, r50_12, r50_13, r50_16, r50_17, r50_18, r50_19, r50_22, r50_23, ↓if_pos, ↓if_neg]
theorem X_limb (hX : XR I s) : XA (d + 2) 131 [vI w, vI i] [1] I (aLimb s w i) (sLimb s w i) := by
  unfold aLimb sLimb
  by_cases h : kLimb w i
  · rw [if_pos h, if_pos h]; refine XA.same hX ?_
    rw [en131]
    obtain ⟨h1, h2⟩ := h
    have hw : w = 0 ∨ w = 1 := by omega
    rcases hw with rfl | rfl <;> simp (disch := omega) only [r131_0, r131_1, r131_4, r131_5, r131_6, r131_9, r131_10, r131_13, r131_14, r131_16, r131_18, r131_21, r131_22, r131_23, r131_26, r131_27, r131_30, r131_31, r131_34, r131_37, r131_38, r131_41, r131_42, r131_45, ↓if_pos, ↓if_neg, x_aboveLimb hX, x_belowLimb hX, Option.bind_some, pushR_s]
  · rw [if_neg h, if_neg h]; refine XA.bump hX (by omega) ?_
    rw [en131]
    by_cases q0 : w < 0
    · simp (disch := omega) only [r131_0, r131_1, r131_4, r131_5, r131_6, r131_9, r131_10, r131_13, r131_14, r131_16, r131_18, r131_21, r131_22, r131_23, r131_26, r131_27, r131_30, r131_31, r131_34, r131_37, r131_38, r131_41, r131_42, r131_45, ↓if_pos, ↓if_neg, x_bad, Option.bind_some, pushR_s]
    · by_cases q1 : 1 < w <;> simp (disch := omega) only [r131_0, r131_1, r131_4, r131_5, r131_6, r131_9, r131_10, r131_13, r131_14, r131_16, r131_18, r131_21, r131_22, r131_23, r131_26, r131_27, r131_30, r131_31, r131_34, r131_37, r131_38, r131_41, r131_42, r131_45, ↓if_pos, ↓if_neg, x_bad, Option.bind_some, pushR_s]
theorem M_limb (hM : MR I s) (hO : OK s) : MA (d + 2) 257 [vI w, vI i] I (aLimb s w i) (sLimb s w i) := by
  unfold aLimb sLimb
  obtain ⟨c1, c2, c3, c4, -⟩ := hM.F
  have h1 := lsz_b (s 3 5 0); have h2 := lmb_b (s 3 5 0) i; have h3 := lsz_b (s 3 5 1); have h4 := lmb_b (s 3 5 1) i
  by_cases h : kLimb w i
  · rw [if_pos h, if_pos h]; refine MA.same hM ?_
    rw [en257]
    obtain ⟨h5, h6⟩ := h
    have hw : w = 0 ∨ w = 1 := by omega
    rcases hw with rfl | rfl
    · by_cases q : i < lsz (s 3 5 0)
      · have e := c1 i h6 q
        simp (disch := omega) only [r257_0, r257_1, r257_2, r257_3, r257_4, r257_7, r257_10, r257_11, r257_14, r257_15, r257_17, r257_20, r257_21, r257_22, r257_23, r257_26, r257_27, r257_28, r257_31, r257_32, r257_35, r257_37, r257_38, r257_39, r257_40, r257_41, r257_42, r257_43, r257_46, r257_47, ↓if_pos, ↓if_neg, m_in, c3, imul_eq, iadd_eq, Int.mul_zero, Int.zero_add, e, l2i_eq, Option.bind_some, pushR_s]
      · simp (disch := omega) only [r257_0, r257_1, r257_2, r257_3, r257_4, r257_7, r257_10, r257_11, r257_14, r257_15, r257_17, r257_20, r257_21, r257_22, r257_23, r257_26, r257_27, r257_28, r257_31, r257_32, r257_35, r257_37, r257_38, r257_39, r257_40, r257_41, r257_42, r257_43, r257_46, r257_47, ↓if_pos, ↓if_neg, m_in, c3, Option.bind_some, pushR_s]
    · by_cases q : i < lsz (s 3 5 1)
      · have e := c2 i h6 q
        simp (disch := omega) only [r257_0, r257_1, r257_2, r257_3, r257_4, r257_7, r257_10, r257_11, r257_14, r257_15, r257_17, r257_20, r257_21, r257_22, r257_23, r257_26, r257_27, r257_28, r257_31, r257_32, r257_35, r257_37, r257_38, r257_39, r257_40, r257_41, r257_42, r257_43, r257_46, r257_47, ↓if_pos, ↓if_neg, m_in, c4, imul_eq, iadd_eq, Int.mul_one, e, l2i_eq, Option.bind_some, pushR_s]
      · simp (disch := omega) only [r257_0, r257_1, r257_2, r257_3, r257_4, r257_7, r257_10, r257_11, r257_14, r257_15, r257_17, r257_20, r257_21, r257_22, r257_23, r257_26, r257_27, r257_28, r257_31, r257_32, r257_35, r257_37, r257_38, r257_39, r257_40, r257_41, r257_42, r257_43, r257_46, r257_47, ↓if_pos, ↓if_neg, m_in, c4, Option.bind_some, pushR_s]
  · rw [if_neg h, if_neg h]; refine MA.bump hO hM (by omega) ?_
    rw [en257]
    by_cases q0 : 0 ≤ w ∧ w ≤ 1 <;> simp (disch := omega) only [r257_0, r257_1, r257_2, r257_3, r257_4, r257_7, r257_10, r257_11, r257_14, r257_15, r257_17, r257_20, r257_21, r257_22, r257_23, r257_26, r257_27, r257_28, r257_31, r257_32, r257_35, r257_37, r257_38, r257_39, r257_40, r257_41, r257_42, r257_43, r257_46, r257_47, ↓if_pos, ↓if_neg, m_in, m_bad, Option.bind_some, pushR_s]
end
