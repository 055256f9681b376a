/-! tryAct and whyNow of the model; why of both. -/
def rso (o : Int) : Int := if o < 0 then -o else 0
def sto (c o : Int) : Int := if o < 0 then c else o
theorem memR_oth {I : MM} {a : Nat} (h1 : a ≠ 79) (h2 : a ≠ 80) (i : Int) : memR I a i = I a i := by simp [memR, mset_at, h1, h2]
theorem outk_n {g : G} {c k w x y : Int} (h : ¬ such g k w x y) : outk g c k w x y = -1 := if_pos h
theorem outk_c {g : G} {c k w x y : Int} (h : such g k w x y) (h2 : ¬ can g c k w x y) : outk g c k w x y = -2 := (if_neg (fun q => q h)).trans (if_pos h2)
theorem outk_w {g : G} {c k w x y : Int} (h : such g k w x y) (h2 : can g c k w x y) (h3 : well g (nxt g c k w x y)) : outk g c k w x y = nxt g c k w x y := ((if_neg (fun q => q h)).trans (if_neg (fun q => q h2))).trans (if_pos h3)
theorem outk_x {g : G} {c k w x y : Int} (h : such g k w x y) (h2 : can g c k w x y) (h3 : ¬ well g (nxt g c k w x y)) : outk g c k w x y = -3 := ((if_neg (fun q => q h)).trans (if_neg (fun q => q h2))).trans (if_neg h3)
/-- the places now -/
def NS (I : MM) (g : G) (c : Int) : Prop := (∀ w, 0 ≤ w → w < g.nW → I 71 (9 + 3 * w + 1) = wAt c w) ∧ (∀ b, 0 ≤ b → b < g.nB → I 71 (18 + 4 * b + 3) = lie (bAt c b))
def memN (I : MM) : MM := mset (mset (mset (mset (mset I 77 0 (I 71 10)) 77 1 (I 71 13)) 77 2 (I 71 16)) 78 0 (I 71 21)) 78 1 (I 71 25)
theorem memN_MS {I : MM} {g : G} {c : Int} (hg : WG g) (h : NS I g c) : MS (memN I) g c := by
  have hw := hg.nW3; have hb := hg.nB2
  refine ⟨?_, ?_⟩
  · intro w w0 w3
    have := h.1 w w0 w3
    rcases w012 (w := w) (by omega) with rfl | rfl | rfl <;> simp [memN, mset_at] <;> simpa using this
  · intro b e0 e2
    have := h.2 b e0 e2
    rcases b01 (b := b) (by omega) with rfl | rfl <;> simp [memN, mset_at] <;> simpa using this
theorem memN_fr (I : MM) : Fr7 I (memN I) := by
  intro a i h1 h2 h3 h4
  simp [memN, mset_at, h1, h2]
def Fr8 (I J : MM) : Prop := ∀ a i, a ≠ 77 → a ≠ 78 → a ≠ 79 → a ≠ 80 → ¬ (a = 70 ∧ 9 ≤ i ∧ i ≤ 12) → J a i = I a i
theorem Fr8.trans {I J K : MM} (h1 : Fr8 I J) (h2 : Fr8 J K) : Fr8 I K := fun a i q1 q2 q3 q4 q5 => (h2 a i q1 q2 q3 q4 q5).trans (h1 a i q1 q2 q3 q4 q5)
theorem Fr7.to8 {I J : MM} (h : Fr7 I J) : Fr8 I J := fun a i q1 q2 q3 q4 _ => h a i q1 q2 q3 q4
theorem memS_fr (I : MM) (a : Int) : Fr8 I (memS I a) := by
  intro b i _ _ _ _ h
  simp only [memS, mset_at]
  rw [if_neg (by omega), if_neg (by omega), if_neg (by omega), if_neg (by omega)]
theorem Fr8.oth {I J : MM} (h : Fr8 I J) {a : Nat} (ha : a < 70 ∨ (70 < a ∧ a < 77) ∨ 80 < a) (i : Int) : J a i = I a i := h a i (by omega) (by omega) (by omega) (by omega) (by omega)
theorem RG.cong {I J : MM} {g : G} (e : ∀ i, J 71 i = I 71 i) (hR : RG I g) : RG J g := by
  obtain ⟨⟨a1, a2, a3⟩, a4, a5, a6⟩ := hR
  refine ⟨⟨(e _).trans a1, (e _).trans a2, (e _).trans a3⟩, fun p p0 p1 => (e p).trans (a4 p p0 p1), fun w w0 w1 => ⟨(e _).trans (a5 w w0 w1).1, (e _).trans (a5 w w0 w1).2⟩, fun b b0 b1 => ⟨(e _).trans (a6 b b0 b1).1, (e _).trans (a6 b b0 b1).2.1, (e _).trans (a6 b b0 b1).2.2⟩⟩
theorem NS.cong {I J : MM} {g : G} {c : Int} (e : ∀ i, J 71 i = I 71 i) (h : NS I g c) : NS J g c := ⟨fun w a b => (e _).trans (h.1 w a b), fun w a b => (e _).trans (h.2 w a b)⟩
theorem MS.cong {I J : MM} {g : G} {c : Int} (e : ∀ i, J 77 i = I 77 i) (e2 : ∀ i, J 78 i = I 78 i) (h : MS I g c) : MS J g c := ⟨fun w a b => (e _).trans (h.1 w a b), fun w a b => (e2 _).trans (h.2 w a b)⟩
section
variable {d : Nat} {I : MM} {g : G} {a c w x y b p v lo hi k : Int}
theorem m_tryAct (hR : RG I g) (hM : MS I g c) (hg : WG g) (hV : VC g c) (hF : AF I k w x y) (hk : 0 ≤ k ∧ k ≤ 4) (hw : 0 ≤ w) (hx : 0 ≤ x) (hy : 0 ≤ y) : ∃ J, call (d + 7) 192 [vR 70] I = some (some (vI (rso (outk g c k w x y))), J) ∧ Fr7 I J ∧ MS J g (sto c (outk g c k w x y)) := by
  rw [en192]
  have hT := m_isThere (d := d + 3) hR hg hF hk hw hx hy
  by_cases hs : such g k w x y
  · rw [if_pos hs] at hT
    have hC := m_canBe (d := d) hR hM hg hV hF hk hw hx hy hs
    by_cases hc : can g c k w x y
    · rw [if_pos hc] at hC
      have hVn := vc_nxt hg hV hk hw hx hy hs hc
      obtain ⟨hB1, hM1⟩ := memR_MB hg hM
      have f1 := memR_fr I
      obtain ⟨J, hJ, hMJ, f2, oJ⟩ := m_doIt (d := d + 2) (f1.RG hR) hM1 hg hV (f1.AF hF) hk hw hx hy hs hc
      have f12 := f1.trans f2
      have hW := m_isWell (d := d) (f12.RG hR) hMJ hg hVn
      by_cases hwl : well g (nxt g c k w x y)
      · rw [if_pos hwl] at hW
        have h0 := hVn.c.1
        refine ⟨J, ?_, f12, ?_⟩
        · rw [outk_w hs hc hwl, rso, if_neg (by omega)]; clear hs hc hwl
          simp (disch := omega) only [r192_0, r192_1, r192_4, r192_7, r192_8, r192_9, r192_10, r192_13, r192_16, r192_17, r192_18, r192_19, r192_22, r192_23, r192_26, r192_27, r192_30, r192_33, r192_34, r192_35, r192_36, r192_39, r192_40, ↓if_pos, ↓if_neg, hT, hC, m_remember, hJ, hW, Option.bind_some, pushR_s, pushR_n]
        · rw [outk_w hs hc hwl, sto, if_neg (by omega)]; exact hMJ
      · rw [if_neg hwl] at hW
        have hBJ : MB J g c := ⟨fun w a b => (oJ 79 (by decide) (by decide) w).trans (hB1.1 w a b), fun w a b => (oJ 80 (by decide) (by decide) w).trans (hB1.2 w a b)⟩
        refine ⟨memB J, ?_, f12.trans (memB_fr J), ?_⟩
        · rw [outk_x hs hc hwl, rso, if_pos (by omega)]; clear hs hc hwl
          simp (disch := omega) only [r192_0, r192_1, r192_4, r192_7, r192_8, r192_9, r192_10, r192_13, r192_16, r192_17, r192_18, r192_19, r192_22, r192_23, r192_26, r192_27, r192_30, r192_33, r192_34, r192_35, r192_36, r192_39, r192_40, ↓if_pos, ↓if_neg, hT, hC, m_remember, m_goBack, hJ, hW, Option.bind_some, pushR_s, pushR_n]
          rfl
        · rw [outk_x hs hc hwl, sto, if_pos (by omega)]; exact memB_MS hg hBJ
    · rw [if_neg hc] at hC
      refine ⟨I, ?_, Fr7.refl I, ?_⟩
      · rw [outk_c hs hc, rso, if_pos (by omega)]; clear hs hc
        simp (disch := omega) only [r192_0, r192_1, r192_4, r192_7, r192_8, r192_9, r192_10, r192_13, r192_16, r192_17, r192_18, r192_19, r192_22, r192_23, r192_26, r192_27, r192_30, r192_33, r192_34, r192_35, r192_36, r192_39, r192_40, ↓if_pos, ↓if_neg, hT, hC, Option.bind_some, pushR_s, pushR_n]
        rfl
      · rw [outk_c hs hc, sto, if_pos (by omega)]; exact hM
  · rw [if_neg hs] at hT
    refine ⟨I, ?_, Fr7.refl I, ?_⟩
    · rw [outk_n hs, rso, if_pos (by omega)]; clear hs
      simp (disch := omega) only [r192_0, r192_1, r192_4, r192_7, r192_8, r192_9, r192_10, r192_13, r192_16, r192_17, r192_18, r192_19, r192_22, r192_23, r192_26, r192_27, r192_30, r192_33, r192_34, r192_35, r192_36, r192_39, r192_40, ↓if_pos, ↓if_neg, hT, Option.bind_some, pushR_s, pushR_n]
      rfl
    · rw [outk_n hs, sto, if_pos (by omega)]; exact hM
/-- an act by its number, from a code in the scratch cells -/
theorem m_splitTry (hR : RG I g) (hM : MS I g c) (hg : WG g) (hV : VC g c) (ha : 0 ≤ a ∧ a < 1280) : ∃ J, call (d + 7) 192 [vR 70] (memS I a) = some (some (vI (rso (outc g c a))), J) ∧ Fr8 I J ∧ MS J g (sto c (outc g c a)) := by
  have f := memS_fr I a
  have hR2 : RG (memS I a) g := hR.cong (f.oth (by omega))
  have hM2 : MS (memS I a) g c := hM.cong (fun i => by simp [memS, mset_at]) (fun i => by simp [memS, mset_at])
  obtain ⟨J, h1, h2, h3⟩ := m_tryAct (d := d) hR2 hM2 hg hV AF_memS (by omega) (by omega) (by omega) (by omega)
  rw [outc, if_pos ha]
  exact ⟨J, h1, f.trans h2.to8, h3⟩
theorem m_takeNow : call (d + 1) 164 [vR 70] I = some (none, memN I) := by
  rw [en164]
  simp (disch := omega) only [r164_0, r164_1, r164_2, r164_3, r164_4, r164_7, r164_8, r164_11, r164_12, r164_13, r164_16, r164_18, r164_19, r164_20, r164_21, r164_22, r164_23, r164_24, r164_25, r164_26, r164_29, r164_32, r164_33, r164_34, r164_35, r164_36, r164_39, r164_40, r164_43, r164_44, r164_45, r164_48, r164_50, r164_51, r164_52, r164_53, r164_54, r164_55, r164_56, r164_57, r164_58, r164_61, r164_64, ↓if_pos, ↓if_neg, imul_eq, iadd_eq, Int.reduceAdd, Int.reduceMul, mset_at]
  rfl
def why (g : G) (c a : Int) : Int := if 0 ≤ a ∧ a < 1024 then outc g c a else -1
theorem m_whyNow (hR : RG I g) (hN : NS I g c) (hg : WG g) (hV : VC g c) : ∃ J, call (d + 8) 193 [vR 70, vI a] I = some (some (vI (rso (why g c a))), J) ∧ Fr8 I J ∧ (0 ≤ why g c a → MS J g (why g c a)) := by
  rw [en193]
  by_cases ha : 0 ≤ a ∧ a ≤ 1023
  · have f := (memN_fr I).to8
    obtain ⟨J, h1, h2, h3⟩ := m_splitTry (d := d) (a := a) (hR.cong (f.oth (by omega))) (memN_MS hg hN) hg hV (by omega)
    rw [why, if_pos (by omega)]
    refine ⟨J, ?_, f.trans h2, fun q => ?_⟩
    · simp (disch := omega) only [r193_0, r193_1, r193_2, r193_3, r193_6, r193_9, r193_12, r193_13, r193_14, r193_15, r193_18, r193_19, r193_20, r193_23, r193_24, r193_27, ↓if_pos, ↓if_neg, m_in, m_takeNow, m_split, h1, Option.bind_some, pushR_s, pushR_n]
    · rw [sto, if_neg (by omega)] at h3; exact h3
  · rw [why, if_neg (by omega)]
    refine ⟨I, ?_, (Fr7.refl I).to8, fun q => by omega⟩
    simp (disch := omega) only [r193_0, r193_1, r193_2, r193_3, r193_6, r193_9, r193_12, r193_13, r193_14, r193_15, r193_18, r193_19, r193_20, r193_23, r193_24, r193_27, ↓if_pos, ↓if_neg, m_in, Option.bind_some, pushR_s, pushR_n]
    rfl
theorem m_why (hR : RG I g) (hN : NS I g c) (hg : WG g) (hV : VC g c) : ∃ J, call (d + 9) 194 [vR 70, vI a] I = some (some (vI (rso (why g c a))), J) ∧ Fr8 I J := by
  obtain ⟨J, h1, h2, -⟩ := m_whyNow (d := d) (a := a) hR hN hg hV
  refine ⟨J, ?_, h2⟩
  rw [en194]
  simp (disch := omega) only [r194_0, r194_1, r194_2, r194_5, h1, Option.bind_some, pushR_s, pushR_n]
theorem outc_lo (hg : WG g) (hV : VC g c) : -3 ≤ outc g c a := by
  unfold outc; split
  · by_cases hs : such g (a / 256) (a / 64 % 4) (a / 8 % 8) (a % 8)
    · by_cases hc : can g c (a / 256) (a / 64 % 4) (a / 8 % 8) (a % 8)
      · by_cases hw : well g (nxt g c (a / 256) (a / 64 % 4) (a / 8 % 8) (a % 8))
        · rw [outk_w hs hc hw]; have := (vc_nxt hg hV (by omega) (by omega) (by omega) (by omega) hs hc).c; omega
        · rw [outk_x hs hc hw]; omega
      · rw [outk_c hs hc]; omega
    · rw [outk_n hs]; omega
  · omega
theorem vc_outc (hg : WG g) (hV : VC g c) (h : 0 ≤ outc g c a) : VC g (outc g c a) := by
  revert h
  unfold outc; split
  · by_cases hs : such g (a / 256) (a / 64 % 4) (a / 8 % 8) (a % 8)
    · by_cases hc : can g c (a / 256) (a / 64 % 4) (a / 8 % 8) (a % 8)
      · by_cases hw : well g (nxt g c (a / 256) (a / 64 % 4) (a / 8 % 8) (a % 8))
        · rw [outk_w hs hc hw]; intro _; exact vc_nxt hg hV (by omega) (by omega) (by omega) (by omega) hs hc
        · rw [outk_x hs hc hw]; intro q; omega
      · rw [outk_c hs hc]; intro q; omega
    · rw [outk_n hs]; intro q; omega
  · intro q; omega
theorem x_outcomeNow (hA : At 2 I g) (hg : WG g) (hI : I 2 4 = c) (hV : VC g c) : call (d + 5) 139 [vR 1, vI a] I = some (some (vI (why g c a)), I) := by
  rw [en139]
  have hc := hV.c
  by_cases h : a < 1024
  · simp (disch := omega) only [r139_0, r139_1, r139_4, r139_7, r139_8, r139_11, r139_12, r139_15, r139_16, r139_19, r139_22, r139_23, r139_26, ↓if_pos, ↓if_neg, hI, x_outcome hA hg hc, Option.bind_some, pushR_s]
    by_cases h0 : 0 ≤ a
    · rw [why, if_pos (by omega)]
    · rw [why, if_neg (by omega), outc, if_neg (by omega)]
  · rw [why, if_neg (by omega)]
    simp (disch := omega) only [r139_0, r139_1, r139_4, r139_7, r139_8, r139_11, r139_12, r139_15, r139_16, r139_19, r139_22, r139_23, r139_26, ↓if_pos, ↓if_neg]
theorem why_lo (hg : WG g) (hV : VC g c) : -3 ≤ why g c a := by
  unfold why; split
  · exact outc_lo hg hV
  · omega
theorem vc_why (hg : WG g) (hV : VC g c) (h : 0 ≤ why g c a) : VC g (why g c a) := by
  revert h; unfold why; split
  · exact vc_outc hg hV
  · intro q; omega
theorem x_why (hA : At 2 I g) (hg : WG g) (hI : I 2 4 = c) (hV : VC g c) : call (d + 6) 116 [vR 1, vI a] I = some (some (vI (rso (why g c a))), I) := by
  rw [en116]
  have hl := why_lo (a := a) hg hV
  by_cases h : why g c a < 0
  · rw [rso, if_pos h]
    simp (disch := omega) only [r116_0, r116_1, r116_2, r116_5, r116_6, r116_7, r116_10, r116_11, r116_12, r116_15, r116_16, ↓if_pos, ↓if_neg, x_outcomeNow hA hg hI hV, ineg_eq, Option.bind_some, pushR_s]
  · rw [rso, if_neg h]
    simp (disch := omega) only [r116_0, r116_1, r116_2, r116_5, r116_6, r116_7, r116_10, r116_11, r116_12, r116_15, r116_16, ↓if_pos, ↓if_neg, x_outcomeNow hA hg hI hV, Option.bind_some, pushR_s]
end
