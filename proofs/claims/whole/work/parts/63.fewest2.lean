/-! fewest and lost of both. -/
section
variable {d : Nat} {I J K : MM} {s : ST} {g : G} {a c w x y b p v i m f : Int} {Q : List QE}
theorem XR.srch (h : XR I s) (e : ∀ a i, (a < 27 ∨ 33 < a) → J a i = I a i) : XR J s :=
  ⟨h.B.cong (fun a a1 a2 i => e a i (by omega)), h.T.cong (e _ _ (by omega)) (fun i => e _ i (by omega)), h.R.cong (e _ _ (by omega)) (fun i => e _ i (by omega)), h.P.cong (e _ _ (by omega)) (fun i => e _ i (by omega)), h.C.cong (fun i _ => e _ i (by omega)), h.F.cong (fun i => e _ i (by omega)) (fun i => e _ i (by omega)) (e _ _ (by omega)) (e _ _ (by omega)), h.I0.cong (fun a a1 a2 i => e a i (by omega)), h.I1.cong (fun a a1 a2 i => e a i (by omega)), h.K.cong (fun i => e _ i (by omega)) (fun i => e _ i (by omega))⟩
theorem RowC.cong (h : RowC I g c) (e9 : J 27 9 = I 27 9) (e30 : ∀ i, J 30 i = I 30 i) : RowC J g c := by
  rcases h with h | ⟨p, h1, h2, h3, h4, h5⟩
  · exact Or.inl h
  · exact Or.inr ⟨p, h1, h2, e9.trans h3, h4, fun j j0 j1 => (e30 _).trans (h5 j j0 j1)⟩
abbrev SL : List Nat := [27, 28, 29, 30, 31, 32, 33]
theorem SF.out (h : SF I J) : OUT SL I J := fun a ha i => h.1 a i (fun q => ha (by simp [q])) (fun q => ha (by simp [q])) (fun q => ha (by simp [q])) (fun q => ha (by simp [q])) (fun q => ha (by simp [q]))
theorem OUT.sl (h : OUT SL I J) (a : Nat) (i : Int) (ha : a < 27 ∨ 33 < a) : J a i = I a i := h a (by simp; omega) i
/-- an answer of the class that may search -/
def XSA (d z : Nat) (args : List AV) (I : MM) (r : Int) (s : ST) (m : Int) : Prop := ∃ J, call d z (vR 1 :: args) I = some (some (vI r), J) ∧ XR J s ∧ OUT SL I J ∧ SCh J (gg s) (cd s) ∧ SMk J (m + 1)
theorem EndQ.mk {r : Int} (h : EndQ g c (m + 1) K r) (hm : 0 ≤ m) : K 27 5 = m + 1 ∧ ∀ c, 0 ≤ c → c < 131072 → K 28 c ≤ m + 1 := by
  obtain ⟨Qf, hS, -⟩ := h
  exact ⟨hS.1, hS.2.2.2.2⟩
theorem x_rowLength (hX : XR I s) (hO : OK s) (hC : SCh I (gg s) (cd s)) (hm : SMk I m) (hm2 : m < 2147483645) : ∃ J, call (d + 7) 84 [vR 27, vR 2] I = some (some (vI (fw (gg s) (cd s))), J) ∧ XR J s ∧ OUT SL I J ∧ SCh J (gg s) (cd s) ∧ SMk J (m + 1) ∧ J 27 10 = fw (gg s) (cd s) ∧ RowC J (gg s) (cd s) := by
  obtain ⟨⟨m0, m1⟩, m2, m3⟩ := hm
  obtain ⟨c1, c2, c3⟩ := hC
  have hlo := fw_lo (gg s) (cd s)
  rcases c1 with c1 | ⟨c1, cR⟩
  · have hA1 : At 2 (mset I 27 7 1) (gg s) := hX.A.cong (fun a a1 a2 i => by rw [mset_at, if_neg (by omega)])
    obtain ⟨K, k1, k2, k3⟩ := x_shortest (d := d) (I := mset I 27 7 1) (m := I 27 5) hO.W hA1 hO.V ⟨m0, by omega⟩ (by rw [mset_at, if_neg (by omega)]) (fun c c0 c1 => by rw [mset_at, if_neg (by omega)]; exact m2 c c0 c1) (Or.inr (by rw [mset_at, if_pos ⟨rfl, rfl⟩]))
    have e7 : K 27 7 = 1 := by rw [k2.2.1 7 (by omega) (by omega) (by omega) (by omega), mset_at, if_pos ⟨rfl, rfl⟩]
    have hrow := k3.row hO.W hO.V e7
    obtain ⟨q1, q2⟩ := k3.mk m0
    have en : mset I 27 7 1 2 4 = cd s := by rw [mset_at, if_neg (by omega)]; exact hX.n
    have o : ∀ a i, a ≠ 27 → a ≠ 28 → a ≠ 29 → a ≠ 30 → a ≠ 31 → mset (mset (mset K 27 10 (fw (gg s) (cd s))) 27 9 (K 27 8)) 27 7 0 a i = I a i := fun a i h1 h2 h3 h4 h5 => by
      rw [mset_at, if_neg (by omega), mset_at, if_neg (by omega), mset_at, if_neg (by omega), k2.1 a i h1 h2 h3 h4 h5, mset_at, if_neg (by omega)]
    have hrow2 : RowC (mset (mset (mset K 27 10 (fw (gg s) (cd s))) 27 9 (K 27 8)) 27 7 0) (gg s) (cd s) := hrow.cong (by rw [mset_at, if_neg (by omega), mset_at, if_pos ⟨rfl, rfl⟩, mset_at, if_pos ⟨rfl, rfl⟩]) (fun i => by rw [mset_at, if_neg (by omega), mset_at, if_neg (by omega), mset_at, if_neg (by omega), mset_at, if_neg (by omega)])
    have e10 : mset (mset (mset K 27 10 (fw (gg s) (cd s))) 27 9 (K 27 8)) 27 7 0 27 10 = fw (gg s) (cd s) := by rw [mset_at, if_neg (by omega), mset_at, if_neg (by omega), mset_at, if_pos ⟨rfl, rfl⟩]
    refine ⟨mset (mset (mset K 27 10 (fw (gg s) (cd s))) 27 9 (K 27 8)) 27 7 0, ?_, hX.srch (fun a i h => o a i (by omega) (by omega) (by omega) (by omega) (by omega)), fun a ha i => o a i (fun q => ha (by simp [q])) (fun q => ha (by simp [q])) (fun q => ha (by simp [q])) (fun q => ha (by simp [q])) (fun q => ha (by simp [q])), ⟨Or.inr ⟨e10, hrow2⟩, fun b b0 b1 => by rw [o 32 b (by omega) (by omega) (by omega) (by omega) (by omega)]; exact c2 b b0 b1, fun b b0 b1 => by rw [o 33 b (by omega) (by omega) (by omega) (by omega) (by omega)]; exact c3 b b0 b1⟩, ⟨?_, fun c c0 c1 => ?_, ?_⟩, e10, hrow2⟩
    · rw [en84]
      simp (disch := omega) only [r84_0, r84_1, r84_4, r84_6, r84_9, r84_10, r84_11, r84_14, r84_15, r84_16, r84_17, r84_18, r84_21, r84_24, r84_27, r84_28, r84_29, r84_32, r84_35, r84_36, r84_37, r84_40, r84_41, r84_44, ↓if_pos, ↓if_neg, en, k1, mset_at, Option.bind_some, pushR_s]
    · rw [mset_at, if_neg (by omega), mset_at, if_neg (by omega), mset_at, if_neg (by omega), q1]; omega
    · have := q2 c c0 c1
      rw [mset_at, if_neg (by omega), mset_at, if_neg (by omega), mset_at, if_neg (by omega), mset_at, if_neg (by omega), mset_at, if_neg (by omega), mset_at, if_neg (by omega), q1]; omega
    · rw [mset_at, if_pos ⟨rfl, rfl⟩]
  · refine ⟨I, ?_, hX, OUT.refl _ _, ⟨Or.inr ⟨c1, cR⟩, c2, c3⟩, ⟨⟨m0, by omega⟩, m2, m3⟩, c1, cR⟩
    rw [en84]
    simp (disch := omega) only [r84_0, r84_1, r84_4, r84_6, r84_9, r84_10, r84_11, r84_14, r84_15, r84_16, r84_17, r84_18, r84_21, r84_24, r84_27, r84_28, r84_29, r84_32, r84_35, r84_36, r84_37, r84_40, r84_41, r84_44, ↓if_pos, ↓if_neg, c1]
theorem X_fewest (hX : XR I s) (hO : OK s) (hC : SCh I (gg s) (cd s)) (hm : SMk I m) (hm2 : m < 2147483645) : XSA (d + 8) 120 [] I (fw (gg s) (cd s)) s m := by
  obtain ⟨J, j1, j2, j3, j4, j5, -⟩ := x_rowLength (d := d) hX hO hC hm hm2
  refine ⟨J, ?_, j2, j3, j4, j5⟩
  rw [en120]
  simp (disch := omega) only [r120_0, r120_1, r120_4, r120_5, r120_8, r120_11, j1, Option.bind_some, pushR_s]
theorem m_startOf (hM : MR I s) (hO : OK s) : call (d + 3) 205 [vR 70] I = some (some (vI (mst (cd s))), memN I) := by
  have f := (memN_fr I).to8
  have hst := m_stateNow (d := d) (hM.R.cong (f.oth (by omega))) (memN_MS hO.W hM.S) hO.W hO.V
  rw [en205]
  simp (disch := omega) only [r205_0, r205_1, r205_4, r205_5, r205_8, m_takeNow, hst, Option.bind_some, pushR_s, pushR_n]
theorem M_fewest (hM : MR I s) (hO : OK s) : MA (d + 9) 206 [] I (fw (gg s) (cd s)) s := by
  have f := (memN_fr I).to8
  obtain ⟨K, k1, k2, k3⟩ := m_findFewest (d := d) hO.W (hM.R.cong (f.oth (by omega))) hO.V
  have hf := f.mf.trans k2
  refine ⟨K, ?_, hM.mf hO hf, hf.out⟩
  rw [en206]
  have hs := m_startOf (d := d + 5) hM hO
  simp (disch := omega) only [r206_0, r206_1, r206_2, r206_5, r206_8, hs, k1, Option.bind_some, pushR_s]
/-! lost -/
def aLost (s : ST) (b : Int) : Int := if 0 ≤ b ∧ b < (gg s).nB then lostA (gg s) (cd s) b else -2
def sLost (s : ST) (b : Int) : ST := if 0 ≤ b ∧ b < (gg s).nB then s else bump s 0
theorem x_lengthWithout (hX : XR I s) (hO : OK s) (hC : SCh I (gg s) (cd s)) (hm : SMk I m) (hm2 : m < 2147483645) (h0 : 0 ≤ b) (h1 : b < (gg s).nB) : ∃ J, call (d + 7) 87 [vR 27, vR 2, vI b] I = some (some (vI (lostA (gg s) (cd s) b)), J) ∧ XR J s ∧ OUT SL I J ∧ SCh J (gg s) (cd s) ∧ SMk J (m + 1) := by
  obtain ⟨⟨m0, m1⟩, m2, m3⟩ := hm
  obtain ⟨c1, c2, c3⟩ := hC
  have hn := hO.W.nB2; have hc := hO.V.c
  have hload := load_on (c := cd s) (b := b) hO.W
  rcases c2 b h0 (by omega) with c2b | ⟨-, c2b⟩
  · by_cases ho : onIt (gg s) (cd s) b
    · have hl := hload.mpr ho
      have hr : lostA (gg s) (cd s) b = -1 := if_pos ho
      clear ho hload
      refine ⟨mset I 32 b (-1), ?_, hX.srch (fun a i h => by rw [mset_at, if_neg (by omega)]), OUT.mset _ _ (by decide), ⟨?_, fun e e0 e1 => ?_, fun e e0 e1 => by rw [mset_at, if_neg (by omega)]; exact c3 e e0 e1⟩, ⟨by rw [mset_at, if_neg (by omega)]; omega, fun c c0 c1 => by rw [mset_at, if_neg (by omega), mset_at, if_neg (by omega)]; exact m2 c c0 c1, by rw [mset_at, if_neg (by omega)]; exact m3⟩⟩
      · rw [en87, hr]
        simp (disch := omega) only [r87_0, r87_1, r87_4, r87_5, r87_6, r87_9, r87_10, r87_13, r87_14, r87_15, r87_16, r87_19, r87_20, r87_21, r87_23, r87_26, r87_27, r87_28, r87_31, r87_32, r87_35, r87_38, r87_39, r87_42, r87_43, r87_44, r87_45, r87_48, r87_49, r87_50, r87_53, r87_54, r87_57, r87_58, r87_59, r87_60, r87_61, r87_64, r87_65, r87_67, r87_70, r87_73, r87_74, r87_75, r87_78, r87_79, r87_80, ↓if_pos, ↓if_neg, hX.n, x_loadOn hX.A hO.W hc, mset_at, Option.bind_some, pushR_s]
      · rw [mset_at, if_neg (by omega)]
        rcases c1 with c1 | ⟨c1, cR⟩
        · exact Or.inl c1
        · exact Or.inr ⟨c1, cR.cong (by rw [mset_at, if_neg (by omega)]) (fun i => by rw [mset_at, if_neg (by omega)])⟩
      · rw [mset_at]
        by_cases he : e = b
        · rw [if_pos ⟨rfl, he⟩]; exact Or.inr ⟨by rw [he]; exact h1, by rw [he, hr]⟩
        · rw [if_neg (fun q => he q.2)]; exact c2 e e0 e1
    · have hl : ¬ 0 < load (gg s) (cd s) b := fun q => ho (hload.mp q)
      have hr : lostA (gg s) (cd s) b = fw (gg s) (setB (cd s) b 15) := if_neg ho
      obtain ⟨K, k1, k2, k3⟩ := x_shortest (d := d) (I := I) (m := I 27 5) hO.W hX.A (vc_lost hO.W hO.V h0 h1) ⟨m0, by omega⟩ rfl m2 (Or.inl m3)
      obtain ⟨q1, q2⟩ := k3.mk m0
      have e30 := k2.2.2 m3
      have e7 : K 27 7 = 0 := by rw [k2.2.1 7 (by omega) (by omega) (by omega) (by omega)]; exact m3
      clear ho hload
      refine ⟨mset K 32 b (fw (gg s) (setB (cd s) b 15)), ?_, hX.srch (fun a i h => by rw [mset_at, if_neg (by omega)]; exact k2.1 a i (by omega) (by omega) (by omega) (by omega) (by omega)), k2.out.trans (OUT.mset _ _ (by decide)), ⟨?_, fun e e0 e1 => ?_, fun e e0 e1 => by rw [mset_at, if_neg (by omega), k2.1 33 e (by omega) (by omega) (by omega) (by omega) (by omega)]; exact c3 e e0 e1⟩, ⟨by rw [mset_at, if_neg (by omega), q1]; omega, fun c c0 c1 => by rw [mset_at, if_neg (by omega), mset_at, if_neg (by omega), q1]; exact q2 c c0 c1, by rw [mset_at, if_neg (by omega)]; exact e7⟩⟩
      · rw [en87, hr]
        simp (disch := omega) only [r87_0, r87_1, r87_4, r87_5, r87_6, r87_9, r87_10, r87_13, r87_14, r87_15, r87_16, r87_19, r87_20, r87_21, r87_23, r87_26, r87_27, r87_28, r87_31, r87_32, r87_35, r87_38, r87_39, r87_42, r87_43, r87_44, r87_45, r87_48, r87_49, r87_50, r87_53, r87_54, r87_57, r87_58, r87_59, r87_60, r87_61, r87_64, r87_65, r87_67, r87_70, r87_73, r87_74, r87_75, r87_78, r87_79, r87_80, ↓if_pos, ↓if_neg, hX.n, x_loadOn hX.A hO.W hc, x_withBoard hc, k1, mset_at, Option.bind_some, pushR_s]
      · rw [mset_at, if_neg (by omega), k2.2.1 10 (by omega) (by omega) (by omega) (by omega)]
        rcases c1 with c1 | ⟨c1, cR⟩
        · exact Or.inl c1
        · exact Or.inr ⟨c1, cR.cong (by rw [mset_at, if_neg (by omega)]; exact k2.2.1 9 (by omega) (by omega) (by omega) (by omega)) (fun i => by rw [mset_at, if_neg (by omega)]; exact e30 i)⟩
      · rw [mset_at]
        by_cases he : e = b
        · rw [if_pos ⟨rfl, he⟩]; exact Or.inr ⟨by rw [he]; exact h1, by rw [he, hr]⟩
        · rw [if_neg (fun q => he q.2), k2.1 32 e (by omega) (by omega) (by omega) (by omega) (by omega)]; exact c2 e e0 e1
  · have hlo : -1 ≤ lostA (gg s) (cd s) b := by
      unfold lostA; split
      · omega
      · exact fw_lo _ _
    refine ⟨I, ?_, hX, OUT.refl _ _, ⟨c1, c2, c3⟩, ⟨⟨m0, by omega⟩, m2, m3⟩⟩
    rw [en87]
    simp (disch := omega) only [r87_0, r87_1, r87_4, r87_5, r87_6, r87_9, r87_10, r87_13, r87_14, r87_15, r87_16, r87_19, r87_20, r87_21, r87_23, r87_26, r87_27, r87_28, r87_31, r87_32, r87_35, r87_38, r87_39, r87_42, r87_43, r87_44, r87_45, r87_48, r87_49, r87_50, r87_53, r87_54, r87_57, r87_58, r87_59, r87_60, r87_61, r87_64, r87_65, r87_67, r87_70, r87_73, r87_74, r87_75, r87_78, r87_79, r87_80, ↓if_pos, ↓if_neg, c2b]
theorem SCh.bump (h : SCh I g c) : SCh (xbump I x) g c := by
  obtain ⟨c1, c2, c3⟩ := h
  refine ⟨?_, fun b b0 b1 => by rw [xbump_o (by decide)]; exact c2 b b0 b1, fun b b0 b1 => by rw [xbump_o (by decide)]; exact c3 b b0 b1⟩
  rw [xbump_o (by decide)]
  rcases c1 with c1 | ⟨c1, cR⟩
  · exact Or.inl c1
  · exact Or.inr ⟨c1, cR.cong (xbump_o (by decide) _) (xbump_o (by decide))⟩
theorem SMk.bump (h : SMk I m) : SMk (xbump I x) m := by
  obtain ⟨m1, m2, m3⟩ := h
  exact ⟨by rw [xbump_o (by decide)]; exact m1, fun c c0 c1 => by rw [xbump_o (by decide), xbump_o (by decide)]; exact m2 c c0 c1, by rw [xbump_o (by decide)]; exact m3⟩
theorem SMk.mono (h : SMk I m) : SMk I (m + 1) := ⟨⟨h.1.1, by have := h.1.2; omega⟩, h.2⟩
/-- an answer of the class that may search or refuse -/
def XSB (d z : Nat) (args : List AV) (I : MM) (r : Int) (s' : ST) (m : Int) : Prop := ∃ J, call d z (vR 1 :: args) I = some (some (vI r), J) ∧ XR J s' ∧ OUT (1 :: SL) I J ∧ SCh J (gg s') (cd s') ∧ SMk J (m + 1)
theorem X_lost (hX : XR I s) (hO : OK s) (hC : SCh I (gg s) (cd s)) (hm : SMk I m) (hm2 : m < 2147483645) : XSB (d + 8) 122 [vI b] I (aLost s b) (sLost s b) m := by
  unfold aLost sLost
  by_cases h : 0 ≤ b ∧ b < (gg s).nB
  · rw [if_pos h, if_pos h]
    obtain ⟨J, j1, j2, j3, j4, j5⟩ := x_lengthWithout (d := d) hX hO hC hm hm2 h.1 h.2
    refine ⟨J, ?_, j2, j3.mono (by simp), j4, j5⟩
    rw [en122]
    simp (disch := omega) only [r122_0, r122_1, r122_4, r122_5, r122_8, r122_11, r122_12, r122_14, r122_16, r122_19, r122_20, r122_21, r122_24, r122_25, r122_28, r122_29, r122_32, ↓if_pos, ↓if_neg, x_hasBoard hX.A, j1, Option.bind_some, pushR_s]
  · rw [if_neg h, if_neg h]
    refine ⟨xbump I 0, ?_, hX.bump (by omega), fun a ha i => xbump_o (fun q => ha (by simp [q])) i, hC.bump, hm.bump.mono⟩
    rw [en122]
    simp (disch := omega) only [r122_0, r122_1, r122_4, r122_5, r122_8, r122_11, r122_12, r122_14, r122_16, r122_19, r122_20, r122_21, r122_24, r122_25, r122_28, r122_29, r122_32, ↓if_pos, ↓if_neg, x_hasBoard hX.A, x_bad, Option.bind_some, pushR_s]
/-- the model's state without a board -/
theorem m_takeWithout (hM : MR I s) (hO : OK s) (hb : b = -1 ∨ (0 ≤ b ∧ b < (gg s).nB)) : ∃ J, call (d + 5) 210 [vR 70, vI b] I = some (some (vI (if b ≠ -1 ∧ onIt (gg s) (cd s) b then 0 else 1)), J) ∧ Fr8 I J ∧ MS J (gg s) (if b = -1 then cd s else setB (cd s) b 15) := by
  have f := memN_fr I
  have hR := hM.R.cong (J := memN I) (f.to8.oth (by omega)); have hS := memN_MS hO.W hM.S
  have hn := hO.W.nB2
  rcases hb with rfl | ⟨h0, h1⟩
  · refine ⟨memN I, ?_, f.to8, by rw [if_pos rfl]; exact hS⟩
    rw [if_neg (fun q => q.1 rfl), en210]
    simp (disch := omega) only [r210_0, r210_1, r210_4, r210_5, r210_6, r210_9, r210_10, r210_11, r210_14, r210_17, r210_18, r210_21, r210_22, r210_23, r210_24, r210_25, r210_28, r210_29, r210_32, r210_33, r210_35, r210_36, r210_37, ↓if_pos, ↓if_neg, m_takeNow, Option.bind_some, pushR_s, pushR_n]
  · have hon := m_isOnBoard (d := d) hR hS hO.W h0 h1
    have hms := ms_setB hO.W hS (b := b) (q := 15) (by omega) (by omega)
    refine ⟨mset (memN I) 78 b 11, ?_, (f.trans (fr7_78 _ _ _)).to8, by rw [if_neg (by omega)]; exact hms⟩
    by_cases ho : onIt (gg s) (cd s) b
    · rw [if_pos ho] at hon
      rw [if_pos ⟨by omega, ho⟩]; clear ho
      rw [en210]
      simp (disch := omega) only [r210_0, r210_1, r210_4, r210_5, r210_6, r210_9, r210_10, r210_11, r210_14, r210_17, r210_18, r210_21, r210_22, r210_23, r210_24, r210_25, r210_28, r210_29, r210_32, r210_33, r210_35, r210_36, r210_37, ↓if_pos, ↓if_neg, m_takeNow, hon, Option.bind_some, pushR_s, pushR_n]
    · rw [if_neg ho] at hon
      rw [if_neg (fun q => ho q.2)]; clear ho
      rw [en210]
      simp (disch := omega) only [r210_0, r210_1, r210_4, r210_5, r210_6, r210_9, r210_10, r210_11, r210_14, r210_17, r210_18, r210_21, r210_22, r210_23, r210_24, r210_25, r210_28, r210_29, r210_32, r210_33, r210_35, r210_36, r210_37, ↓if_pos, ↓if_neg, m_takeNow, hon, Option.bind_some, pushR_s, pushR_n]
theorem M_lost (hM : MR I s) (hO : OK s) : MA (d + 9) 211 [vI b] I (aLost s b) (sLost s b) := by
  unfold aLost sLost
  by_cases h : 0 ≤ b ∧ b < (gg s).nB
  · rw [if_pos h, if_pos h]
    obtain ⟨J, j1, j2, j3⟩ := m_takeWithout (d := d + 3) hM hO (Or.inr h)
    rw [if_neg (by omega)] at j3
    unfold lostA
    by_cases ho : onIt (gg s) (cd s) b
    · rw [if_pos ⟨by omega, ho⟩] at j1
      rw [if_pos ho]; clear ho
      refine ⟨J, ?_, hM.fr8 hO j2, j2.out⟩
      rw [en211]
      simp (disch := omega) only [r211_0, r211_1, r211_2, r211_5, r211_8, r211_9, r211_11, r211_14, r211_15, r211_16, r211_17, r211_20, r211_23, r211_24, r211_25, r211_28, r211_31, r211_34, r211_35, ↓if_pos, ↓if_neg, m_isBoard hM.R hO.W, j1, Option.bind_some, pushR_s]
    · rw [if_neg (fun q => ho q.2)] at j1
      rw [if_neg ho]; clear ho
      have hV := vc_lost hO.W hO.V h.1 h.2
      have hR := j2.mf.RG hM.R
      have hst := m_stateNow (d := d + 6) hR j3 hO.W hV
      obtain ⟨K, k1, k2, k3⟩ := m_findFewest (d := d) hO.W hR hV
      have hf := j2.mf.trans k2
      refine ⟨K, ?_, hM.mf hO hf, hf.out⟩
      rw [en211]
      simp (disch := omega) only [r211_0, r211_1, r211_2, r211_5, r211_8, r211_9, r211_11, r211_14, r211_15, r211_16, r211_17, r211_20, r211_23, r211_24, r211_25, r211_28, r211_31, r211_34, r211_35, ↓if_pos, ↓if_neg, m_isBoard hM.R hO.W, j1, hst, k1, Option.bind_some, pushR_s]
  · rw [if_neg h, if_neg h]; refine MA.bump hO hM (by omega) ?_
    rw [en211]; simp (disch := omega) only [r211_0, r211_1, r211_2, r211_5, r211_8, r211_9, r211_11, r211_14, r211_15, r211_16, r211_17, r211_20, r211_23, r211_24, r211_25, r211_28, r211_31, r211_34, r211_35, ↓if_pos, ↓if_neg, m_isBoard hM.R hO.W, m_bad, Option.bind_some, pushR_s]
end
