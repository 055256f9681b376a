/-! leaps of the class; the model's flood. -/
theorem leR_s (g : G) (n : Nat) (L : Int) (k : Nat) (Q : List QE) : leR g (n + 1) L k Q = if flF g 131073 k Q then L else leR g n (L + 1) (flQ g 131073 k Q).length (lex g ((flQ g 131073 k Q).length - k) k (flQ g 131073 k Q)) := rfl
theorem leR_lo {g : G} : ∀ (n : Nat) (L : Int) (k : Nat) (Q : List QE), 0 ≤ L → -1 ≤ leR g n L k Q := by
  intro n
  induction n with
  | zero => intro L k Q _; simp [leR]
  | succ n ih =>
    intro L k Q h
    rw [leR_s]; split
    · omega
    · exact ih _ _ _ (by omega)
theorem leapsA_lo (g : G) (c b : Int) : -1 ≤ leapsA g c b := by
  unfold leapsA; split
  · exact leR_lo _ _ _ _ (by omega)
  · split
    · omega
    · exact leR_lo _ _ _ _ (by omega)
section
variable {d : Nat} {I J K : MM} {s : ST} {g : G} {a c w x y b p v i m f : Int} {Q : List QE}
theorem Q0_qi {g : G} {c : Int} (hV : VC g c) : QI g (Q0 c) := ⟨fun i hi => by
    have : i = 0 := by have : i < 1 := hi; omega
    subst this; exact hV, by simp [Q0]⟩
theorem x_fewestLeaps (hg : WG g) (hA : At 2 I g) (hV : VC g c) (hm : 0 ≤ m ∧ m < 2147483646) (h5 : I 27 5 = m) (h28 : ∀ c, 0 ≤ c → c < 131072 → I 28 c ≤ m) (h7 : I 27 7 = 0) : ∃ K, call (d + 6) 90 [vR 27, vR 2, vI c] I = some (some (vI (leR g 4 0 0 (Q0 c))), K) ∧ SF I K ∧ ∃ Qf, SQ K (m + 1) Qf := by
  have hc := hV.c
  obtain ⟨J, b1, b2, b3, b4, b5⟩ := x_begin (d := d + 3) hm h5 h28 hc
  have hAJ := b2.At hA
  rcases ovi_c g c with hv | hv
  · have ho : overs g c := by unfold ovi at hv; split at hv; assumption; omega
    have hr : leR g 4 0 0 (Q0 c) = 0 := by
      rw [leR_s, if_pos (flF_true 131073 0 0 (Q0 c) (by omega) (by omega) (by simp [Q0]) ho)]
    refine ⟨J, ?_, b2, _, b3⟩
    rw [hr, en90]
    simp (disch := omega) only [r90_0, r90_1, r90_2, r90_5, r90_6, r90_7, r90_10, r90_13, r90_14, r90_15, r90_16, r90_17, r90_18, r90_22, r90_23, r90_26, r90_27, r90_28, r90_29, r90_32, r90_35, r90_36, r90_38, r90_40, r90_41, r90_44, r90_47, r90_49, r90_50, r90_53, r90_54, r90_57, r90_58, r90_59, r90_60, r90_63, r90_65, r90_66, r90_69, r90_72, r90_74, r90_75, r90_78, r90_81, r90_83, r90_84, r90_87, r90_88, r90_91, r90_94, r90_95, r90_97, r90_98, r90_99, r90_102, r90_105, r90_108, r90_109, r90_111, r90_113, r90_115, r90_118, r90_120, r90_121, r90_124, r90_125, r90_128, r90_129, r90_130, r90_131, r90_134, r90_136, r90_137, r90_140, r90_143, r90_145, r90_146, r90_147, r90_148, r90_151, r90_154, r90_156, r90_157, r90_160, r90_163, r90_164, ↓if_pos, ↓if_neg, b1, x_isOveri hAJ hg hc, hv, Option.bind_some, pushR_s, pushR_n]
  · have ho : ¬ overs g c := by unfold ovi at hv; split at hv; omega; assumption
    obtain ⟨K, s1, k1, k2⟩ := leaps_loop (d := d) (c := c) hg 4 0 0 (vR 0) (vR 0) J (Q0 c) (by omega) (by omega) (by omega) hAJ b3 (Q0_qi hV) (fun i hi => by
      have : i = 0 := by have : i < 1 := hi; omega
      subst this; exact ho) (fun i i0 i1 => by have : i < 1 := i1; omega) ((b2.2.1 7 (by omega) (by omega) (by omega) (by omega)).trans h7)
    refine ⟨K, ?_, b2.trans s1, k2⟩
    rw [en90, ← k1]
    simp (disch := omega) only [r90_0, r90_1, r90_2, r90_5, r90_6, r90_7, r90_10, r90_13, r90_14, r90_15, r90_16, r90_17, r90_18, r90_22, r90_23, r90_26, r90_27, r90_28, r90_29, r90_32, r90_35, r90_36, r90_38, r90_40, r90_41, r90_44, r90_47, r90_49, r90_50, r90_53, r90_54, r90_57, r90_58, r90_59, r90_60, r90_63, r90_65, r90_66, r90_69, r90_72, r90_74, r90_75, r90_78, r90_81, r90_83, r90_84, r90_87, r90_88, r90_91, r90_94, r90_95, r90_97, r90_98, r90_99, r90_102, r90_105, r90_108, r90_109, r90_111, r90_113, r90_115, r90_118, r90_120, r90_121, r90_124, r90_125, r90_128, r90_129, r90_130, r90_131, r90_134, r90_136, r90_137, r90_140, r90_143, r90_145, r90_146, r90_147, r90_148, r90_151, r90_154, r90_156, r90_157, r90_160, r90_163, r90_164, ↓if_pos, ↓if_neg, b1, x_isOveri hAJ hg hc, hv, Option.bind_some, pushR_s, pushR_n, Int.natCast_zero]
abbrev kLeaps (s : ST) (b : Int) : Prop := b = -1 ∨ (0 ≤ b ∧ b < (gg s).nB)
def aLeaps (s : ST) (b : Int) : Int := if kLeaps s b then leapsA (gg s) (cd s) b else -2
def sLeaps (s : ST) (b : Int) : ST := if kLeaps s b then s else bump s 0
/-- the third cache is written -/
theorem SCh.put33 (h : SCh I (gg s) (cd s)) (hb : b < (gg s).nB) (e10 : K 27 10 = I 27 10) (e9 : K 27 9 = I 27 9) (e30 : ∀ i, K 30 i = I 30 i) (e32 : ∀ i, K 32 i = I 32 i) (e33 : ∀ i, K 33 i = I 33 i) : SCh (mset K 33 (b + 1) (leapsA (gg s) (cd s) b)) (gg s) (cd s) := by
  obtain ⟨c1, c2, c3⟩ := h
  refine ⟨?_, fun e e0 e1 => by rw [mset_at, if_neg (by omega), e32]; exact c2 e e0 e1, fun e e0 e1 => ?_⟩
  · rw [mset_at, if_neg (by omega), e10]
    rcases c1 with c1 | ⟨c1, cR⟩
    · exact Or.inl c1
    · exact Or.inr ⟨c1, cR.cong (by rw [mset_at, if_neg (by omega)]; exact e9) (fun i => by rw [mset_at, if_neg (by omega)]; exact e30 i)⟩
  · rw [mset_at]
    by_cases he : e = b + 1
    · rw [if_pos ⟨rfl, he⟩]
      have : e - 1 = b := by omega
      rw [this]; exact Or.inr ⟨hb, rfl⟩
    · rw [if_neg (fun q => he q.2), e33]; exact c3 e e0 e1
theorem x_leapsWithout (hX : XR I s) (hO : OK s) (hC : SCh I (gg s) (cd s)) (hm : SMk I m) (hm2 : m < 2147483645) (hb : kLeaps s b) : ∃ J, call (d + 7) 88 [vR 27, vR 2, vI b] I = some (some (vI (leapsA (gg s) (cd s) b)), J) ∧ XR J s ∧ OUT SL I J ∧ SCh J (gg s) (cd s) ∧ SMk J (m + 1) := by
  obtain ⟨⟨m0, m1⟩, m2, m3⟩ := hm
  have hn := hO.W.nB2; have hc := hO.V.c
  have hb2 : b < (gg s).nB := by
    have h3 := hn.1
    rcases hb with h | h
    · have h4 : 0 ≤ (gg s).nB := h3
      omega
    · exact h.2
  have hb3 : -1 ≤ b ∧ b < 2 := by rcases hb with h | h <;> omega
  rcases hC.2.2 (b + 1) (by omega) (by omega) with c3 | ⟨-, c3⟩
  · -- not known yet
    have hstart : ∀ r : Int, (∀ c2, (b = -1 → c2 = cd s) → (b ≠ -1 → c2 = setB (cd s) b 15) → (b ≠ -1 → ¬ onIt (gg s) (cd s) b) → VC (gg s) c2 → leapsA (gg s) (cd s) b = leR (gg s) 4 0 0 (Q0 c2)) := fun r c2 h1 h2 h3 _ => by
      unfold leapsA
      by_cases h : b = -1
      · rw [if_pos h, h1 h]
      · rw [if_neg h, if_neg (h3 h), h2 h]
    by_cases ho : b ≠ -1 ∧ onIt (gg s) (cd s) b
    · have hl := (load_on (c := cd s) (b := b) hO.W).mpr ho.2
      have hr : leapsA (gg s) (cd s) b = -1 := by unfold leapsA; rw [if_neg ho.1, if_pos ho.2]
      have hb0 : 0 ≤ b := by rcases hb with h | h; exact (ho.1 h).elim; exact h.1
      have hne := ho.1
      clear ho hstart
      have hch := hC.put33 (K := I) hb2 rfl rfl (fun _ => rfl) (fun _ => rfl) (fun _ => rfl)
      rw [hr] at hch ⊢
      refine ⟨mset I 33 (b + 1) (-1), ?_, hX.srch (fun a i h => by rw [mset_at, if_neg (by omega)]), OUT.mset _ _ (by decide), hch, ⟨by rw [mset_at, if_neg (by omega)]; omega, fun c c0 c1 => by rw [mset_at, if_neg (by omega), mset_at, if_neg (by omega)]; exact m2 c c0 c1, by rw [mset_at, if_neg (by omega)]; exact m3⟩⟩
      rw [en88]
      simp (disch := omega) only [r88_0, r88_1, r88_2, r88_3, r88_4, r88_5, r88_8, r88_9, r88_10, r88_13, r88_14, r88_17, r88_18, r88_19, r88_20, r88_23, r88_24, r88_25, r88_27, r88_30, r88_31, r88_32, r88_35, r88_36, r88_37, r88_40, r88_41, r88_44, r88_47, r88_48, r88_51, r88_52, r88_54, r88_55, r88_56, r88_59, r88_60, r88_63, r88_66, r88_67, r88_68, r88_71, r88_72, r88_74, r88_77, r88_79, r88_80, r88_83, r88_84, r88_86, r88_89, r88_90, r88_93, r88_94, r88_95, r88_97, r88_100, r88_101, r88_102, r88_105, r88_106, r88_107, ↓if_pos, ↓if_neg, iadd_eq, hX.n, x_loadOn hX.A hO.W hc, x_withBoard hc, mset_at, Option.bind_some, pushR_s]
    · -- the start
      obtain ⟨c2, hV2, hca, hcb⟩ : ∃ c2, VC (gg s) c2 ∧ (b = -1 → c2 = cd s) ∧ (b ≠ -1 → c2 = setB (cd s) b 15) := by
        by_cases h : b = -1
        · exact ⟨cd s, hO.V, fun _ => rfl, fun q => (q h).elim⟩
        · have hb0 : 0 ≤ b := by rcases hb with h2 | h2; exact (h h2).elim; exact h2.1
          exact ⟨setB (cd s) b 15, vc_lost hO.W hO.V hb0 hb2, fun q => (h q).elim, fun _ => rfl⟩
      have hr := hstart 0 c2 hca hcb (fun q z => ho ⟨q, z⟩) hV2
      obtain ⟨K, k1, k2, Qf, k3⟩ := x_fewestLeaps (d := d) (I := I) (m := I 27 5) hO.W hX.A hV2 ⟨m0, by omega⟩ rfl m2 m3
      have e30 := k2.2.2 m3
      have e7 : K 27 7 = 0 := by rw [k2.2.1 7 (by omega) (by omega) (by omega) (by omega)]; exact m3
      have hch := hC.put33 (K := K) hb2 (k2.2.1 10 (by omega) (by omega) (by omega) (by omega)) (k2.2.1 9 (by omega) (by omega) (by omega) (by omega)) e30 (fun i => k2.1 32 i (by omega) (by omega) (by omega) (by omega) (by omega)) (fun i => k2.1 33 i (by omega) (by omega) (by omega) (by omega) (by omega))
      refine ⟨mset K 33 (b + 1) (leapsA (gg s) (cd s) b), ?_, hX.srch (fun a i h => by rw [mset_at, if_neg (by omega)]; exact k2.1 a i (by omega) (by omega) (by omega) (by omega) (by omega)), k2.out.trans (OUT.mset _ _ (by decide)), hch, ⟨by rw [mset_at, if_neg (by omega), k3.1]; omega, fun c c0 c1 => by rw [mset_at, if_neg (by omega), mset_at, if_neg (by omega), k3.1]; exact k3.2.2.2.2 c c0 c1, by rw [mset_at, if_neg (by omega)]; exact e7⟩⟩
      rw [hr, en88]
      by_cases h : b = -1
      · have hc2 := hca h
        subst hc2
        clear ho hb
        simp (disch := omega) only [r88_0, r88_1, r88_2, r88_3, r88_4, r88_5, r88_8, r88_9, r88_10, r88_13, r88_14, r88_17, r88_18, r88_19, r88_20, r88_23, r88_24, r88_25, r88_27, r88_30, r88_31, r88_32, r88_35, r88_36, r88_37, r88_40, r88_41, r88_44, r88_47, r88_48, r88_51, r88_52, r88_54, r88_55, r88_56, r88_59, r88_60, r88_63, r88_66, r88_67, r88_68, r88_71, r88_72, r88_74, r88_77, r88_79, r88_80, r88_83, r88_84, r88_86, r88_89, r88_90, r88_93, r88_94, r88_95, r88_97, r88_100, r88_101, r88_102, r88_105, r88_106, r88_107, ↓if_pos, ↓if_neg, iadd_eq, hX.n, k1, mset_at, Option.bind_some, pushR_s]
      · have hb0 : 0 ≤ b := by rcases hb with h2 | h2; exact (h h2).elim; exact h2.1
        have hl : ¬ 0 < load (gg s) (cd s) b := fun q => ho ⟨h, (load_on hO.W).mp q⟩
        have hc2 := hcb h
        subst hc2
        clear ho hb
        simp (disch := omega) only [r88_0, r88_1, r88_2, r88_3, r88_4, r88_5, r88_8, r88_9, r88_10, r88_13, r88_14, r88_17, r88_18, r88_19, r88_20, r88_23, r88_24, r88_25, r88_27, r88_30, r88_31, r88_32, r88_35, r88_36, r88_37, r88_40, r88_41, r88_44, r88_47, r88_48, r88_51, r88_52, r88_54, r88_55, r88_56, r88_59, r88_60, r88_63, r88_66, r88_67, r88_68, r88_71, r88_72, r88_74, r88_77, r88_79, r88_80, r88_83, r88_84, r88_86, r88_89, r88_90, r88_93, r88_94, r88_95, r88_97, r88_100, r88_101, r88_102, r88_105, r88_106, r88_107, ↓if_pos, ↓if_neg, iadd_eq, hX.n, x_loadOn hX.A hO.W hc, x_withBoard hc, k1, mset_at, Option.bind_some, pushR_s]
  · have hlo := leapsA_lo (gg s) (cd s) b
    have eb : b + 1 - 1 = b := by omega
    rw [eb] at c3
    refine ⟨I, ?_, hX, OUT.refl _ _, hC, ⟨⟨m0, by omega⟩, m2, m3⟩⟩
    rw [en88]
    clear hb
    simp (disch := omega) only [r88_0, r88_1, r88_2, r88_3, r88_4, r88_5, r88_8, r88_9, r88_10, r88_13, r88_14, r88_17, r88_18, r88_19, r88_20, r88_23, r88_24, r88_25, r88_27, r88_30, r88_31, r88_32, r88_35, r88_36, r88_37, r88_40, r88_41, r88_44, r88_47, r88_48, r88_51, r88_52, r88_54, r88_55, r88_56, r88_59, r88_60, r88_63, r88_66, r88_67, r88_68, r88_71, r88_72, r88_74, r88_77, r88_79, r88_80, r88_83, r88_84, r88_86, r88_89, r88_90, r88_93, r88_94, r88_95, r88_97, r88_100, r88_101, r88_102, r88_105, r88_106, r88_107, ↓if_pos, ↓if_neg, iadd_eq, c3]
theorem X_leaps (hX : XR I s) (hO : OK s) (hC : SCh I (gg s) (cd s)) (hm : SMk I m) (hm2 : m < 2147483645) : XSB (d + 8) 123 [vI b] I (aLeaps s b) (sLeaps s b) m := by
  unfold aLeaps sLeaps
  by_cases h : kLeaps s b
  · rw [if_pos h, if_pos h]
    obtain ⟨J, j1, j2, j3, j4, j5⟩ := x_leapsWithout (d := d) hX hO hC hm hm2 h
    refine ⟨J, ?_, j2, j3.mono (by simp), j4, j5⟩
    rw [en123]
    by_cases hb : b = -1
    · clear h
      simp (disch := omega) only [r123_0, r123_1, r123_2, r123_5, r123_6, r123_9, r123_10, r123_13, r123_16, r123_17, r123_19, r123_21, r123_24, r123_25, r123_26, r123_29, r123_30, r123_33, r123_34, r123_37, ↓if_pos, ↓if_neg, x_hasBoard hX.A, j1, Option.bind_some, pushR_s]
    · have hb2 : 0 ≤ b ∧ b < (gg s).nB := h.resolve_left hb
      clear h
      simp (disch := omega) only [r123_0, r123_1, r123_2, r123_5, r123_6, r123_9, r123_10, r123_13, r123_16, r123_17, r123_19, r123_21, r123_24, r123_25, r123_26, r123_29, r123_30, r123_33, r123_34, r123_37, ↓if_pos, ↓if_neg, x_hasBoard hX.A, j1, Option.bind_some, pushR_s]
  · rw [if_neg h, if_neg h]
    refine ⟨xbump I 0, ?_, hX.bump (by omega), fun a ha i => xbump_o (fun q => ha (by simp [q])) i, hC.bump, hm.bump.mono⟩
    rw [en123]
    have h1 : b ≠ -1 := fun q => h (Or.inl q)
    have h2 : ¬ (0 ≤ b ∧ b < (gg s).nB) := fun q => h (Or.inr q)
    clear h
    simp (disch := omega) only [r123_0, r123_1, r123_2, r123_5, r123_6, r123_9, r123_10, r123_13, r123_16, r123_17, r123_19, r123_21, r123_24, r123_25, r123_26, r123_29, r123_30, r123_33, r123_34, r123_37, ↓if_pos, ↓if_neg, x_hasBoard hX.A, x_bad, Option.bind_some, pushR_s]
end
