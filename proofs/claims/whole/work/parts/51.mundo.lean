/-! undo of the model; type of both. -/
def qw (n f : Int) (J : MM) : MM := if n = 0 then J else if n = 1 then mset J 71 10 (J 71 f) else if n = 2 then mset (mset J 71 10 (J 71 f)) 71 13 (J 71 (f + 1)) else mset (mset (mset J 71 10 (J 71 f)) 71 13 (J 71 (f + 1))) 71 16 (J 71 (f + 2))
def qb (n f : Int) (J : MM) : MM := if n = 0 then J else if n = 1 then mset J 71 21 (J 71 (f + 3)) else mset (mset J 71 21 (J 71 (f + 3))) 71 25 (J 71 (f + 3 + 1))
theorem qw_o {n f : Int} {J : MM} {a : Nat} {i : Int} (h : ¬ (a = 71 ∧ (i = 10 ∨ i = 13 ∨ i = 16))) : qw n f J a i = J a i := by
  unfold qw
  split
  · rfl
  · split
    · rw [mset_at, if_neg (by omega)]
    · split
      · rw [mset_at, if_neg (by omega), mset_at, if_neg (by omega)]
      · rw [mset_at, if_neg (by omega), mset_at, if_neg (by omega), mset_at, if_neg (by omega)]
theorem qb_o {n f : Int} {J : MM} {a : Nat} {i : Int} (h : ¬ (a = 71 ∧ (i = 21 ∨ i = 25))) : qb n f J a i = J a i := by
  unfold qb
  split
  · rfl
  · split
    · rw [mset_at, if_neg (by omega)]
    · rw [mset_at, if_neg (by omega), mset_at, if_neg (by omega)]
section
variable {d : Nat} {I J K : MM} {s : ST} {g : G} {a c w x y b p v i m f : Int}
theorem undo_w (hn : 0 ≤ J 71 67 ∧ J 71 67 ≤ 3) (hf : 70 ≤ f ∧ f ≤ 105) : runs (call (d + 1)) 196 41 [vR 70, vI f, vI 0] [] J = runs (call (d + 1)) 196 78 [vR 70, vI f, vI 0] [] (qw (J 71 67) f J) := by
  have hc : J 71 67 = 0 ∨ J 71 67 = 1 ∨ J 71 67 = 2 ∨ J 71 67 = 3 := by omega
  rcases hc with hc | hc | hc | hc <;> simp (disch := omega) only [r196_0, r196_1, r196_4, r196_6, r196_7, r196_10, r196_11, r196_14, r196_15, r196_16, r196_19, r196_21, r196_22, r196_23, r196_24, r196_25, r196_26, r196_28, r196_29, r196_30, r196_33, r196_35, r196_36, r196_37, r196_38, r196_39, r196_40, r196_41, r196_42, r196_43, r196_46, r196_49, r196_50, r196_53, r196_55, r196_56, r196_57, r196_58, r196_59, r196_60, r196_61, r196_62, r196_65, r196_66, r196_67, r196_68, r196_69, r196_70, r196_73, r196_76, r196_77, r196_79, r196_80, r196_83, r196_86, r196_87, r196_90, r196_92, r196_93, r196_94, r196_95, r196_96, r196_97, r196_98, r196_99, r196_102, r196_103, r196_104, r196_105, r196_106, r196_107, r196_108, r196_109, r196_112, r196_115, r196_116, ↓if_pos, ↓if_neg, m_walkers0, mset_at, imul_eq, iadd_eq, Int.reduceAdd, Int.reduceMul, Int.add_zero, qw, Option.bind_some, pushR_s]
theorem undo_b (hn : 0 ≤ J 71 68 ∧ J 71 68 ≤ 2) (hf : 70 ≤ f ∧ f ≤ 105) : runs (call (d + 1)) 196 78 [vR 70, vI f, vI 0] [] J = some (some (vI 1), qb (J 71 68) f J) := by
  have hc : J 71 68 = 0 ∨ J 71 68 = 1 ∨ J 71 68 = 2 := by omega
  rcases hc with hc | hc | hc <;> simp (disch := omega) only [r196_0, r196_1, r196_4, r196_6, r196_7, r196_10, r196_11, r196_14, r196_15, r196_16, r196_19, r196_21, r196_22, r196_23, r196_24, r196_25, r196_26, r196_28, r196_29, r196_30, r196_33, r196_35, r196_36, r196_37, r196_38, r196_39, r196_40, r196_41, r196_42, r196_43, r196_46, r196_49, r196_50, r196_53, r196_55, r196_56, r196_57, r196_58, r196_59, r196_60, r196_61, r196_62, r196_65, r196_66, r196_67, r196_68, r196_69, r196_70, r196_73, r196_76, r196_77, r196_78, r196_79, r196_80, r196_83, r196_86, r196_87, r196_90, r196_92, r196_93, r196_94, r196_95, r196_96, r196_97, r196_98, r196_99, r196_102, r196_103, r196_104, r196_105, r196_106, r196_107, r196_108, r196_109, r196_112, r196_115, r196_116, ↓if_pos, ↓if_neg, m_boards0, mset_at, imul_eq, iadd_eq, Int.reduceAdd, Int.reduceMul, Int.add_zero, qb, Option.bind_some, pushR_s]
theorem M_undo (hM : MR I s) (hO : OK s) : MA (d + 2) 196 [] I (aUndo s) (sUndo s) := by
  have hz := hO.psz; have hg := hO.W; have hnw := hg.nW3; have hnb := hg.nB2
  obtain ⟨hR, hN, hRM, hP69, hPe⟩ := hM.N
  have e1 : I 71 67 = (gg s).nW := hR.1.2.1; have e2 : I 71 68 = (gg s).nB := hR.1.2.2
  unfold aUndo sUndo
  by_cases h : s 3 3 (-1) = 0
  · rw [if_pos h, if_pos h]; refine MA.bump hO hM (by omega) ?_
    rw [en196]; simp (disch := omega) only [r196_0, r196_1, r196_4, r196_6, r196_7, r196_10, r196_11, r196_14, r196_15, r196_16, r196_19, r196_21, r196_22, r196_23, r196_24, r196_25, r196_26, r196_28, r196_29, r196_30, r196_33, r196_35, r196_36, r196_37, r196_38, r196_39, r196_40, r196_41, r196_42, r196_43, r196_46, r196_49, r196_50, r196_53, r196_55, r196_56, r196_57, r196_58, r196_59, r196_60, r196_61, r196_62, r196_65, r196_66, r196_67, r196_68, r196_69, r196_70, r196_73, r196_76, r196_77, r196_78, r196_79, r196_80, r196_83, r196_86, r196_87, r196_90, r196_92, r196_93, r196_94, r196_95, r196_96, r196_97, r196_98, r196_99, r196_102, r196_103, r196_104, r196_105, r196_106, r196_107, r196_108, r196_109, r196_112, r196_115, r196_116, ↓if_pos, ↓if_neg, m_no, Option.bind_some, pushR_s]
  · rw [if_neg h, if_neg h]
    have hm0 := hPe (s 3 3 (-1) - 1) (by omega) (by omega)
    generalize hk : s 3 3 (-1) - 1 = k at *
    have hk0 : 0 ≤ k ∧ k ≤ 7 := by omega
    have hs : I 71 69 = k + 1 := by rw [hP69]; omega
    -- the memory behind
    have hJ1 : mset I 71 69 k 71 67 = (gg s).nW := by rw [mset_at, if_neg (by omega)]; exact e1
    have hJ2 : qw (gg s).nW (70 + 5 * k) (mset I 71 69 k) 71 68 = (gg s).nB := by rw [qw_o (by omega), mset_at, if_neg (by omega)]; exact e2
    have w1 := undo_w (d := d) (J := mset I 71 69 k) (f := 70 + 5 * k) (by omega) (by omega)
    rw [hJ1] at w1
    have w2 := undo_b (d := d) (J := qw (gg s).nW (70 + 5 * k) (mset I 71 69 k)) (f := 70 + 5 * k) (by omega) (by omega)
    rw [hJ2] at w2
    have oK : ∀ a i, ¬ (a = 71 ∧ (i = 10 ∨ i = 13 ∨ i = 16 ∨ i = 21 ∨ i = 25 ∨ i = 69)) → qb (gg s).nB (70 + 5 * k) (qw (gg s).nW (70 + 5 * k) (mset I 71 69 k)) a i = I a i := fun a i hai => by
      rw [qb_o (by omega), qw_o (by omega), mset_at, if_neg (by omega)]
    refine ⟨qb (gg s).nB (70 + 5 * k) (qw (gg s).nW (70 + 5 * k) (mset I 71 69 k)), ?_, ?_, ?_⟩
    · rw [en196]
      have ek : k + 1 - 1 = k := by omega
      simp (disch := omega) only [r196_0, r196_1, r196_4, r196_6, r196_7, r196_10, r196_11, r196_14, r196_15, r196_16, r196_19, r196_21, r196_22, r196_23, r196_24, r196_25, r196_26, r196_28, r196_29, r196_30, r196_33, r196_35, r196_36, r196_37, r196_38, r196_39, r196_40, r196_42, r196_43, r196_46, r196_49, r196_50, r196_53, r196_55, r196_56, r196_57, r196_58, r196_59, r196_60, r196_61, r196_62, r196_65, r196_66, r196_67, r196_68, r196_69, r196_70, r196_73, r196_76, r196_77, r196_78, r196_79, r196_80, r196_83, r196_86, r196_87, r196_90, r196_92, r196_93, r196_94, r196_95, r196_96, r196_97, r196_98, r196_99, r196_102, r196_103, r196_104, r196_105, r196_106, r196_107, r196_108, r196_109, r196_112, r196_115, r196_116, ↓if_pos, ↓if_neg, hs, isub_eq, ek, imul_eq, iadd_eq, mset_at]
      rw [w1, w2]
    · refine hM.now hO (fun a i h => oK a i (by omega)) _ rfl rfl rfl rfl rfl rfl rfl rfl ⟨RGf.cong hg (fun i hi => oK 71 i (by omega)) hR, ⟨fun w a0 a1 => ?_, fun b a0 a1 => ?_⟩, RMf.cong hO.rsz.2 (fun i hi => oK 71 i (by omega)) hRM, ?_⟩
      · show _ = wAt (s 3 3 k) w
        have hm := hm0.1 w a0 a1
        have a2 : w < (gg s).nW := a1
        have hc : (gg s).nW = 1 ∨ (gg s).nW = 2 ∨ (gg s).nW = 3 := by omega
        rw [qb_o (by omega)]
        rcases hc with hc | hc | hc <;> rcases w012 (w := w) (by omega) with rfl | rfl | rfl <;> first | (exfalso; omega) | skip
        all_goals rw [← hm]; simp (disch := omega) only [qw, hc, mset_at, ↓if_pos, ↓if_neg, Int.add_zero]
      · show _ = lie (bAt (s 3 3 k) b)
        have hm := hm0.2 b a0 a1
        have a2 : b < (gg s).nB := a1
        have hc : (gg s).nB = 1 ∨ (gg s).nB = 2 := by omega
        have e3 : ∀ i, 70 ≤ i → qw (gg s).nW (70 + 5 * k) (mset I 71 69 k) 71 i = I 71 i := fun i hi => by rw [qw_o (by omega), mset_at, if_neg (by omega)]
        rcases hc with hc | hc <;> rcases b01 (b := b) (by omega) with rfl | rfl <;> first | (exfalso; omega) | skip
        all_goals rw [← hm]; simp (disch := omega) only [qb, hc, mset_at, ↓if_pos, ↓if_neg, Int.add_zero, e3]
      · show PMf _ (gg s) (atm (s 3 3) (-1) k)
        refine ⟨?_, fun j j0 j1 => ?_⟩
        · rw [qb_o (by omega), qw_o (by omega), mset_at, if_pos ⟨rfl, rfl⟩]; simp [atm]
        · have j2 : j < k := by simpa [atm] using j1
          have hq := hPe j j0 (by omega)
          have ej : atm (s 3 3) (-1) k j = s 3 3 j := if_neg (by omega)
          rw [ej]
          exact ⟨fun w a0 a1 => (oK 71 _ (by have : w < (gg s).nW := a1; omega)).trans (hq.1 w a0 a1), fun b a0 a1 => (oK 71 _ (by have : b < (gg s).nB := a1; omega)).trans (hq.2 b a0 a1)⟩
    · intro a ha i
      exact oK a i (fun q => ha (by simp [q.1]))
/-! type -/
theorem byte_eq (u : Int) : iand (l2i u) 255 = l2i (land u 255) := by
  rw [iand, l2i, l2i, land, Int32.ofInt_toInt, Int64.ofInt_toInt, Int64.toInt32_and]
  rfl
def byt (v k : Int) : Int := l2i (land (lushr v (8 * k)) 255)
def newT (t : Int → Int) (v n : Int) : Int → Int := fun i => if i = -1 then t (-1) + n else if t (-1) ≤ i then byt v (n - 1 - (i - t (-1))) else t i
abbrev kType (n : Int) : Prop := 1 ≤ n ∧ n ≤ 8
def aType (s : ST) (n : Int) : Int := if kType n then (if 200 < s 3 1 (-1) + n then -4 else s 3 1 (-1) + n) else -2
def sType (s : ST) (v n : Int) : ST := if kType n then (if 200 < s 3 1 (-1) + n then bump s 2 else up s 3 1 (newT (s 3 1) v n)) else bump s 0
theorem x_append (h : 0 ≤ I 18 1 ∧ I 18 1 < 200) : call (d + 1) 96 [vR 18, vI v] I = some (none, mset (mset I 19 (I 18 1) v) 18 1 (I 18 1 + 1)) := by
  rw [en96]
  simp (disch := omega) only [r96_0, r96_1, r96_4, r96_7, r96_10, r96_11, r96_14, r96_15, r96_18, r96_19, r96_20, r96_21, r96_22, r96_25, r96_26, r96_27, r96_30, ↓if_pos, ↓if_neg, iadd_eq, mset_at]
theorem x_type_loop (t : Int → Int) (v2 : AV) (hn : kType x) (hs : 0 ≤ t (-1) ∧ t (-1) + x ≤ 200) : ∀ (r : Nat) (J : MM), (r : Int) ≤ x → J 18 1 = t (-1) + (x - r) → (∀ j, 0 ≤ j → j < t (-1) + (x - r) → J 19 j = newT t v x j) → OUT [18, 19] I J → ∃ K, runs (call (d + 1)) 109 49 [vR 1, vL v, v2, vI x, vI (r - 1)] [] J = some (some (vI (t (-1) + x)), K) ∧ K 18 1 = t (-1) + x ∧ (∀ j, 0 ≤ j → j < t (-1) + x → K 19 j = newT t v x j) ∧ OUT [18, 19] I K := by
  intro r
  induction r with
  | zero =>
    intro J _ h1 h2 h3
    have e : t (-1) + (x - ((0 : Nat) : Int)) = t (-1) + x := by omega
    rw [e] at h1 h2
    refine ⟨J, ?_, h1, h2, h3⟩
    simp (disch := omega) only [r109_0, r109_1, r109_2, r109_5, r109_6, r109_8, r109_11, r109_12, r109_14, r109_16, r109_19, r109_20, r109_21, r109_24, r109_27, r109_28, r109_29, r109_32, r109_35, r109_36, r109_38, r109_40, r109_43, r109_44, r109_45, r109_46, r109_47, r109_49, r109_51, r109_54, r109_55, r109_58, r109_59, r109_61, r109_63, r109_64, r109_65, r109_66, r109_69, r109_70, r109_73, r109_76, r109_79, r109_80, r109_83, r109_86, ↓if_pos, ↓if_neg, h1]
  | succ r ih =>
    intro J hr h1 h2 h3
    push_cast at hr h1 h2
    obtain ⟨K, k1, k2, k3, k4⟩ := ih (mset (mset J 19 (J 18 1) (byt v r)) 18 1 (J 18 1 + 1)) (by omega) (by rw [mset_at, if_pos ⟨rfl, rfl⟩]; omega) (fun j j0 j1 => by
      rw [mset_at, if_neg (by omega), mset_at]
      by_cases hj : j = J 18 1
      · rw [if_pos ⟨rfl, hj⟩, newT, if_neg (by omega), if_pos (by omega)]; congr 1; omega
      · rw [if_neg (fun q => hj q.2)]; exact h2 j j0 (by omega)) ((h3.trans (OUT.mset _ _ (by decide))).trans (OUT.mset _ _ (by decide)))
    refine ⟨K, Eq.trans ?_ k1, k2, k3, k4⟩
    push_cast
    have e2 : (r : Int) + 1 - 1 = r := by omega
    have e3 : (r : Int) + -1 = r - 1 := by omega
    rw [r109_49]
    simp (disch := omega) only [r109_0, r109_1, r109_2, r109_5, r109_6, r109_8, r109_11, r109_12, r109_14, r109_16, r109_19, r109_20, r109_21, r109_24, r109_27, r109_28, r109_29, r109_32, r109_35, r109_36, r109_38, r109_40, r109_43, r109_44, r109_45, r109_46, r109_47, r109_51, r109_54, r109_55, r109_58, r109_59, r109_61, r109_63, r109_64, r109_65, r109_66, r109_69, r109_70, r109_73, r109_76, r109_79, r109_80, r109_83, r109_86, ↓if_pos, ↓if_neg, e2, imul_eq, iadd_eq, byte_eq, x_append, e3, Option.bind_some, pushR_n]
    rfl
theorem X_type (hX : XR I s) (hO : OK s) : XA (d + 2) 109 [vL v, vI x] [1, 18, 19] I (aType s x) (sType s v x) := by
  have hz := hO.tsz; obtain ⟨e, e2⟩ := hX.T
  unfold aType sType
  by_cases h : kType x
  · rw [if_pos h, if_pos h]
    by_cases h4 : 200 < s 3 1 (-1) + x
    · rw [if_pos h4, if_pos h4]
      refine ⟨xbump I 2, ?_, hX.bump (by omega), fun a ha i => xbump_o (fun q => ha (by simp [q])) i⟩
      rw [en109]; simp (disch := omega) only [r109_0, r109_1, r109_2, r109_5, r109_6, r109_8, r109_11, r109_12, r109_14, r109_16, r109_19, r109_20, r109_21, r109_24, r109_27, r109_28, r109_29, r109_32, r109_35, r109_36, r109_38, r109_40, r109_43, r109_44, r109_45, r109_46, r109_47, r109_49, r109_51, r109_54, r109_55, r109_58, r109_59, r109_61, r109_63, r109_64, r109_65, r109_66, r109_69, r109_70, r109_73, r109_76, r109_79, r109_80, r109_83, r109_86, ↓if_pos, ↓if_neg, e, iadd_eq, x_full, Option.bind_some, pushR_s]
    · rw [if_neg h4, if_neg h4]
      obtain ⟨K, k1, k2, k3, k4⟩ := x_type_loop (I := I) (d := d) (v := v) (s 3 1) (vR 0) h ⟨hz.1, by omega⟩ x.toNat I (by omega) (by rw [e]; omega) (fun j j0 j1 => by
        rw [e2 j j0 (by omega), newT, if_neg (by omega), if_neg (by omega)]) (OUT.refl _ _)
      refine ⟨K, ?_, hX.text k4 ⟨?_, fun i i0 i1 => ?_⟩, k4.mono (by simp)⟩
      · rw [en109]
        rw [Int.toNat_of_nonneg (by omega)] at k1
        simp (disch := omega) only [r109_0, r109_1, r109_2, r109_5, r109_6, r109_8, r109_11, r109_12, r109_14, r109_16, r109_19, r109_20, r109_21, r109_24, r109_27, r109_28, r109_29, r109_32, r109_35, r109_36, r109_38, r109_40, r109_43, r109_44, r109_45, r109_46, r109_47, r109_51, r109_54, r109_55, r109_58, r109_59, r109_61, r109_63, r109_64, r109_65, r109_66, r109_69, r109_70, r109_73, r109_76, r109_79, r109_80, r109_83, r109_86, ↓if_pos, ↓if_neg, e, iadd_eq, isub_eq]
        exact k1
      · rw [k2, newT, if_pos rfl]
      · rw [newT, if_pos rfl] at i1; exact k3 i i0 i1
  · rw [if_neg h, if_neg h]
    refine ⟨xbump I 0, ?_, hX.bump (by omega), fun a ha i => xbump_o (fun q => ha (by simp [q])) i⟩
    rw [en109]
    by_cases q : x < 1 <;> simp (disch := omega) only [r109_0, r109_1, r109_2, r109_5, r109_6, r109_8, r109_11, r109_12, r109_14, r109_16, r109_19, r109_20, r109_21, r109_24, r109_27, r109_28, r109_29, r109_32, r109_35, r109_36, r109_38, r109_40, r109_43, r109_44, r109_45, r109_46, r109_47, r109_49, r109_51, r109_54, r109_55, r109_58, r109_59, r109_61, r109_63, r109_64, r109_65, r109_66, r109_69, r109_70, r109_73, r109_76, r109_79, r109_80, r109_83, r109_86, ↓if_pos, ↓if_neg, x_bad, Option.bind_some, pushR_s]
def TF (I J : MM) : Prop := ∀ a i, ¬ (a = 84 ∨ (a = 70 ∧ i = 20)) → J a i = I a i
theorem m_type_loop (t : Int → Int) (v2 : AV) (hn : kType x) (hs : 0 ≤ t (-1) ∧ t (-1) + x ≤ 200) : ∀ (r : Nat) (J : MM), (r : Int) ≤ x → J 70 20 = t (-1) + (x - r) → (∀ j, 0 ≤ j → j < t (-1) + (x - r) → J 84 j = newT t v x j) → TF I J → ∃ K, runs (call d) 214 41 [vR 70, vL v, v2, vI x, vI (r - 1)] [] J = some (some (vI (t (-1) + x)), K) ∧ K 70 20 = t (-1) + x ∧ (∀ j, 0 ≤ j → j < t (-1) + x → K 84 j = newT t v x j) ∧ TF I K := by
  intro r
  induction r with
  | zero =>
    intro J _ h1 h2 h3
    have e : t (-1) + (x - ((0 : Nat) : Int)) = t (-1) + x := by omega
    rw [e] at h1 h2
    refine ⟨J, ?_, h1, h2, h3⟩
    simp (disch := omega) only [r214_0, r214_1, r214_2, r214_3, r214_6, r214_9, r214_12, r214_13, r214_15, r214_18, r214_19, r214_20, r214_23, r214_24, r214_25, r214_28, r214_31, r214_32, r214_35, r214_36, r214_37, r214_38, r214_39, r214_41, r214_43, r214_46, r214_47, r214_50, r214_51, r214_54, r214_55, r214_57, r214_59, r214_60, r214_61, r214_64, r214_65, r214_66, r214_67, r214_68, r214_69, r214_72, r214_73, r214_74, r214_77, r214_80, r214_83, r214_84, r214_87, ↓if_pos, ↓if_neg, h1]
  | succ r ih =>
    intro J hr h1 h2 h3
    push_cast at hr h1 h2
    obtain ⟨K, k1, k2, k3, k4⟩ := ih (mset (mset J 84 (J 70 20) (byt v r)) 70 20 (J 70 20 + 1)) (by omega) (by rw [mset_at, if_pos ⟨rfl, rfl⟩]; omega) (fun j j0 j1 => by
      rw [mset_at, if_neg (by omega), mset_at]
      by_cases hj : j = J 70 20
      · rw [if_pos ⟨rfl, hj⟩, newT, if_neg (by omega), if_pos (by omega)]; congr 1; omega
      · rw [if_neg (fun q => hj q.2)]; exact h2 j j0 (by omega)) (fun a i hai => by rw [mset_at, if_neg (by omega), mset_at, if_neg (by omega)]; exact h3 a i hai)
    refine ⟨K, Eq.trans ?_ k1, k2, k3, k4⟩
    push_cast
    have e2 : (r : Int) + 1 - 1 = r := by omega
    have e3 : (r : Int) + -1 = r - 1 := by omega
    rw [r214_41]
    simp (disch := omega) only [r214_0, r214_1, r214_2, r214_3, r214_6, r214_9, r214_12, r214_13, r214_15, r214_18, r214_19, r214_20, r214_23, r214_24, r214_25, r214_28, r214_31, r214_32, r214_35, r214_36, r214_37, r214_38, r214_39, r214_43, r214_46, r214_47, r214_50, r214_51, r214_54, r214_55, r214_57, r214_59, r214_60, r214_61, r214_64, r214_65, r214_66, r214_67, r214_68, r214_69, r214_72, r214_73, r214_74, r214_77, r214_80, r214_83, r214_84, r214_87, ↓if_pos, ↓if_neg, e2, imul_eq, iadd_eq, e3, mset_at]
    rfl
theorem M_type (hM : MR I s) (hO : OK s) : MA (d + 2) 214 [vL v, vI x] I (aType s x) (sType s v x) := by
  have hz := hO.tsz; obtain ⟨e, e2⟩ := hM.T
  unfold aType sType
  by_cases h : kType x
  · rw [if_pos h, if_pos h]
    by_cases h4 : 200 < s 3 1 (-1) + x
    · rw [if_pos h4, if_pos h4]; refine MA.bump hO hM (by omega) ?_
      rw [en214]; simp (disch := omega) only [r214_0, r214_1, r214_2, r214_3, r214_6, r214_9, r214_12, r214_13, r214_15, r214_18, r214_19, r214_20, r214_23, r214_24, r214_25, r214_28, r214_31, r214_32, r214_35, r214_36, r214_37, r214_38, r214_39, r214_41, r214_43, r214_46, r214_47, r214_50, r214_51, r214_54, r214_55, r214_57, r214_59, r214_60, r214_61, r214_64, r214_65, r214_66, r214_67, r214_68, r214_69, r214_72, r214_73, r214_74, r214_77, r214_80, r214_83, r214_84, r214_87, ↓if_pos, ↓if_neg, m_in, e, iadd_eq, m_full, Option.bind_some, pushR_s]
    · rw [if_neg h4, if_neg h4]
      obtain ⟨K, k1, k2, k3, k4⟩ := m_type_loop (I := I) (d := d + 1) (v := v) (s 3 1) (vR 0) h ⟨hz.1, by omega⟩ x.toNat I (by omega) (by rw [e]; omega) (fun j j0 j1 => by
        rw [e2 j j0 (by omega), newT, if_neg (by omega), if_neg (by omega)]) (fun _ _ _ => rfl)
      refine ⟨K, ?_, ⟨hM.N.cong (fun i _ _ => k4 71 i (by omega)) hO.1, (show TM K (newT (s 3 1) v x) from ⟨?_, fun i i0 i1 => ?_⟩), hM.C.cong (fun i => k4 74 i (by omega)), hM.F.cong (fun i => k4 75 i (by omega)) (fun i => k4 76 i (by omega)) (k4 70 6 (by omega)), hM.I0.cong (fun i => k4 73 i (by omega)) (fun i => k4 72 i (by omega)) hO.2.2.2.2.1, hM.I1.cong (fun i => k4 73 i (by omega)) (fun i => k4 72 i (by omega)) hO.2.2.2.2.2⟩, fun a ha i => k4 a i (fun q => ha (by rcases q with q | q <;> simp [q]))⟩
      · rw [en214]
        rw [Int.toNat_of_nonneg (by omega)] at k1
        simp (disch := omega) only [r214_0, r214_1, r214_2, r214_3, r214_6, r214_9, r214_12, r214_13, r214_15, r214_18, r214_19, r214_20, r214_23, r214_24, r214_25, r214_28, r214_31, r214_32, r214_35, r214_36, r214_37, r214_38, r214_39, r214_43, r214_46, r214_47, r214_50, r214_51, r214_54, r214_55, r214_57, r214_59, r214_60, r214_61, r214_64, r214_65, r214_66, r214_67, r214_68, r214_69, r214_72, r214_73, r214_74, r214_77, r214_80, r214_83, r214_84, r214_87, ↓if_pos, ↓if_neg, m_in, e, iadd_eq, isub_eq, Option.bind_some, pushR_s]
        exact k1
      · rw [k2, newT, if_pos rfl]
      · rw [newT, if_pos rfl] at i1; exact k3 i i0 i1
  · rw [if_neg h, if_neg h]; refine MA.bump hO hM (by omega) ?_
    rw [en214]; simp (disch := omega) only [r214_0, r214_1, r214_2, r214_3, r214_6, r214_9, r214_12, r214_13, r214_15, r214_18, r214_19, r214_20, r214_23, r214_24, r214_25, r214_28, r214_31, r214_32, r214_35, r214_36, r214_37, r214_38, r214_39, r214_41, r214_43, r214_46, r214_47, r214_50, r214_51, r214_54, r214_55, r214_57, r214_59, r214_60, r214_61, r214_64, r214_65, r214_66, r214_67, r214_68, r214_69, r214_72, r214_73, r214_74, r214_77, r214_80, r214_83, r214_84, r214_87, ↓if_pos, ↓if_neg, m_in, m_bad, Option.bind_some, pushR_s]
end
