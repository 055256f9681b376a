/-! clear, erase, write, act and undo of the model. -/
theorem RGf.cong {f f' : Int → Int} {g : G} (hg : WG g) (e : ∀ i, ((0 ≤ i ∧ i < 26 ∧ i ≠ 10 ∧ i ≠ 13 ∧ i ≠ 16 ∧ i ≠ 21 ∧ i ≠ 25) ∨ i = 67 ∨ i = 68) → f' i = f i) (h : RGf f g) : RGf f' g := by
  obtain ⟨⟨a1, a2, a3⟩, a4, a5, a6⟩ := h
  have h7 := hg.last7; have hw := hg.nW3; have hb := hg.nB2
  refine ⟨⟨(e _ (by omega)).trans a1, (e _ (by omega)).trans a2, (e _ (by omega)).trans a3⟩, fun p p0 p1 => (e p (by omega)).trans (a4 p p0 p1), fun w w0 w1 => ⟨(e _ (by omega)).trans (a5 w w0 w1).1, (e _ (by omega)).trans (a5 w w0 w1).2⟩, fun b b0 b1 => ⟨(e _ (by omega)).trans (a6 b b0 b1).1, (e _ (by omega)).trans (a6 b b0 b1).2.1, (e _ (by omega)).trans (a6 b b0 b1).2.2⟩⟩
theorem NSf.cong {f f' : Int → Int} {g : G} {c : Int} (hg : WG g) (e : ∀ i, (i = 10 ∨ i = 13 ∨ i = 16 ∨ i = 21 ∨ i = 25) → f' i = f i) (h : NSf f g c) : NSf f' g c := by
  have hw := hg.nW3; have hb := hg.nB2
  exact ⟨fun w w0 w1 => (e _ (by omega)).trans (h.1 w w0 w1), fun b b0 b1 => (e _ (by omega)).trans (h.2 b b0 b1)⟩
theorem RMf.cong {f f' : Int → Int} {r : Int → Int} (hr : r (-1) ≤ 40) (e : ∀ i, (26 ≤ i ∧ i < 67) → f' i = f i) (h : RMf f r) : RMf f' r :=
  ⟨(e _ (by omega)).trans h.1, fun i i0 i1 => (e _ (by omega)).trans (h.2 i i0 i1)⟩
theorem PMf.cong {f f' : Int → Int} {g : G} {p : Int → Int} (hg : WG g) (hp : p (-1) ≤ 8) (e : ∀ i, (69 ≤ i ∧ i < 110) → f' i = f i) (h : PMf f g p) : PMf f' g p := by
  have hw := hg.nW3; have hb := hg.nB2
  exact ⟨(e _ (by omega)).trans h.1, fun k k0 k1 => ⟨fun w w0 w1 => (e _ (by omega)).trans ((h.2 k k0 k1).1 w w0 w1), fun b b0 b1 => (e _ (by omega)).trans ((h.2 k k0 k1).2 b b0 b1)⟩⟩
def pw (n : Int) (J : MM) : MM := if n = 0 then J else if n = 1 then mset J 71 10 (J 77 0) else if n = 2 then mset (mset J 71 10 (J 77 0)) 71 13 (J 77 1) else mset (mset (mset J 71 10 (J 77 0)) 71 13 (J 77 1)) 71 16 (J 77 2)
def pb (n : Int) (J : MM) : MM := if n = 0 then J else if n = 1 then mset J 71 21 (J 78 0) else mset (mset J 71 21 (J 78 0)) 71 25 (J 78 1)
theorem pw_o {n : Int} {J : MM} {a : Nat} {i : Int} (h : ¬ (a = 71 ∧ (i = 10 ∨ i = 13 ∨ i = 16))) : pw n J a i = J a i := by
  unfold pw
  split
  · rfl
  · split
    · rw [mset_at, if_neg (by omega)]
    · split
      · rw [mset_at, if_neg (by omega), mset_at, if_neg (by omega)]
      · rw [mset_at, if_neg (by omega), mset_at, if_neg (by omega), mset_at, if_neg (by omega)]
theorem pb_o {n : Int} {J : MM} {a : Nat} {i : Int} (h : ¬ (a = 71 ∧ (i = 21 ∨ i = 25))) : pb n J a i = J a i := by
  unfold pb
  split
  · rfl
  · split
    · rw [mset_at, if_neg (by omega)]
    · rw [mset_at, if_neg (by omega), mset_at, if_neg (by omega)]
section
variable {d : Nat} {I J K : MM} {s : ST} {g : G} {a c w x y b p v i m : Int}
theorem m_walkers0 : call (d + 1) 159 [vR 70] I = some (some (vI (I 71 67)), I) := by
  rw [en159]; simp (disch := omega) only [r159_0, r159_1, r159_4, r159_6, r159_7, ↓if_pos]
theorem m_boards0 : call (d + 1) 160 [vR 70] I = some (some (vI (I 71 68)), I) := by
  rw [en160]; simp (disch := omega) only [r160_0, r160_1, r160_4, r160_6, r160_7, ↓if_pos]
theorem put_w (hn : 0 ≤ J 71 67 ∧ J 71 67 ≤ 3) : ∃ v, runs (call (d + 1)) 165 0 [vR 70, vR 0] [] J = runs (call (d + 1)) 165 37 [vR 70, vI v] [] (pw (J 71 67) J) := by
  have hc : J 71 67 = 0 ∨ J 71 67 = 1 ∨ J 71 67 = 2 ∨ J 71 67 = 3 := by omega
  refine ⟨0, ?_⟩
  rcases hc with hc | hc | hc | hc <;> simp (disch := omega) only [r165_0, r165_1, r165_2, r165_3, r165_4, r165_7, r165_10, r165_11, r165_14, r165_16, r165_17, r165_18, r165_19, r165_20, r165_21, r165_22, r165_23, r165_26, r165_27, r165_28, r165_29, r165_32, r165_35, r165_36, r165_38, r165_39, r165_42, r165_45, r165_46, r165_49, r165_51, r165_52, r165_53, r165_54, r165_55, r165_56, r165_57, r165_58, r165_61, r165_62, r165_63, r165_64, r165_67, r165_70, ↓if_pos, ↓if_neg, m_walkers0, mset_at, imul_eq, iadd_eq, Int.reduceAdd, Int.reduceMul, pw, Option.bind_some, pushR_s]
theorem put_b (hn : 0 ≤ J 71 68 ∧ J 71 68 ≤ 2) : runs (call (d + 1)) 165 37 [vR 70, vI 0] [] J = some (none, pb (J 71 68) J) := by
  have hc : J 71 68 = 0 ∨ J 71 68 = 1 ∨ J 71 68 = 2 := by omega
  rcases hc with hc | hc | hc <;> simp (disch := omega) only [r165_0, r165_1, r165_2, r165_3, r165_4, r165_7, r165_10, r165_11, r165_14, r165_16, r165_17, r165_18, r165_19, r165_20, r165_21, r165_22, r165_23, r165_26, r165_27, r165_28, r165_29, r165_32, r165_35, r165_36, r165_37, r165_38, r165_39, r165_42, r165_45, r165_46, r165_49, r165_51, r165_52, r165_53, r165_54, r165_55, r165_56, r165_57, r165_58, r165_61, r165_62, r165_63, r165_64, r165_67, r165_70, ↓if_pos, ↓if_neg, m_boards0, mset_at, imul_eq, iadd_eq, Int.reduceAdd, Int.reduceMul, pb, Option.bind_some, pushR_s]
theorem m_putNow (hR : RG J g) (hg : WG g) (hM : MS J g c) : ∃ K, call (d + 2) 165 [vR 70] J = some (none, K) ∧ (∀ a i, ¬ (a = 71 ∧ (i = 10 ∨ i = 13 ∨ i = 16 ∨ i = 21 ∨ i = 25)) → K a i = J a i) ∧ NS K g c := by
  have hw := hg.nW3; have hb := hg.nB2; have e1 := hR.nW; have e2 := hR.nB
  obtain ⟨v, h1⟩ := put_w (d := d) (J := J) (by omega)
  refine ⟨pb (J 71 68) (pw (J 71 67) J), ?_, ?_, ?_, ?_⟩
  · rw [en165]
    have hz : runs (call (d + 1)) 165 0 [vR 70, vR 0] [] J = runs (call (d + 1)) 165 37 [vR 70, vI 0] [] (pw (J 71 67) J) := by
      have hc : J 71 67 = 0 ∨ J 71 67 = 1 ∨ J 71 67 = 2 ∨ J 71 67 = 3 := by omega
      rcases hc with hc | hc | hc | hc <;> simp (disch := omega) only [r165_0, r165_1, r165_2, r165_3, r165_4, r165_7, r165_10, r165_11, r165_14, r165_16, r165_17, r165_18, r165_19, r165_20, r165_21, r165_22, r165_23, r165_26, r165_27, r165_28, r165_29, r165_32, r165_35, r165_36, r165_38, r165_39, r165_42, r165_45, r165_46, r165_49, r165_51, r165_52, r165_53, r165_54, r165_55, r165_56, r165_57, r165_58, r165_61, r165_62, r165_63, r165_64, r165_67, r165_70, ↓if_pos, ↓if_neg, m_walkers0, mset_at, imul_eq, iadd_eq, Int.reduceAdd, Int.reduceMul, pw, Option.bind_some, pushR_s]
    have e3 : pw (J 71 67) J 71 68 = J 71 68 := pw_o (by omega)
    rw [hz, put_b (by omega), e3]
  · intro a i hai
    rw [pb_o (by omega), pw_o (by omega)]
  · intro w w0 w1
    have hm := hM.1 w w0 w1
    rw [pb_o (by omega), e1]
    have hc : g.nW = 1 ∨ g.nW = 2 ∨ g.nW = 3 := by omega
    rcases hc with hc | hc | hc <;> rcases w012 (w := w) (by omega) with rfl | rfl | rfl <;> first | (exfalso; omega) | (simp [pw, hc, mset_at]; exact hm)
  · intro b b0 b1
    have hm := hM.2 b b0 b1
    have e3 : ∀ i, pw (J 71 67) J 78 i = J 78 i := fun i => pw_o (by omega)
    rw [e2]
    have hc : g.nB = 1 ∨ g.nB = 2 := by omega
    rcases hc with hc | hc <;> rcases b01 (b := b) (by omega) with rfl | rfl <;> first | (exfalso; omega) | (simp [pb, hc, mset_at, e3]; exact hm)
/-! clear, erase, write -/
theorem M_clear (hM : MR I s) (hO : OK s) : MA (d + 1) 215 [] I (s 3 1 (-1)) (sClear s) := by
  have e := hM.T.1
  have o : ∀ a i, ¬ (a = 70 ∧ i = 20) → mset I 70 20 0 a i = I a i := fun a i h => by rw [mset_at, if_neg h]
  refine ⟨mset I 70 20 0, ?_, ?_, OUT.mset _ _ (by decide)⟩
  · rw [en215]; simp (disch := omega) only [r215_0, r215_1, r215_4, r215_5, r215_6, r215_7, r215_10, r215_11, ↓if_pos, ↓if_neg, e]
  · exact ⟨hM.N.cong (fun i _ _ => o 71 i (by omega)) hO.1, (show TM _ (atm (s 3 1) (-1) 0) from ⟨by simp [mset_at, atm], fun i i0 i1 => by simp [atm] at i1; omega⟩), hM.C.cong (fun i => o 74 i (by omega)), hM.F.cong (fun i => o 75 i (by omega)) (fun i => o 76 i (by omega)) (o 70 6 (by omega)), hM.I0.cong (fun i => o 73 i (by omega)) (fun i => o 72 i (by omega)) hO.2.2.2.2.1, hM.I1.cong (fun i => o 73 i (by omega)) (fun i => o 72 i (by omega)) hO.2.2.2.2.2⟩
/-- only now changes -/
theorem MR.now (hM : MR I s) (hO : OK s) (o : ∀ a i, (a = 72 ∨ a = 73 ∨ a = 74 ∨ a = 75 ∨ a = 76 ∨ a = 84 ∨ (a = 70 ∧ (i = 6 ∨ i = 20))) → J a i = I a i) (s' : ST) (e0 : s' 0 = s 0) (e1 : s' 1 = s 1) (e2 : s' 2 = s 2) (e4 : s' 4 = s 4) (e5 : s' 5 = s 5) (t1 : s' 3 1 = s 3 1) (t4 : s' 3 4 = s 3 4) (t5 : s' 3 5 = s 3 5) (hN : NM (J 71) (s 0) (s' 3)) : MR J s' := by
  refine ⟨by rw [e0]; exact hN, by rw [t1]; exact hM.T.cong (o 70 20 (by omega)) (fun i => o 84 i (by omega)), by rw [t4]; exact hM.C.cong (fun i => o 74 i (by omega)), by rw [t5]; exact hM.F.cong (fun i => o 75 i (by omega)) (fun i => o 76 i (by omega)) (o 70 6 (by omega)), by rw [e1, e4]; exact hM.I0.cong (fun i => o 73 i (by omega)) (fun i => o 72 i (by omega)) hO.2.2.2.2.1, by rw [e2, e5]; exact hM.I1.cong (fun i => o 73 i (by omega)) (fun i => o 72 i (by omega)) hO.2.2.2.2.2⟩
theorem M_erase (hM : MR I s) (hO : OK s) : MA (d + 1) 235 [] I (s 3 2 (-1)) (sErase s) := by
  obtain ⟨hR, hN, ⟨e, e2⟩, hP⟩ := hM.N
  refine ⟨mset I 71 26 0, ?_, ?_, OUT.mset _ _ (by decide)⟩
  · rw [en235]; simp (disch := omega) only [r235_0, r235_1, r235_4, r235_6, r235_7, r235_8, r235_9, r235_12, r235_14, r235_15, r235_16, r235_17, ↓if_pos, ↓if_neg, e]
  · refine hM.now hO (fun a i h => by rw [mset_at, if_neg (by omega)]) _ rfl rfl rfl rfl rfl rfl rfl rfl ⟨hR.cong hO.W (fun i hi => by rw [mset_at, if_neg (by omega)]), hN.cong hO.W (fun i hi => by rw [mset_at, if_neg (by omega)]), (show RMf _ (atm (s 3 2) (-1) 0) from ⟨by simp [mset_at, atm], fun i i0 i1 => by simp [atm] at i1; omega⟩), hP.cong hO.W hO.psz.2 (fun i hi => by rw [mset_at, if_neg (by omega)])⟩
theorem M_write (hM : MR I s) (hO : OK s) : MA (d + 2) 234 [vI c] I (aWrite s c) (sWrite s c) := by
  have hz := hO.rsz
  obtain ⟨hR, hN, ⟨e, e2⟩, hP⟩ := hM.N
  unfold aWrite sWrite
  by_cases h : 0 ≤ c ∧ c ≤ 127
  · rw [if_pos h, if_pos h]
    by_cases h4 : 40 ≤ s 3 2 (-1)
    · rw [if_pos h4, if_pos h4]; refine MA.bump hO hM (by omega) ?_
      rw [en234]; simp (disch := omega) only [r234_0, r234_1, r234_2, r234_3, r234_6, r234_9, r234_12, r234_13, r234_15, r234_18, r234_19, r234_20, r234_23, r234_25, r234_26, r234_28, r234_31, r234_32, r234_35, r234_36, r234_37, r234_40, r234_42, r234_43, r234_46, r234_48, r234_49, r234_50, r234_51, r234_52, r234_53, r234_56, r234_58, r234_59, r234_60, r234_61, r234_62, r234_63, r234_64, r234_67, r234_69, r234_70, ↓if_pos, ↓if_neg, m_in, m_full, Option.bind_some, pushR_s]
    · rw [if_neg h4, if_neg h4]
      refine ⟨mset (mset I 71 (27 + s 3 2 (-1)) c) 71 26 (s 3 2 (-1) + 1), ?_, ?_, (OUT.mset _ _ (by decide)).trans (OUT.mset _ _ (by decide))⟩
      · rw [en234]
        simp (disch := omega) only [r234_0, r234_1, r234_2, r234_3, r234_6, r234_9, r234_12, r234_13, r234_15, r234_18, r234_19, r234_20, r234_23, r234_25, r234_26, r234_28, r234_31, r234_32, r234_35, r234_36, r234_37, r234_40, r234_42, r234_43, r234_46, r234_48, r234_49, r234_50, r234_51, r234_52, r234_53, r234_56, r234_58, r234_59, r234_60, r234_61, r234_62, r234_63, r234_64, r234_67, r234_69, r234_70, ↓if_pos, ↓if_neg, m_in, e, iadd_eq, mset_at, Option.bind_some, pushR_s]
      · refine hM.now hO (fun a i h => by rw [mset_at, if_neg (by omega), mset_at, if_neg (by omega)]) _ rfl rfl rfl rfl rfl rfl rfl rfl ⟨hR.cong hO.W (fun i hi => by rw [mset_at, if_neg (by omega), mset_at, if_neg (by omega)]), hN.cong hO.W (fun i hi => by rw [mset_at, if_neg (by omega), mset_at, if_neg (by omega)]), (show RMf _ (atm (atm (s 3 2) (s 3 2 (-1)) c) (-1) (s 3 2 (-1) + 1)) from ⟨by simp [mset_at, atm], fun i i0 i1 => ?_⟩), hP.cong hO.W hO.psz.2 (fun i hi => by rw [mset_at, if_neg (by omega), mset_at, if_neg (by omega)])⟩
        have i2 : i < s 3 2 (-1) + 1 := by simpa [atm] using i1
        by_cases hi : i = s 3 2 (-1)
        · subst hi; rw [mset_at, if_neg (by omega), mset_at, if_pos ⟨rfl, rfl⟩, atm, if_neg (by omega), atm, if_pos rfl]
        · rw [mset_at, if_neg (by omega), mset_at, if_neg (by omega), atm, if_neg (by omega), atm, if_neg hi]
          exact e2 i i0 (by omega)
  · rw [if_neg h, if_neg h]; refine MA.bump hO hM (by omega) ?_
    rw [en234]; simp (disch := omega) only [r234_0, r234_1, r234_2, r234_3, r234_6, r234_9, r234_12, r234_13, r234_15, r234_18, r234_19, r234_20, r234_23, r234_25, r234_26, r234_28, r234_31, r234_32, r234_35, r234_36, r234_37, r234_40, r234_42, r234_43, r234_46, r234_48, r234_49, r234_50, r234_51, r234_52, r234_53, r234_56, r234_58, r234_59, r234_60, r234_61, r234_62, r234_63, r234_64, r234_67, r234_69, r234_70, ↓if_pos, ↓if_neg, m_in, m_bad, Option.bind_some, pushR_s]
/-! act: the oldest undo goes, the others move down -/
theorem act_loop (x1 : Int) (v3 : AV) : ∀ (n : Nat) (k : Int) (J : MM), k + n = 35 → 0 ≤ k → (∀ j, 70 ≤ j → j < 70 + k → J 71 j = I 71 (j + 5)) → (∀ j, ¬ (70 ≤ j ∧ j < 70 + k) → J 71 j = I 71 j) → (∀ a, a ≠ 71 → ∀ j, J a j = I a j) → ∃ K, runs (call d) 195 27 [vR 70, vI x1, vI k, v3] [] J = runs (call d) 195 57 [vR 70, vI x1, vI 35, v3] [] K ∧ (∀ j, 70 ≤ j → j < 105 → K 71 j = I 71 (j + 5)) ∧ (∀ j, ¬ (70 ≤ j ∧ j < 105) → K 71 j = I 71 j) ∧ (∀ a, a ≠ 71 → ∀ j, K a j = I a j) := by
  intro n
  induction n with
  | zero =>
    intro k J hk k0 h1 h2 h3
    have hk2 : k = 35 := by omega
    subst hk2
    refine ⟨J, ?_, h1, h2, h3⟩
    simp (disch := omega) only [r195_0, r195_1, r195_2, r195_5, r195_8, r195_9, r195_12, r195_13, r195_14, r195_17, r195_19, r195_20, r195_22, r195_25, r195_26, r195_27, r195_28, r195_30, r195_33, r195_34, r195_37, r195_39, r195_40, r195_41, r195_42, r195_45, r195_47, r195_48, r195_49, r195_50, r195_51, r195_54, r195_58, r195_61, r195_63, r195_65, r195_66, r195_68, r195_69, r195_70, r195_73, r195_75, r195_76, r195_77, r195_78, r195_79, r195_80, r195_81, r195_82, r195_83, r195_86, r195_87, r195_90, r195_91, r195_92, r195_93, r195_94, r195_97, r195_99, r195_100, r195_101, r195_102, r195_103, r195_104, r195_105, r195_106, r195_107, r195_110, r195_113, r195_114, r195_115, r195_116, r195_117, r195_120, r195_121, r195_124, r195_125, r195_126, r195_127, r195_128, r195_129, r195_130, r195_133, r195_135, r195_136, r195_137, r195_138, r195_139, r195_140, r195_141, r195_142, r195_143, r195_146, r195_149, r195_150, r195_153, r195_155, r195_156, r195_157, r195_158, r195_159, r195_160, r195_161, r195_164, r195_165, ↓if_pos, ↓if_neg]
  | succ n ih =>
    intro k J hk k0 h1 h2 h3
    obtain ⟨K, e, q1, q2, q3⟩ := ih (k + 1) (mset J 71 (70 + k) (J 71 (75 + k))) (by push_cast at hk; omega) (by omega) (fun j j0 j1 => by
      by_cases hj : j = 70 + k
      · rw [mset_at, if_pos ⟨rfl, hj⟩, h2 _ (by omega)]; congr 1; omega
      · rw [mset_at, if_neg (fun q => hj q.2)]; exact h1 j j0 (by omega)) (fun j hj => by rw [mset_at, if_neg (by omega)]; exact h2 j (by omega)) (fun a ha j => by rw [mset_at, if_neg (fun q => ha q.1)]; exact h3 a ha j)
    refine ⟨K, Eq.trans ?_ e, q1, q2, q3⟩
    rw [r195_27]
    have e75 : 70 + 5 + k = 75 + k := by omega
    simp (disch := omega) only [r195_0, r195_1, r195_2, r195_5, r195_8, r195_9, r195_12, r195_13, r195_14, r195_17, r195_19, r195_20, r195_22, r195_25, r195_26, r195_28, r195_30, r195_33, r195_34, r195_37, r195_39, r195_40, r195_41, r195_42, r195_45, r195_47, r195_48, r195_49, r195_50, r195_51, r195_54, r195_58, r195_61, r195_63, r195_65, r195_66, r195_68, r195_69, r195_70, r195_73, r195_75, r195_76, r195_77, r195_78, r195_79, r195_80, r195_81, r195_82, r195_83, r195_86, r195_87, r195_90, r195_91, r195_92, r195_93, r195_94, r195_97, r195_99, r195_100, r195_101, r195_102, r195_103, r195_104, r195_105, r195_106, r195_107, r195_110, r195_113, r195_114, r195_115, r195_116, r195_117, r195_120, r195_121, r195_124, r195_125, r195_126, r195_127, r195_128, r195_129, r195_130, r195_133, r195_135, r195_136, r195_137, r195_138, r195_139, r195_140, r195_141, r195_142, r195_143, r195_146, r195_149, r195_150, r195_153, r195_155, r195_156, r195_157, r195_158, r195_159, r195_160, r195_161, r195_164, r195_165, ↓if_pos, ↓if_neg, iadd_eq, Int.reduceAdd]
end
