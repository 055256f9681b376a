/-! mist of the model. -/
def FrH (I J : MM) : Prop := ∀ a i, ¬ (77 ≤ a ∧ a ≤ 80) → ¬ (86 ≤ a ∧ a ≤ 88) → ¬ (a = 70 ∧ ((9 ≤ i ∧ i ≤ 12) ∨ (29 ≤ i ∧ i ≤ 38))) → J a i = I a i
def arR (g : G) (c : Int) : Nat → Int → Int
  | 0, _ => 0
  | f + 1, o => (if o < g.nW ∧ wAt c o = goalP g o then 1 else 0) + arR g c f (o + 1)
section
variable {d e : Nat} {I J K : MM} {r : Int → Int} {g : G} {c w k x y t v b p n m : Int} {s : ST}
theorem FrE.H (f : FrE I J) : FrH I J := fun a i q1 q2 q3 => f a i q1 q2 (by omega)
theorem FrH.trans (f : FrH I J) (f' : FrH J K) : FrH I K := fun a i q1 q2 q3 => (f' a i q1 q2 q3).trans (f a i q1 q2 q3)
theorem FrH.refl : FrH I I := fun _ _ _ _ _ => rfl
theorem FrH.set {i : Int} (v : Int) (h : i = 37 ∨ i = 38) : FrH I (mset I 70 i v) := fun a j q1 q2 q3 => by rw [mset_at, if_neg (by omega)]
theorem FrH.RG (f : FrH I J) (hR : RG I g) : RG J g := hR.cong (fun i => f 71 i (by omega) (by omega) (by omega))
theorem FrH.Rr (f : FrH I J) (h : RMf (I 71) r) : RMf (J 71) r := by
  have : ∀ i, J 71 i = I 71 i := fun i => f 71 i (by omega) (by omega) (by omega)
  exact ⟨(this _).trans h.1, fun i i0 i1 => (this _).trans (h.2 i i0 i1)⟩
theorem set70_MS {i : Int} (v : Int) (h : MS I g c) : MS (mset I 70 i v) g c := h.cong (fun j => by rw [mset_at, if_neg (by omega)]) (fun j => by rw [mset_at, if_neg (by omega)])
theorem m_goW (hg : WG g) (h : RB r) : ∀ (f : Nat) (w c : Int) (J : MM), 0 ≤ w → w + f = 3 → RG J g → MS J g c → VC g c → RMf (J 71) r → J 70 37 = -1 → J 70 38 = t → ∃ K w', runs (call (d + 10)) 253 32 [vR 70, vI n, vI w] [] J = runs (call (d + 10)) 253 75 [vR 70, vI n, vI w'] [] K ∧ MS K g (mww r g t f w c).1 ∧ VC g (mww r g t f w c).1 ∧ K 70 37 = (mww r g t f w c).2 ∧ K 70 38 = t ∧ FrH J K := by
  have hn := hg.nW3
  intro f
  induction f with
  | zero =>
    intro w c J w0 hw hR hM hV hr h1 h2
    have c1 := m_walkers (d := d + 9) hR
    refine ⟨J, w, ?_, hM, hV, h1, h2, FrH.refl⟩
    simp (disch := omega) only [r253_0, r253_1, r253_4, r253_5, r253_6, r253_9, r253_10, r253_11, r253_14, r253_15, r253_18, r253_19, r253_22, r253_23, r253_26, r253_27, r253_30, r253_31, r253_32, r253_33, r253_34, r253_37, r253_40, r253_41, r253_44, r253_45, r253_48, r253_49, r253_50, r253_51, r253_52, r253_55, r253_58, r253_61, r253_62, r253_65, r253_66, r253_69, r253_72, r253_76, r253_77, r253_80, r253_81, r253_82, r253_85, r253_88, ↓if_pos, ↓if_neg, c1, Option.bind_some, pushR_s]
  | succ f ih =>
    intro w c J w0 hw hR hM hV hr h1 h2
    have c1 := m_walkers (d := d + 9) hR
    rw [mww]
    by_cases hwn : w < g.nW
    · rw [if_pos hwn]
      obtain ⟨J1, c2, s1, f1⟩ := m_goesLost (d := d) (t := t) hR hM hg hV h hr ⟨w0, hwn⟩
      have j38 : J1 70 38 = t := (f1 _ _ (by omega) (by omega) (by omega)).trans h2
      by_cases hl : mgo r g t w c = -1
      · rw [if_pos hl] at s1 c2 ⊢
        have fw : FrH J (mset J1 70 37 w) := f1.H.trans (FrH.set _ (by omega))
        have cw := m_walkers (d := d + 9) (fw.RG hR)
        refine ⟨mset J1 70 37 w, w + 1, ?_, set70_MS _ s1, hV, by rw [mset_at, if_pos ⟨rfl, rfl⟩], by rw [mset_at, if_neg (by omega)]; exact j38, fw⟩
        clear ih
        by_cases hw1 : w + 1 < g.nW
        · simp (disch := omega) only [r253_0, r253_1, r253_4, r253_5, r253_6, r253_9, r253_10, r253_11, r253_14, r253_15, r253_18, r253_19, r253_22, r253_23, r253_26, r253_27, r253_30, r253_31, r253_32, r253_33, r253_34, r253_37, r253_40, r253_41, r253_44, r253_45, r253_48, r253_49, r253_50, r253_51, r253_52, r253_55, r253_58, r253_61, r253_62, r253_65, r253_66, r253_69, r253_72, r253_76, r253_77, r253_80, r253_81, r253_82, r253_85, r253_88, ↓if_pos, ↓if_neg, c1, cw, c2, h1, h2, mset_at, iadd_eq, Option.bind_some, pushR_s]
        · simp (disch := omega) only [r253_0, r253_1, r253_4, r253_5, r253_6, r253_9, r253_10, r253_11, r253_14, r253_15, r253_18, r253_19, r253_22, r253_23, r253_26, r253_27, r253_30, r253_31, r253_32, r253_33, r253_34, r253_37, r253_40, r253_41, r253_44, r253_45, r253_48, r253_49, r253_50, r253_51, r253_52, r253_55, r253_58, r253_61, r253_62, r253_65, r253_66, r253_69, r253_72, r253_76, r253_77, r253_80, r253_81, r253_82, r253_85, r253_88, ↓if_pos, ↓if_neg, c1, cw, c2, h1, h2, iadd_eq, Option.bind_some, pushR_s]
      · rw [if_neg hl] at s1 c2 ⊢
        have fw : FrH J (mset J1 70 37 (-1)) := f1.H.trans (FrH.set _ (by omega))
        obtain ⟨K, w', c3, m1, m2, m3, m4, f3⟩ := ih (w + 1) _ (mset J1 70 37 (-1)) (by omega) (by omega) (fw.RG hR) (set70_MS _ s1) (mgo_vc hg hV hl) (fw.Rr hr) (by rw [mset_at, if_pos ⟨rfl, rfl⟩]) (by rw [mset_at, if_neg (by omega)]; exact j38)
        refine ⟨K, w', ?_, m1, m2, m3, m4, fw.trans f3⟩
        rw [← c3, r253_32]
        clear ih c3
        simp (disch := omega) only [r253_0, r253_1, r253_4, r253_5, r253_6, r253_9, r253_10, r253_11, r253_14, r253_15, r253_18, r253_19, r253_22, r253_23, r253_26, r253_27, r253_30, r253_31, r253_33, r253_34, r253_37, r253_40, r253_41, r253_44, r253_45, r253_48, r253_49, r253_50, r253_51, r253_52, r253_55, r253_58, r253_61, r253_62, r253_65, r253_66, r253_69, r253_72, r253_75, r253_76, r253_77, r253_80, r253_81, r253_82, r253_85, r253_88, ↓if_pos, ↓if_neg, c1, c2, h1, h2, iadd_eq, Option.bind_some, pushR_s]
    · rw [if_neg hwn]
      refine ⟨J, w, ?_, hM, hV, h1, h2, FrH.refl⟩
      clear ih
      simp (disch := omega) only [r253_0, r253_1, r253_4, r253_5, r253_6, r253_9, r253_10, r253_11, r253_14, r253_15, r253_18, r253_19, r253_22, r253_23, r253_26, r253_27, r253_30, r253_31, r253_32, r253_33, r253_34, r253_37, r253_40, r253_41, r253_44, r253_45, r253_48, r253_49, r253_50, r253_51, r253_52, r253_55, r253_58, r253_61, r253_62, r253_65, r253_66, r253_69, r253_72, r253_76, r253_77, r253_80, r253_81, r253_82, r253_85, r253_88, ↓if_pos, ↓if_neg, c1, Option.bind_some, pushR_s]
theorem m_goR (hg : WG g) (h : RB r) (hn40 : n ≤ 40) : ∀ (f : Nat) (t c : Int) (J : MM) (v2 : AV), 0 ≤ t → t + f = n → RG J g → MS J g c → VC g c → RMf (J 71) r → J 70 37 = -1 → J 70 38 = t → ∃ K, runs (call (d + 10)) 253 14 [vR 70, vI n, v2] [] J = some (none, K) ∧ MS K g (mrr r g f t c).1 ∧ K 70 37 = (mrr r g f t c).2.1 ∧ K 70 38 = (mrr r g f t c).2.2 ∧ FrH J K := by
  intro f
  induction f with
  | zero =>
    intro t c J v2 t0 ht hR hM hV hr h1 h2
    refine ⟨J, ?_, hM, h1, h2, FrH.refl⟩
    simp (disch := omega) only [r253_0, r253_1, r253_4, r253_5, r253_6, r253_9, r253_10, r253_11, r253_14, r253_15, r253_18, r253_19, r253_22, r253_23, r253_26, r253_27, r253_30, r253_31, r253_32, r253_33, r253_34, r253_37, r253_40, r253_41, r253_44, r253_45, r253_48, r253_49, r253_50, r253_51, r253_52, r253_55, r253_58, r253_61, r253_62, r253_65, r253_66, r253_69, r253_72, r253_75, r253_76, r253_77, r253_80, r253_81, r253_82, r253_85, r253_88, ↓if_pos, ↓if_neg, h2]
  | succ f ih =>
    intro t c J v2 t0 ht hR hM hV hr h1 h2
    obtain ⟨J1, w', c1, s1, k1, k2, k3, f1⟩ := m_goW (d := d) (t := t) (n := n) hg h 3 0 c J (by omega) (by omega) hR hM hV hr h1 h2
    have fw : FrH J (mset J1 70 38 (t + 1)) := f1.trans (FrH.set _ (by omega))
    have hst : runs (call (d + 10)) 253 14 [vR 70, vI n, v2] [] J = runs (call (d + 10)) 253 14 [vR 70, vI n, vI w'] [] (mset J1 70 38 (t + 1)) := by
      have : runs (call (d + 10)) 253 14 [vR 70, vI n, v2] [] J = runs (call (d + 10)) 253 32 [vR 70, vI n, vI 0] [] J := by
        clear ih c1
        simp (disch := omega) only [r253_0, r253_1, r253_4, r253_5, r253_6, r253_9, r253_10, r253_11, r253_14, r253_15, r253_18, r253_19, r253_22, r253_23, r253_26, r253_27, r253_30, r253_31, r253_33, r253_34, r253_37, r253_40, r253_41, r253_44, r253_45, r253_48, r253_49, r253_50, r253_51, r253_52, r253_55, r253_58, r253_61, r253_62, r253_65, r253_66, r253_69, r253_72, r253_75, r253_76, r253_77, r253_80, r253_81, r253_82, r253_85, r253_88, ↓if_pos, ↓if_neg, h1, h2]
      rw [this, c1]
      clear ih c1
      simp (disch := omega) only [r253_0, r253_1, r253_4, r253_5, r253_6, r253_9, r253_10, r253_11, r253_15, r253_18, r253_19, r253_22, r253_23, r253_26, r253_27, r253_30, r253_31, r253_32, r253_33, r253_34, r253_37, r253_40, r253_41, r253_44, r253_45, r253_48, r253_49, r253_50, r253_51, r253_52, r253_55, r253_58, r253_61, r253_62, r253_65, r253_66, r253_69, r253_72, r253_75, r253_76, r253_77, r253_80, r253_81, r253_82, r253_85, r253_88, ↓if_pos, ↓if_neg, k3, iadd_eq]
    rw [mrr, hst]
    have e37 : (mset J1 70 38 (t + 1)) 70 37 = (mww r g t 3 0 c).2 := by rw [mset_at, if_neg (by omega)]; exact k2
    have e38 : (mset J1 70 38 (t + 1)) 70 38 = t + 1 := by rw [mset_at, if_pos ⟨rfl, rfl⟩]
    by_cases hl : (mww r g t 3 0 c).2 = -1
    · rw [if_pos hl]
      obtain ⟨K, c2, m1, m2, m3, f2⟩ := ih (t + 1) _ (mset J1 70 38 (t + 1)) (vI w') (by omega) (by omega) (fw.RG hR) (set70_MS _ s1) k1 (fw.Rr hr) (e37.trans hl) e38
      exact ⟨K, c2, m1, m2, m3, fw.trans f2⟩
    · rw [if_neg hl]
      refine ⟨mset J1 70 38 (t + 1), ?_, set70_MS _ s1, e37, e38, fw⟩
      clear ih
      by_cases htn : t + 1 < n
      · simp (disch := omega) only [r253_0, r253_1, r253_4, r253_5, r253_6, r253_9, r253_10, r253_11, r253_14, r253_15, r253_18, r253_19, r253_22, r253_23, r253_26, r253_27, r253_30, r253_31, r253_32, r253_33, r253_34, r253_37, r253_40, r253_41, r253_44, r253_45, r253_48, r253_49, r253_50, r253_51, r253_52, r253_55, r253_58, r253_61, r253_62, r253_65, r253_66, r253_69, r253_72, r253_75, r253_76, r253_77, r253_80, r253_81, r253_82, r253_85, r253_88, ↓if_pos, ↓if_neg, e37, e38]
      · simp (disch := omega) only [r253_0, r253_1, r253_4, r253_5, r253_6, r253_9, r253_10, r253_11, r253_14, r253_15, r253_18, r253_19, r253_22, r253_23, r253_26, r253_27, r253_30, r253_31, r253_32, r253_33, r253_34, r253_37, r253_40, r253_41, r253_44, r253_45, r253_48, r253_49, r253_50, r253_51, r253_52, r253_55, r253_58, r253_61, r253_62, r253_65, r253_66, r253_69, r253_72, r253_75, r253_76, r253_77, r253_80, r253_81, r253_82, r253_85, r253_88, ↓if_pos, ↓if_neg, e38]
theorem m_goMist (hM : MR I s) (hO : OK s) (hn : 0 ≤ n ∧ n ≤ 40) : ∃ K, call (d + 11) 253 [vR 70, vI n] I = some (none, K) ∧ MS K (gg s) (mrS s n).1 ∧ K 70 37 = (mrS s n).2.1 ∧ K 70 38 = (mrS s n).2.2 ∧ FrH I K := by
  have fn : FrH I (memN I) := fun a i q1 q2 q3 => (memN_fr I) a i (by omega) (by omega) (by omega) (by omega)
  have f0 : FrH I (mset (mset (memN I) 70 37 (-1)) 70 38 0) := (fn.trans (FrH.set _ (by omega))).trans (FrH.set _ (by omega))
  obtain ⟨K, c1, m1, m2, m3, f1⟩ := m_goR (d := d) (n := n) hO.W hO.rb hn.2 n.toNat 0 (cd s) (mset (mset (memN I) 70 37 (-1)) 70 38 0) (vR 0) (by omega) (by omega) (f0.RG hM.R) (set70_MS _ (set70_MS _ (memN_MS hO.W hM.S))) hO.V (f0.Rr hM.N.2.2.1) (by simp [mset_at]) (by simp [mset_at])
  refine ⟨K, ?_, m1, m2, m3, f0.trans f1⟩
  rw [← c1, en253]
  clear c1
  simp (disch := omega) only [r253_0, r253_1, r253_4, r253_5, r253_6, r253_9, r253_10, r253_11, r253_15, r253_18, r253_19, r253_22, r253_23, r253_26, r253_27, r253_30, r253_31, r253_32, r253_33, r253_34, r253_37, r253_40, r253_41, r253_44, r253_45, r253_48, r253_49, r253_50, r253_51, r253_52, r253_55, r253_58, r253_61, r253_62, r253_65, r253_66, r253_69, r253_72, r253_75, r253_76, r253_77, r253_80, r253_81, r253_82, r253_85, r253_88, m_takeNow, Option.bind_some, pushR_n]
theorem arR_arrv : arR g c 3 0 = arrv g c := by
  unfold arR arR arR arR arrv
  rw [show (0 : Int) + 1 = 1 by omega, show (1 : Int) + 1 = 2 by omega]
  omega
theorem m_home (hR : RG I g) (hM : MS I g c) (hg : WG g) (u1 u2 : Int) : ∀ (f : Nat) (o m : Int), 0 ≤ o → o + f = 3 → 0 ≤ m ∧ m ≤ o → ∃ o', runs (call (d + 2)) 254 41 [vR 70, vI u1, vI u2, vI m, vI o] [] I = runs (call (d + 2)) 254 80 [vR 70, vI u1, vI u2, vI (m + arR g c f o), vI o'] [] I := by
  have hn := hg.nW3
  have c1 := m_walkers (d := d + 1) hR
  intro f
  induction f with
  | zero =>
    intro o m o0 ho hm
    refine ⟨o, ?_⟩
    rw [arR, Int.add_zero]
    simp (disch := omega) only [r254_0, r254_1, r254_2, r254_3, r254_6, r254_9, r254_12, r254_13, r254_14, r254_15, r254_18, r254_21, r254_24, r254_25, r254_27, r254_30, r254_31, r254_32, r254_33, r254_36, r254_37, r254_38, r254_39, r254_41, r254_43, r254_44, r254_47, r254_50, r254_51, r254_52, r254_55, r254_57, r254_58, r254_59, r254_61, r254_64, r254_67, r254_68, r254_71, r254_72, r254_73, r254_74, r254_77, r254_81, r254_84, r254_85, r254_88, r254_91, r254_92, r254_93, r254_96, r254_97, r254_100, r254_101, r254_104, ↓if_pos, ↓if_neg, c1, Option.bind_some, pushR_s]
  | succ f ih =>
    intro o m o0 ho hm
    rw [arR]
    by_cases h : o < g.nW
    · have ew := hM.1 o o0 h
      have cg := m_goalOf (d := d) hR hg o0 h
      by_cases h2 : wAt c o = goalP g o
      · obtain ⟨o', c2⟩ := ih (o + 1) (m + 1) (by omega) (by omega) (by omega)
        refine ⟨o', ?_⟩
        rw [if_pos ⟨h, h2⟩, ← Int.add_assoc, ← c2, r254_41]
        simp (disch := omega) only [r254_0, r254_1, r254_2, r254_3, r254_6, r254_9, r254_12, r254_13, r254_14, r254_15, r254_18, r254_21, r254_24, r254_25, r254_27, r254_30, r254_31, r254_32, r254_33, r254_36, r254_37, r254_38, r254_39, r254_43, r254_44, r254_47, r254_50, r254_51, r254_52, r254_55, r254_57, r254_58, r254_59, r254_61, r254_64, r254_67, r254_68, r254_71, r254_72, r254_73, r254_74, r254_77, r254_81, r254_84, r254_85, r254_88, r254_91, r254_92, r254_93, r254_96, r254_97, r254_100, r254_101, r254_104, ↓if_pos, ↓if_neg, c1, cg, ew, iadd_eq, Option.bind_some, pushR_s]
      · obtain ⟨o', c2⟩ := ih (o + 1) m (by omega) (by omega) (by omega)
        refine ⟨o', ?_⟩
        rw [if_neg (fun z => h2 z.2), Int.zero_add, ← c2, r254_41]
        simp (disch := omega) only [r254_0, r254_1, r254_2, r254_3, r254_6, r254_9, r254_12, r254_13, r254_14, r254_15, r254_18, r254_21, r254_24, r254_25, r254_27, r254_30, r254_31, r254_32, r254_33, r254_36, r254_37, r254_38, r254_39, r254_43, r254_44, r254_47, r254_50, r254_51, r254_52, r254_55, r254_57, r254_58, r254_59, r254_61, r254_64, r254_67, r254_68, r254_71, r254_72, r254_73, r254_74, r254_77, r254_81, r254_84, r254_85, r254_88, r254_91, r254_92, r254_93, r254_96, r254_97, r254_100, r254_101, r254_104, ↓if_pos, ↓if_neg, c1, cg, ew, iadd_eq, Int.add_zero, Option.bind_some, pushR_s]
    · refine ⟨o, ?_⟩
      have hz : ∀ (f : Nat) (q : Int), g.nW ≤ q → arR g c f q = 0 := by
        intro f
        induction f with
        | zero => intro q hq; rfl
        | succ f ihf => intro q hq; rw [arR, if_neg (by omega), ihf (q + 1) (by omega)]; rfl
      rw [if_neg (fun z => h z.1), hz f (o + 1) (by omega), Int.add_zero, Int.add_zero]
      simp (disch := omega) only [r254_0, r254_1, r254_2, r254_3, r254_6, r254_9, r254_12, r254_13, r254_14, r254_15, r254_18, r254_21, r254_24, r254_25, r254_27, r254_30, r254_31, r254_32, r254_33, r254_36, r254_37, r254_38, r254_39, r254_41, r254_43, r254_44, r254_47, r254_50, r254_51, r254_52, r254_55, r254_57, r254_58, r254_59, r254_61, r254_64, r254_67, r254_68, r254_71, r254_72, r254_73, r254_74, r254_77, r254_81, r254_84, r254_85, r254_88, r254_91, r254_92, r254_93, r254_96, r254_97, r254_100, r254_101, r254_104, ↓if_pos, ↓if_neg, c1, Option.bind_some, pushR_s]
theorem MR.H (hO : OK s) (hM : MR I s) (f : FrH I J) : MR J s :=
  hM.scr hO (fun i => f _ _ (by omega) (by omega) (by omega)) (fun i => f _ _ (by omega) (by omega) (by omega)) (fun i => f _ _ (by omega) (by omega) (by omega)) (fun i => f _ _ (by omega) (by omega) (by omega)) (fun i => f _ _ (by omega) (by omega) (by omega)) (fun i => f _ _ (by omega) (by omega) (by omega)) (fun i => f _ _ (by omega) (by omega) (by omega)) (f _ _ (by omega) (by omega) (by omega)) (f _ _ (by omega) (by omega) (by omega))
theorem FrH.out (f : FrH I J) : OUT MC I J := fun a ha i => f a i (fun q => ha (by simp; omega)) (fun q => ha (by simp; omega)) (fun q => ha (by simp [q.1]))
theorem M_mist (hM : MR I s) (hO : OK s) : MA (d + 12) 254 [vI n, vI x] I (aMist s n x) (sMist s n x) := by
  unfold aMist sMist
  by_cases h : kMist n x
  · rw [if_pos h, if_pos h]
    obtain ⟨hn, hx⟩ := h
    obtain ⟨K, c1, s1, m2, m3, f1⟩ := m_goMist (d := d) hM hO hn
    obtain ⟨o', c2⟩ := m_home (d := d + 9) (f1.RG hM.R) s1 hO.W n x 3 0 0 (by omega) (by omega) (by omega)
    rw [arR_arrv, Int.zero_add] at c2
    refine ⟨K, ?_, hM.H hO f1, f1.out⟩
    have hst : call (d + 12) 254 [vR 70, vI n, vI x] I = runs (call (d + 11)) 254 41 [vR 70, vI n, vI x, vI 0, vI 0] [] K := by
      rw [en254]
      clear c2
      simp (disch := omega) only [r254_0, r254_1, r254_2, r254_3, r254_6, r254_9, r254_12, r254_13, r254_14, r254_15, r254_18, r254_21, r254_24, r254_25, r254_27, r254_30, r254_31, r254_32, r254_33, r254_36, r254_37, r254_38, r254_39, r254_43, r254_44, r254_47, r254_50, r254_51, r254_52, r254_55, r254_57, r254_58, r254_59, r254_61, r254_64, r254_67, r254_68, r254_71, r254_72, r254_73, r254_74, r254_77, r254_80, r254_81, r254_84, r254_85, r254_88, r254_91, r254_92, r254_93, r254_96, r254_97, r254_100, r254_101, r254_104, ↓if_pos, ↓if_neg, m_in, c1, Option.bind_some, pushR_s, pushR_n]
    rw [hst, c2]
    clear c2
    have hx3 : x = 0 ∨ x = 1 ∨ x = 2 := by omega
    rcases hx3 with rfl | rfl | rfl
    · simp (disch := omega) only [r254_0, r254_1, r254_2, r254_3, r254_6, r254_9, r254_12, r254_13, r254_14, r254_15, r254_18, r254_21, r254_24, r254_25, r254_27, r254_30, r254_31, r254_32, r254_33, r254_36, r254_37, r254_38, r254_39, r254_41, r254_43, r254_44, r254_47, r254_50, r254_51, r254_52, r254_55, r254_57, r254_58, r254_59, r254_61, r254_64, r254_67, r254_68, r254_71, r254_72, r254_73, r254_74, r254_77, r254_80, r254_81, r254_84, r254_85, r254_88, r254_91, r254_92, r254_93, r254_96, r254_97, r254_100, r254_101, r254_104, ↓if_pos, ↓if_neg, m2]
    · simp (disch := omega) only [r254_0, r254_1, r254_2, r254_3, r254_6, r254_9, r254_12, r254_13, r254_14, r254_15, r254_18, r254_21, r254_24, r254_25, r254_27, r254_30, r254_31, r254_32, r254_33, r254_36, r254_37, r254_38, r254_39, r254_41, r254_43, r254_44, r254_47, r254_50, r254_51, r254_52, r254_55, r254_57, r254_58, r254_59, r254_61, r254_64, r254_67, r254_68, r254_71, r254_72, r254_73, r254_74, r254_77, r254_80, r254_81, r254_84, r254_85, r254_88, r254_91, r254_92, r254_93, r254_96, r254_97, r254_100, r254_101, r254_104, ↓if_pos, ↓if_neg]
    · simp (disch := omega) only [r254_0, r254_1, r254_2, r254_3, r254_6, r254_9, r254_12, r254_13, r254_14, r254_15, r254_18, r254_21, r254_24, r254_25, r254_27, r254_30, r254_31, r254_32, r254_33, r254_36, r254_37, r254_38, r254_39, r254_41, r254_43, r254_44, r254_47, r254_50, r254_51, r254_52, r254_55, r254_57, r254_58, r254_59, r254_61, r254_64, r254_67, r254_68, r254_71, r254_72, r254_73, r254_74, r254_77, r254_80, r254_81, r254_84, r254_85, r254_88, r254_91, r254_92, r254_93, r254_96, r254_97, r254_100, r254_101, r254_104, ↓if_pos, ↓if_neg, m3]
  · rw [if_neg h, if_neg h]
    refine MA.bump hO hM (by omega) ?_
    rw [en254]
    by_cases q0 : 0 ≤ n ∧ n ≤ 40
    · simp (disch := omega) only [r254_0, r254_1, r254_2, r254_3, r254_6, r254_9, r254_12, r254_13, r254_14, r254_15, r254_18, r254_21, r254_24, r254_25, r254_27, r254_30, r254_31, r254_32, r254_33, r254_36, r254_37, r254_38, r254_39, r254_41, r254_43, r254_44, r254_47, r254_50, r254_51, r254_52, r254_55, r254_57, r254_58, r254_59, r254_61, r254_64, r254_67, r254_68, r254_71, r254_72, r254_73, r254_74, r254_77, r254_80, r254_81, r254_84, r254_85, r254_88, r254_91, r254_92, r254_93, r254_96, r254_97, r254_100, r254_101, r254_104, ↓if_pos, ↓if_neg, m_in, m_bad, Option.bind_some, pushR_s]
    · simp (disch := omega) only [r254_0, r254_1, r254_2, r254_3, r254_6, r254_9, r254_12, r254_13, r254_14, r254_15, r254_18, r254_21, r254_24, r254_25, r254_27, r254_30, r254_31, r254_32, r254_33, r254_36, r254_37, r254_38, r254_39, r254_41, r254_43, r254_44, r254_47, r254_50, r254_51, r254_52, r254_55, r254_57, r254_58, r254_59, r254_61, r254_64, r254_67, r254_68, r254_71, r254_72, r254_73, r254_74, r254_77, r254_80, r254_81, r254_84, r254_85, r254_88, r254_91, r254_92, r254_93, r254_96, r254_97, r254_100, r254_101, r254_104, ↓if_pos, ↓if_neg, m_in, m_bad, Option.bind_some, pushR_s]
end
