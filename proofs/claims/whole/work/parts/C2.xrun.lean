/-! In mist: the class, round by round. -/
section
variable {d e : Nat} {I J K : MM} {r : Int → Int} {g : G} {c w k t v b p n : Int} {s : ST}
theorem FrS.toG (f : FrS I J) : FrG I J := fun a i h1 h2 h3 h4 => f a i h1 h2 h3 (by omega)
theorem FrS.trans (f : FrS I J) (f' : FrS J K) : FrS I K := fun a i h1 h2 h3 h4 => (f' a i h1 h2 h3 h4).trans (f a i h1 h2 h3 h4)
theorem FrS.A (f : FrS I J) (hA : At 2 I g) : At 2 J g := hA.cong (fun a _ _ i => f a i (by omega) (by omega) (by omega) (by omega))
theorem FrS.D (f : FrS I J) (hD : RDn I r) : RDn J r := hD.cong (f _ _ (by omega) (by omega) (by omega) (by omega)) (f _ _ (by omega) (by omega) (by omega) (by omega)) (fun i => f _ _ (by omega) (by omega) (by omega) (by omega))
theorem mgo_vc (hg : WG g) (hV : VC g c) (h : mgo r g t w c ≠ -1) : VC g (mgo r g t w c) := by
  unfold mgo at *
  split
  · exact hV
  · rename_i h0
    rw [if_neg h0] at h
    split
    · exact hV
    · rename_i h1
      rw [if_neg h1] at h
      split
      · rename_i h2; exact vc_outc hg hV h2
      · rename_i h2
        rw [if_neg h2] at h
        split
        · rename_i h3
          rw [if_pos h3] at h; exact absurd rfl h
        · exact hV
theorem mww_vc (hg : WG g) : ∀ (f : Nat) (w c : Int), VC g c → VC g (mww r g t f w c).1 ∧ ((mww r g t f w c).2 = -1 ∨ 0 ≤ w → -1 ≤ (mww r g t f w c).2)
  | 0, _, _, hV => ⟨hV, fun _ => by show (-1 : Int) ≤ -1; omega⟩
  | f + 1, w, c, hV => by
    rw [mww]
    split
    · split
      · exact ⟨hV, fun h => by
          rcases h with h | h
          · have h' : w = -1 := h
            show -1 ≤ w; omega
          · show -1 ≤ w; omega⟩
      · rename_i h
        obtain ⟨h1, h2⟩ := mww_vc hg f (w + 1) _ (mgo_vc hg hV h)
        exact ⟨h1, fun z => h2 (z.imp id (fun y => by omega))⟩
    · exact ⟨hV, fun _ => by show (-1 : Int) ≤ -1; omega⟩
theorem x_runW (hg : WG g) (hp : (pR r).2.1 = -1) (hL : (pR r).2.2.length ≤ 40) : ∀ (f : Nat) (w c : Int) (J : MM), 0 ≤ w → w + f = 3 → At 2 J g → VC g c → J 34 1 = c → J 34 2 = -1 → RDn J r → ∃ K w', runs (call (e + 6)) 52 53 [vR 34, vR 2, vR 21, vI n, vI 0, vI t, vI w] [] J = runs (call (e + 6)) 52 91 [vR 34, vR 2, vR 21, vI n, vI 0, vI t, vI w'] [] K ∧ FrS J K ∧ K 34 1 = (mww r g t f w c).1 ∧ K 34 2 = (mww r g t f w c).2 ∧ VC g (mww r g t f w c).1 := by
  have hn := hg.nW3
  intro f
  induction f with
  | zero =>
    intro w c J w0 hw hA hV h1 h2 hD
    have e2 : J 2 2 = g.nW := hA 0 2 (by omega) (by simp [rng])
    refine ⟨J, w, ?_, fun _ _ _ _ _ _ => rfl, h1, h2, hV⟩
    clear hD
    simp (disch := omega) only [r52_0, r52_1, r52_2, r52_5, r52_8, r52_9, r52_10, r52_13, r52_14, r52_15, r52_18, r52_19, r52_22, r52_23, r52_26, r52_27, r52_30, r52_31, r52_33, r52_34, r52_36, r52_38, r52_39, r52_42, r52_43, r52_46, r52_47, r52_50, r52_51, r52_53, r52_55, r52_56, r52_59, r52_62, r52_63, r52_66, r52_67, r52_70, r52_72, r52_75, r52_76, r52_77, r52_78, r52_80, r52_82, r52_85, r52_88, r52_92, r52_93, r52_96, r52_97, r52_98, r52_101, r52_104, r52_107, ↓if_pos, ↓if_neg, e2]
  | succ f ih =>
    intro w c J w0 hw hA hV h1 h2 hD
    have e2 : J 2 2 = g.nW := hA 0 2 (by omega) (by simp [rng])
    rw [mww]
    by_cases hwn : w < g.nW
    · rw [if_pos hwn]
      obtain ⟨J1, c1, f1, k1, k2⟩ := x_step1 (d := e) (t := t) hA hg hV.c h1 ⟨w0, hwn⟩ hD hp hL
      by_cases hl : mgo r g t w c = -1
      · rw [if_pos hl] at k1 k2 ⊢
        have e2' : J1 2 2 = g.nW := (f1 2 2 (by omega) (by omega) (by omega) (by omega)).trans e2
        refine ⟨J1, w + 1, ?_, f1, k1, k2, hV⟩
        clear hD ih
        by_cases hw1 : w + 1 < g.nW
        · simp (disch := omega) only [r52_0, r52_1, r52_2, r52_5, r52_8, r52_9, r52_10, r52_13, r52_14, r52_15, r52_18, r52_19, r52_22, r52_23, r52_26, r52_27, r52_30, r52_31, r52_33, r52_34, r52_36, r52_38, r52_39, r52_42, r52_43, r52_46, r52_47, r52_50, r52_51, r52_53, r52_55, r52_56, r52_59, r52_62, r52_63, r52_66, r52_67, r52_70, r52_72, r52_75, r52_76, r52_77, r52_78, r52_80, r52_82, r52_85, r52_88, r52_92, r52_93, r52_96, r52_97, r52_98, r52_101, r52_104, r52_107, ↓if_pos, ↓if_neg, e2, e2', h2, k2, c1, iadd_eq, Option.bind_some, pushR_n]
        · simp (disch := omega) only [r52_0, r52_1, r52_2, r52_5, r52_8, r52_9, r52_10, r52_13, r52_14, r52_15, r52_18, r52_19, r52_22, r52_23, r52_26, r52_27, r52_30, r52_31, r52_33, r52_34, r52_36, r52_38, r52_39, r52_42, r52_43, r52_46, r52_47, r52_50, r52_51, r52_53, r52_55, r52_56, r52_59, r52_62, r52_63, r52_66, r52_67, r52_70, r52_72, r52_75, r52_76, r52_77, r52_78, r52_80, r52_82, r52_85, r52_88, r52_92, r52_93, r52_96, r52_97, r52_98, r52_101, r52_104, r52_107, ↓if_pos, ↓if_neg, e2, e2', h2, k2, c1, iadd_eq, Option.bind_some, pushR_n]
      · rw [if_neg hl] at k1 k2 ⊢
        obtain ⟨K, w', c2, f2, m1, m2, m3⟩ := ih (w + 1) _ J1 (by omega) (by omega) (f1.A hA) (mgo_vc hg hV hl) k1 (k2.trans h2) (f1.D hD)
        refine ⟨K, w', ?_, f1.trans f2, m1, m2, m3⟩
        rw [← c2, r52_53]
        clear hD ih c2
        simp (disch := omega) only [r52_0, r52_1, r52_2, r52_5, r52_8, r52_9, r52_10, r52_13, r52_14, r52_15, r52_18, r52_19, r52_22, r52_23, r52_26, r52_27, r52_30, r52_31, r52_33, r52_34, r52_36, r52_38, r52_39, r52_42, r52_43, r52_46, r52_47, r52_50, r52_51, r52_55, r52_56, r52_59, r52_62, r52_63, r52_66, r52_67, r52_70, r52_72, r52_75, r52_76, r52_77, r52_78, r52_80, r52_82, r52_85, r52_88, r52_91, r52_92, r52_93, r52_96, r52_97, r52_98, r52_101, r52_104, r52_107, ↓if_pos, ↓if_neg, e2, h2, c1, iadd_eq, Option.bind_some, pushR_n]
    · rw [if_neg hwn]
      refine ⟨J, w, ?_, fun _ _ _ _ _ _ => rfl, h1, h2, hV⟩
      clear hD ih
      simp (disch := omega) only [r52_0, r52_1, r52_2, r52_5, r52_8, r52_9, r52_10, r52_13, r52_14, r52_15, r52_18, r52_19, r52_22, r52_23, r52_26, r52_27, r52_30, r52_31, r52_33, r52_34, r52_36, r52_38, r52_39, r52_42, r52_43, r52_46, r52_47, r52_50, r52_51, r52_53, r52_55, r52_56, r52_59, r52_62, r52_63, r52_66, r52_67, r52_70, r52_72, r52_75, r52_76, r52_77, r52_78, r52_80, r52_82, r52_85, r52_88, r52_92, r52_93, r52_96, r52_97, r52_98, r52_101, r52_104, r52_107, ↓if_pos, ↓if_neg, e2]
theorem x_runR (hg : WG g) (hp : (pR r).2.1 = -1) (hL : (pR r).2.2.length ≤ 40) (hn40 : n ≤ 40) : ∀ (f : Nat) (t c : Int) (J : MM) (v6 : AV), 0 ≤ t → t + f = n → At 2 J g → VC g c → J 34 1 = c → J 34 2 = -1 → J 34 3 = t → RDn J r → ∃ K, runs (call (e + 6)) 52 36 [vR 34, vR 2, vR 21, vI n, vI 0, vI t, v6] [] J = some (none, K) ∧ FrG J K ∧ K 34 1 = (mrr r g f t c).1 ∧ K 34 2 = (mrr r g f t c).2.1 ∧ K 34 3 = (mrr r g f t c).2.2 := by
  intro f
  induction f with
  | zero =>
    intro t c J v6 t0 ht hA hV h1 h2 h3 hD
    refine ⟨J, ?_, FrG.refl, h1, h2, h3⟩
    clear hD
    simp (disch := omega) only [r52_0, r52_1, r52_2, r52_5, r52_8, r52_9, r52_10, r52_13, r52_14, r52_15, r52_18, r52_19, r52_22, r52_23, r52_26, r52_27, r52_30, r52_31, r52_33, r52_34, r52_36, r52_38, r52_39, r52_42, r52_43, r52_46, r52_47, r52_50, r52_51, r52_53, r52_55, r52_56, r52_59, r52_62, r52_63, r52_66, r52_67, r52_70, r52_72, r52_75, r52_76, r52_77, r52_78, r52_80, r52_82, r52_85, r52_88, r52_91, r52_92, r52_93, r52_96, r52_97, r52_98, r52_101, r52_104, r52_107, ↓if_pos, ↓if_neg]
  | succ f ih =>
    intro t c J v6 t0 ht hA hV h1 h2 h3 hD
    obtain ⟨J1, w', c1, f1, k1, k2, k3⟩ := x_runW (e := e) (t := t) (n := n) hg hp hL 3 0 c J (by omega) (by omega) hA hV h1 h2 hD
    have h3' : J1 34 3 = t := (f1 34 3 (by omega) (by omega) (by omega) (by omega)).trans h3
    have hst : runs (call (e + 6)) 52 36 [vR 34, vR 2, vR 21, vI n, vI 0, vI t, v6] [] J = runs (call (e + 6)) 52 36 [vR 34, vR 2, vR 21, vI n, vI 0, vI (t + 1), vI w'] [] (mset J1 34 3 (t + 1)) := by
      have : runs (call (e + 6)) 52 36 [vR 34, vR 2, vR 21, vI n, vI 0, vI t, v6] [] J = runs (call (e + 6)) 52 53 [vR 34, vR 2, vR 21, vI n, vI 0, vI t, vI 0] [] J := by
        clear hD ih c1
        simp (disch := omega) only [r52_0, r52_1, r52_2, r52_5, r52_8, r52_9, r52_10, r52_13, r52_14, r52_15, r52_18, r52_19, r52_22, r52_23, r52_26, r52_27, r52_30, r52_31, r52_33, r52_34, r52_36, r52_38, r52_39, r52_42, r52_43, r52_46, r52_47, r52_50, r52_51, r52_55, r52_56, r52_59, r52_62, r52_63, r52_66, r52_67, r52_70, r52_72, r52_75, r52_76, r52_77, r52_78, r52_80, r52_82, r52_85, r52_88, r52_91, r52_92, r52_93, r52_96, r52_97, r52_98, r52_101, r52_104, r52_107, ↓if_pos, ↓if_neg, h2]
      rw [this, c1]
      clear hD ih c1
      simp (disch := omega) only [r52_0, r52_1, r52_2, r52_5, r52_8, r52_9, r52_10, r52_13, r52_14, r52_15, r52_18, r52_19, r52_22, r52_23, r52_26, r52_27, r52_30, r52_31, r52_33, r52_34, r52_38, r52_39, r52_42, r52_43, r52_46, r52_47, r52_50, r52_51, r52_53, r52_55, r52_56, r52_59, r52_62, r52_63, r52_66, r52_67, r52_70, r52_72, r52_75, r52_76, r52_77, r52_78, r52_80, r52_82, r52_85, r52_88, r52_91, r52_92, r52_93, r52_96, r52_97, r52_98, r52_101, r52_104, r52_107, ↓if_pos, ↓if_neg, h3', iadd_eq]
    have fN : FrG J1 (mset J1 34 3 (t + 1)) := FrG.set _ (by omega)
    rw [mrr, hst]
    by_cases hl : (mww r g t 3 0 c).2 = -1
    · rw [if_pos hl]
      obtain ⟨K, c2, f2, m1, m2, m3⟩ := ih (t + 1) _ (mset J1 34 3 (t + 1)) (vI w') (by omega) (by omega) ((f1.A hA).cong (fun a _ _ i => by rw [mset_at, if_neg (by omega)])) k3 (by rw [mset_at, if_neg (by omega)]; exact k1) (by rw [mset_at, if_neg (by omega)]; exact k2.trans hl) (by rw [mset_at, if_pos ⟨rfl, rfl⟩]) ((f1.D hD).cong (by rw [mset_at, if_neg (by omega)]) (by rw [mset_at, if_neg (by omega)]) (fun i => by rw [mset_at, if_neg (by omega)]))
      exact ⟨K, c2, (f1.toG.trans fN).trans f2, m1, m2, m3⟩
    · rw [if_neg hl]
      have e2 : (mset J1 34 3 (t + 1)) 34 2 = (mww r g t 3 0 c).2 := by rw [mset_at, if_neg (by omega)]; exact k2
      refine ⟨mset J1 34 3 (t + 1), ?_, f1.toG.trans fN, by rw [mset_at, if_neg (by omega)]; exact k1, e2, by rw [mset_at, if_pos ⟨rfl, rfl⟩]⟩
      clear hD ih
      by_cases htn : t + 1 < n
      · simp (disch := omega) only [r52_0, r52_1, r52_2, r52_5, r52_8, r52_9, r52_10, r52_13, r52_14, r52_15, r52_18, r52_19, r52_22, r52_23, r52_26, r52_27, r52_30, r52_31, r52_33, r52_34, r52_36, r52_38, r52_39, r52_42, r52_43, r52_46, r52_47, r52_50, r52_51, r52_53, r52_55, r52_56, r52_59, r52_62, r52_63, r52_66, r52_67, r52_70, r52_72, r52_75, r52_76, r52_77, r52_78, r52_80, r52_82, r52_85, r52_88, r52_91, r52_92, r52_93, r52_96, r52_97, r52_98, r52_101, r52_104, r52_107, ↓if_pos, ↓if_neg, e2]
      · simp (disch := omega) only [r52_0, r52_1, r52_2, r52_5, r52_8, r52_9, r52_10, r52_13, r52_14, r52_15, r52_18, r52_19, r52_22, r52_23, r52_26, r52_27, r52_30, r52_31, r52_33, r52_34, r52_36, r52_38, r52_39, r52_42, r52_43, r52_46, r52_47, r52_50, r52_51, r52_53, r52_55, r52_56, r52_59, r52_62, r52_63, r52_66, r52_67, r52_70, r52_72, r52_75, r52_76, r52_77, r52_78, r52_80, r52_82, r52_85, r52_88, r52_91, r52_92, r52_93, r52_96, r52_97, r52_98, r52_101, r52_104, r52_107, ↓if_pos, ↓if_neg]
/-- a fault: all stay -/
theorem x_runS (hA : At 2 I g) (hg : WG g) (hn40 : n ≤ 40) : ∀ (f : Nat) (t : Int) (J : MM) (v6 : AV), 0 ≤ t → t + f = n → (∀ a i, ¬ (a = 34 ∧ i = 3) → J a i = I a i) → J 34 2 = -1 → J 34 3 = t → ∃ K, runs (call e) 52 36 [vR 34, vR 2, vR 21, vI n, vI 1, vI t, v6] [] J = some (none, K) ∧ (∀ a i, ¬ (a = 34 ∧ i = 3) → K a i = I a i) ∧ K 34 3 = n := by
  have hn := hg.nW3
  intro f
  induction f with
  | zero =>
    intro t J v6 t0 ht hf h2 h3
    refine ⟨J, ?_, hf, by omega⟩
    simp (disch := omega) only [r52_0, r52_1, r52_2, r52_5, r52_8, r52_9, r52_10, r52_13, r52_14, r52_15, r52_18, r52_19, r52_22, r52_23, r52_26, r52_27, r52_30, r52_31, r52_33, r52_34, r52_36, r52_38, r52_39, r52_42, r52_43, r52_46, r52_47, r52_50, r52_51, r52_53, r52_55, r52_56, r52_59, r52_62, r52_63, r52_66, r52_67, r52_70, r52_72, r52_75, r52_76, r52_77, r52_78, r52_80, r52_82, r52_85, r52_88, r52_91, r52_92, r52_93, r52_96, r52_97, r52_98, r52_101, r52_104, r52_107, ↓if_pos, ↓if_neg]
  | succ f ih =>
    intro t J v6 t0 ht hf h2 h3
    have e2 : J 2 2 = g.nW := (hf 2 2 (by omega)).trans (hA 0 2 (by omega) (by simp [rng]))
    obtain ⟨K, c2, f2, k3⟩ := ih (t + 1) (mset J 34 3 (t + 1)) (vI 0) (by omega) (by omega) (fun a i h => by rw [mset_at, if_neg (by omega)]; exact hf a i h) (by rw [mset_at, if_neg (by omega)]; exact h2) (by rw [mset_at, if_pos ⟨rfl, rfl⟩])
    refine ⟨K, ?_, f2, k3⟩
    rw [← c2, r52_36]
    clear ih c2
    by_cases hw0 : 0 < g.nW
    · simp (disch := omega) only [r52_0, r52_1, r52_2, r52_5, r52_8, r52_9, r52_10, r52_13, r52_14, r52_15, r52_18, r52_19, r52_22, r52_23, r52_26, r52_27, r52_30, r52_31, r52_33, r52_34, r52_38, r52_39, r52_42, r52_43, r52_46, r52_47, r52_50, r52_51, r52_53, r52_55, r52_56, r52_59, r52_62, r52_63, r52_66, r52_67, r52_70, r52_72, r52_75, r52_76, r52_77, r52_78, r52_80, r52_82, r52_85, r52_88, r52_91, r52_92, r52_93, r52_96, r52_97, r52_98, r52_101, r52_104, r52_107, ↓if_pos, ↓if_neg, e2, h2, h3, iadd_eq]
    · simp (disch := omega) only [r52_0, r52_1, r52_2, r52_5, r52_8, r52_9, r52_10, r52_13, r52_14, r52_15, r52_18, r52_19, r52_22, r52_23, r52_26, r52_27, r52_30, r52_31, r52_33, r52_34, r52_38, r52_39, r52_42, r52_43, r52_46, r52_47, r52_50, r52_51, r52_53, r52_55, r52_56, r52_59, r52_62, r52_63, r52_66, r52_67, r52_70, r52_72, r52_75, r52_76, r52_77, r52_78, r52_80, r52_82, r52_85, r52_88, r52_91, r52_92, r52_93, r52_96, r52_97, r52_98, r52_101, r52_104, r52_107, ↓if_pos, ↓if_neg, e2, h2, h3, iadd_eq]
theorem mgo_fault (h : (pR r).2.1 ≠ -1) : mgo r g t w c = c := by
  have hv : rval r g c w t = 0 := by unfold rval; rw [if_neg h]
  have hc : ch4 0 = 0 := by decide
  unfold mgo
  rw [hv, hc]
  have : aof g c w 0 = -1 := by unfold aof; rw [if_neg (by omega), if_neg (by omega), if_neg (by omega)]
  rw [if_pos this]
  split <;> rfl
theorem mww_fault (h : (pR r).2.1 ≠ -1) (hc : c ≠ -1) : ∀ (f : Nat) (w : Int), mww r g t f w c = (c, -1)
  | 0, _ => rfl
  | f + 1, w => by
    rw [mww, mgo_fault h, if_neg hc]
    split
    · exact mww_fault h hc f (w + 1)
    · rfl
theorem mrr_fault (h : (pR r).2.1 ≠ -1) (hc : c ≠ -1) : ∀ (f : Nat) (t : Int), mrr r g f t c = (c, -1, t + f)
  | 0, t => by rw [mrr]; simp
  | f + 1, t => by
    rw [mrr, mww_fault h hc, if_pos rfl, mrr_fault h hc f (t + 1)]
    have : t + 1 + (f : Int) = t + ((f + 1 : Nat) : Int) := by omega
    rw [this]
theorem x_run (hA : At 2 I g) (hg : WG g) (hV : VC g c) (h4 : I 2 4 = c) (h : RB r) (hR : RX 21 I r) (hC : RCh I r) (hn : 0 ≤ n ∧ n ≤ 40) : ∃ K, call (d + 68) 52 [vR 34, vR 2, vR 21, vI n] I = some (none, K) ∧ K 34 1 = (mrr r g n.toNat 0 c).1 ∧ K 34 2 = (mrr r g n.toNat 0 c).2.1 ∧ K 34 3 = (mrr r g n.toNat 0 c).2.2 ∧ (∀ a i, a ≠ 21 → a ≠ 23 → a ≠ 24 → a ≠ 34 → a ≠ 35 → K a i = I a i) ∧ FrF I (fun a i => if a = 34 ∨ a = 35 then I a i else K a i) ∧ RCh K r := by
  have f0 : ∀ a i, a ≠ 34 → (mset (mset (mset I 34 1 c) 34 2 (-1)) 34 3 0) a i = I a i := fun a i q => by rw [mset_at, if_neg (by omega), mset_at, if_neg (by omega), mset_at, if_neg (by omega)]
  have hR0 : RX 21 (mset (mset (mset I 34 1 c) 34 2 (-1)) 34 3 0) r := hR.cong (f0 _ _ (by omega)) (fun i => f0 _ _ (by omega))
  have hC0 : RCh (mset (mset (mset I 34 1 c) 34 2 (-1)) 34 3 0) r := by
    rcases hC with q | ⟨q1, q2⟩
    · exact Or.inl ((f0 _ _ (by omega)).trans q)
    · exact Or.inr ⟨(f0 _ _ (by omega)).trans q1, q2.cong (f0 _ _ (by omega)) (f0 _ _ (by omega)) (fun i => f0 _ _ (by omega))⟩
  obtain ⟨J, c1, hRJ, e6, hDJ, f1⟩ := x_faultCode (d := d) h hR0 hC0
  have g1 : (mset (mset (mset I 34 1 c) 34 2 (-1)) 34 3 0) 34 1 = c := by simp [mset_at]
  have g2 : (mset (mset (mset I 34 1 c) 34 2 (-1)) 34 3 0) 34 2 = -1 := by simp [mset_at]
  have g3 : (mset (mset (mset I 34 1 c) 34 2 (-1)) 34 3 0) 34 3 = 0 := by simp [mset_at]
  have j1 : J 34 1 = c := (f1 _ _ (by omega) (by omega) (by omega)).trans g1
  have j2 : J 34 2 = -1 := (f1 _ _ (by omega) (by omega) (by omega)).trans g2
  have j3 : J 34 3 = 0 := (f1 _ _ (by omega) (by omega) (by omega)).trans g3
  have hAJ : At 2 J g := hA.cong (fun a _ _ i => (f1 _ _ (by omega) (by omega) (by omega)).trans (f0 _ _ (by omega)))
  have hLb : (pR r).2.2.length ≤ 40 := (s_all (L := fun _ => 0) h).2.2.2.2
  have fJ : ∀ a i, a ≠ 21 → a ≠ 23 → a ≠ 24 → a ≠ 34 → J a i = I a i := fun a i q1 q2 q3 q4 => (f1 a i q2 q3 (by omega)).trans (f0 a i q4)
  by_cases hp : (pR r).2.1 = -1
  · rw [hp] at c1
    obtain ⟨K, c2, f2, m1, m2, m3⟩ := x_runR (e := d + 61) (n := n) hg hp hLb hn.2 n.toNat 0 c J (vR 0) (by omega) (by omega) hAJ hV j1 j2 j3 hDJ
    refine ⟨K, ?_, m1, m2, m3, fun a i q1 q2 q3 q4 q5 => (f2 a i q3 q5 (by omega) (by omega)).trans (fJ a i q1 q2 q3 q4), fun a i q2 q3 q1 => ?_, Or.inr ⟨(f2 21 6 (by omega) (by omega) (by omega) (by omega)).trans e6, hDJ.cong (f2 _ _ (by omega) (by omega) (by omega) (by omega)) (f2 _ _ (by omega) (by omega) (by omega) (by omega)) (fun i => f2 _ _ (by omega) (by omega) (by omega) (by omega))⟩⟩
    · rw [← c2, en52]
      clear c2 hDJ hC0
      simp (disch := omega) only [r52_0, r52_1, r52_2, r52_5, r52_8, r52_9, r52_10, r52_13, r52_14, r52_15, r52_18, r52_19, r52_22, r52_23, r52_26, r52_27, r52_30, r52_31, r52_33, r52_34, r52_38, r52_39, r52_42, r52_43, r52_46, r52_47, r52_50, r52_51, r52_53, r52_55, r52_56, r52_59, r52_62, r52_63, r52_66, r52_67, r52_70, r52_72, r52_75, r52_76, r52_77, r52_78, r52_80, r52_82, r52_85, r52_88, r52_91, r52_92, r52_93, r52_96, r52_97, r52_98, r52_101, r52_104, r52_107, ↓if_pos, ↓if_neg, h4, c1, Option.bind_some, pushR_s]
    · show (if a = 34 ∨ a = 35 then I a i else K a i) = I a i
      split
      · rfl
      · exact (f2 a i q3 (by omega) (by omega) (by omega)).trans ((f1 a i q2 q3 q1).trans (f0 a i (by omega)))
  · obtain ⟨K, c2, f2, m3⟩ := x_runS (e := d + 67) (n := n) hAJ hg hn.2 n.toNat 0 J (vR 0) (by omega) (by omega) (fun _ _ _ => rfl) j2 j3
    rw [mrr_fault hp (by have := hV.c; omega)]
    refine ⟨K, ?_, (f2 34 1 (by omega)).trans j1, (f2 34 2 (by omega)).trans j2, by rw [m3]; show n = 0 + ((n.toNat : Nat) : Int); omega, fun a i q1 q2 q3 q4 q5 => (f2 a i (by omega)).trans (fJ a i q1 q2 q3 q4), fun a i q2 q3 q1 => ?_, Or.inr ⟨(f2 21 6 (by omega)).trans e6, hDJ.cong (f2 _ _ (by omega)) (f2 _ _ (by omega)) (fun i => f2 _ _ (by omega))⟩⟩
    · rw [← c2, en52]
      clear c2 hDJ hC0
      simp (disch := omega) only [r52_0, r52_1, r52_2, r52_5, r52_8, r52_9, r52_10, r52_13, r52_14, r52_15, r52_18, r52_19, r52_22, r52_23, r52_26, r52_27, r52_30, r52_31, r52_33, r52_34, r52_38, r52_39, r52_42, r52_43, r52_46, r52_47, r52_50, r52_51, r52_53, r52_55, r52_56, r52_59, r52_62, r52_63, r52_66, r52_67, r52_70, r52_72, r52_75, r52_76, r52_77, r52_78, r52_80, r52_82, r52_85, r52_88, r52_91, r52_92, r52_93, r52_96, r52_97, r52_98, r52_101, r52_104, r52_107, ↓if_pos, ↓if_neg, h4, c1, Option.bind_some, pushR_s]
    · show (if a = 34 ∨ a = 35 then I a i else K a i) = I a i
      split
      · rfl
      · exact (f2 a i (by omega)).trans ((f1 a i q2 q3 q1).trans (f0 a i (by omega)))
end
