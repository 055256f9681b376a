/-! row of the model, to its end. -/
def NG (J K : MM) : Prop := MF J K ∧ (∀ i, K 81 i = J 81 i) ∧ (∀ i, K 82 i = J 82 i) ∧ K 70 18 = J 70 18
theorem NG.refl (J : MM) : NG J J := ⟨MF.refl J, fun _ => rfl, fun _ => rfl, rfl⟩
theorem NG.trans {I J K : MM} (h1 : NG I J) (h2 : NG J K) : NG I K := ⟨h1.1.trans h2.1, fun i => (h2.2.1 i).trans (h1.2.1 i), fun i => (h2.2.2.1 i).trans (h1.2.2.1 i), h2.2.2.2.trans h1.2.2.2⟩
theorem NF.ng {t : Int} {J K : MM} (h : NF t J K) : NG J K := ⟨h.1, h.2.1, h.2.2.1, h.2.2.2.1⟩
theorem NG.mq {J K : MM} {g : G} {Q : List QE} (h : NG J K) (hM : MQu J g Q) : MQu K g Q := hM.cong h.2.2.2 h.2.2.1 h.2.1
section
variable {d : Nat} {I J K : MM} {s : ST} {g : G} {a c w x y b v i m f : Int} {Q : List QE} {p : Nat}
theorem fg_loop {n0 : Nat} {B : Int} (hg : WG g) (hI : QI g Q) (hD : DQ Q) (hH : HQ g Q n0 B) (hm : 0 ≤ m ∧ m ≤ 131072) : ∀ (r : Nat) (v3 v4 : AV) (J : MM), r ≤ Q.length → RG J g → MQu J g Q → (∀ j, r ≤ j → j < Q.length → GS J g Q m j) → ∃ K, runs (call (d + 8)) 207 7 [vR 70, vI m, vI ((r : Int) - 1), v3, v4] [] J = some (none, K) ∧ NG J K ∧ (∀ j, j < Q.length → GS K g Q m j) := by
  have hlen := hI.mlen' hg
  intro r
  induction r with
  | zero =>
    intro v3 v4 J hr hR hM hG
    refine ⟨J, ?_, NG.refl J, fun j hj => hG j (by omega) hj⟩
    simp (disch := omega) only [r207_0, r207_1, r207_4, r207_5, r207_6, r207_7, r207_8, r207_11, r207_12, r207_15, r207_16, r207_17, r207_18, r207_19, r207_20, r207_23, r207_24, r207_27, r207_28, r207_29, r207_32, r207_33, r207_34, r207_35, r207_38, r207_39, r207_42, r207_45, r207_46, r207_49, r207_50, r207_51, r207_52, r207_53, r207_56, r207_58, r207_60, r207_63, r207_66, r207_67, r207_70, r207_71, r207_72, r207_73, r207_76, r207_77, r207_80, r207_81, r207_82, r207_85, r207_86, r207_89, r207_90, r207_91, r207_92, r207_94, r207_97, r207_98, r207_99, r207_101, r207_104, r207_106, r207_109, r207_112, r207_115, ↓if_pos, ↓if_neg]
  | succ k ih =>
    intro v3 v4 J hr hR hM hG
    have hk : k < Q.length := by omega
    have hVk := hI.1 k hk
    have hmk := mst_b hg hVk
    have hdk := hD k hk
    obtain ⟨e82, e81⟩ := hM.2.1 k hk
    have ek : ((k + 1 : Nat) : Int) - 1 = k := by push_cast; omega
    rw [ek]
    have f1 := (memTS_fr J (mst (qc Q k))).to8
    have hR1 := f1.mf.RG hR
    have hov := m_isOveri (d := d + 5) hR1 (memTS_MS hg hVk) hg
    have e81' : memTS J (mst (qc Q k)) 81 (mst (qc Q k)) = qd Q k := by rw [f1.oth (by omega)]; exact e81
    -- the first mark
    obtain ⟨v0, hv01, hv0, hrun⟩ : ∃ v0 : Int, (v0 = 0 ∨ v0 = 1) ∧ (v0 ≠ 0 ↔ qd Q k = m ∧ overs g (qc Q k)) ∧ runs (call (d + 8)) 207 7 [vR 70, vI m, vI k, v3, v4] [] J = runs (call (d + 8)) 207 51 [vR 70, vI m, vI k, vI (mst (qc Q k)), v4] [] (mset (memTS J (mst (qc Q k))) 83 (mst (qc Q k)) v0) := by
      by_cases hq : qd Q k = m
      · rcases ovi_c g (qc Q k) with hv | hv
        · have ho : overs g (qc Q k) := by unfold ovi at hv; split at hv; assumption; omega
          refine ⟨1, Or.inr rfl, ⟨fun _ => ⟨hq, ho⟩, fun _ => by omega⟩, ?_⟩
          clear ho hG
          simp (disch := omega) only [r207_0, r207_1, r207_4, r207_5, r207_6, r207_7, r207_8, r207_11, r207_12, r207_15, r207_16, r207_17, r207_18, r207_19, r207_20, r207_23, r207_24, r207_27, r207_28, r207_29, r207_32, r207_33, r207_34, r207_35, r207_38, r207_39, r207_42, r207_45, r207_46, r207_49, r207_50, r207_52, r207_53, r207_56, r207_58, r207_60, r207_63, r207_66, r207_67, r207_70, r207_71, r207_72, r207_73, r207_76, r207_77, r207_80, r207_81, r207_82, r207_85, r207_86, r207_89, r207_90, r207_91, r207_92, r207_94, r207_97, r207_98, r207_99, r207_101, r207_104, r207_106, r207_109, r207_112, r207_115, ↓if_pos, ↓if_neg, e82, m_takeState, e81', hov, hv, Option.bind_some, pushR_s, pushR_n]
        · have ho : ¬ overs g (qc Q k) := by unfold ovi at hv; split at hv; omega; assumption
          refine ⟨0, Or.inl rfl, ⟨fun z => (z rfl).elim, fun z => (ho z.2).elim⟩, ?_⟩
          clear ho hG
          simp (disch := omega) only [r207_0, r207_1, r207_4, r207_5, r207_6, r207_7, r207_8, r207_11, r207_12, r207_15, r207_16, r207_17, r207_18, r207_19, r207_20, r207_23, r207_24, r207_27, r207_28, r207_29, r207_32, r207_33, r207_34, r207_35, r207_38, r207_39, r207_42, r207_45, r207_46, r207_49, r207_50, r207_52, r207_53, r207_56, r207_58, r207_60, r207_63, r207_66, r207_67, r207_70, r207_71, r207_72, r207_73, r207_76, r207_77, r207_80, r207_81, r207_82, r207_85, r207_86, r207_89, r207_90, r207_91, r207_92, r207_94, r207_97, r207_98, r207_99, r207_101, r207_104, r207_106, r207_109, r207_112, r207_115, ↓if_pos, ↓if_neg, e82, m_takeState, e81', hov, hv, Option.bind_some, pushR_s, pushR_n]
      · refine ⟨0, Or.inl rfl, ⟨fun z => (z rfl).elim, fun z => (hq z.1).elim⟩, ?_⟩
        clear hG
        simp (disch := omega) only [r207_0, r207_1, r207_4, r207_5, r207_6, r207_7, r207_8, r207_11, r207_12, r207_15, r207_16, r207_17, r207_18, r207_19, r207_20, r207_23, r207_24, r207_27, r207_28, r207_29, r207_32, r207_33, r207_34, r207_35, r207_38, r207_39, r207_42, r207_45, r207_46, r207_49, r207_50, r207_52, r207_53, r207_56, r207_58, r207_60, r207_63, r207_66, r207_67, r207_70, r207_71, r207_72, r207_73, r207_76, r207_77, r207_80, r207_81, r207_82, r207_85, r207_86, r207_89, r207_90, r207_91, r207_92, r207_94, r207_97, r207_98, r207_99, r207_101, r207_104, r207_106, r207_109, r207_112, r207_115, ↓if_pos, ↓if_neg, e82, m_takeState, e81', Option.bind_some, pushR_s, pushR_n]
    have n1 := (f1.nf (t := mst (qc Q k))).trans (NF.mset (memTS J (mst (qc Q k))) v0)
    obtain ⟨J3, a', k1, k2, k3⟩ := m_nextAct (d := d + 4) (a := -1) hg (n1.1.RG hR) (by omega)
    have n2 : NF (mst (qc Q k)) (mset (memTS J (mst (qc Q k))) 83 (mst (qc Q k)) v0) J3 := ⟨k2.mf, fun i => k2 81 i (by omega), fun i => k2 82 i (by omega), k2 70 18 (by omega), fun i _ => k2 83 i (by omega)⟩
    have n12 := n1.trans n2
    have ev : J3 83 (mst (qc Q k)) = v0 := by rw [k2 83 _ (by omega), mset_at, if_pos ⟨rfl, rfl⟩]
    obtain ⟨K1, v, r1, r2, r3, r4⟩ := good_loop (d := d) (x2 := (k : Int)) hg hI hD hH hk hm 1024 0 a' J3 (by omega) (by omega) (by omega) k3 (n12.1.RG hR) (n12.mq hM) (fun j j0 j1 => (hG j (by omega) j1).nf hg hI hk j1 j0 n12) (by rw [ev]; exact hv01)
    have n123 := n12.trans r2
    have hGk : GS K1 g Q m k := by
      unfold GS
      rw [r4, ev, hv0]
      rcases Int.lt_trichotomy (qd Q k) m with z | z | z
      · have e1 : (m - qd Q k).toNat = (m - qd Q k - 1).toNat + 1 := by omega
        rw [e1, gd]
        constructor
        · rintro (q | ⟨-, e, q2, q3, j, q4⟩)
          · omega
          · exact ⟨by omega, e, j, q3, q4⟩
        · rintro ⟨-, e, j, q3, q4⟩
          exact Or.inr ⟨z, e, q3.1, q3, j, q4⟩
      · have e1 : (m - qd Q k).toNat = 0 := by omega
        rw [e1, gd]
        constructor
        · rintro (q | q)
          · exact ⟨by omega, q⟩
          · omega
        · rintro ⟨-, q⟩
          exact Or.inl q
      · constructor
        · rintro (q | q) <;> omega
        · rintro ⟨q, -⟩; omega
    obtain ⟨K, s1, s2, s3⟩ := ih (vI (mst (qc Q k))) (vI v) K1 (by omega) (n123.1.RG hR) (n123.mq hM) (fun j j0 j1 => by
      rcases Nat.lt_or_ge k j with z | z
      · exact (hG j (by omega) j1).nf hg hI hk j1 z n123
      · have : j = k := by omega
        subst this; exact hGk)
    refine ⟨K, ?_, n123.ng.trans s2, s3⟩
    have hpre : runs (call (d + 8)) 207 51 [vR 70, vI m, vI k, vI (mst (qc Q k)), v4] [] (mset (memTS J (mst (qc Q k))) 83 (mst (qc Q k)) v0) = runs (call (d + 8)) 207 58 [vR 70, vI m, vI k, vI (mst (qc Q k)), vI a'] [] J3 := by
      clear hG hGk hv0
      simp (disch := omega) only [r207_0, r207_1, r207_4, r207_5, r207_6, r207_7, r207_8, r207_11, r207_12, r207_15, r207_16, r207_17, r207_18, r207_19, r207_20, r207_23, r207_24, r207_27, r207_28, r207_29, r207_32, r207_33, r207_34, r207_35, r207_38, r207_39, r207_42, r207_45, r207_46, r207_49, r207_50, r207_51, r207_52, r207_53, r207_56, r207_60, r207_63, r207_66, r207_67, r207_70, r207_71, r207_72, r207_73, r207_76, r207_77, r207_80, r207_81, r207_82, r207_85, r207_86, r207_89, r207_90, r207_91, r207_92, r207_94, r207_97, r207_98, r207_99, r207_101, r207_104, r207_106, r207_109, r207_112, r207_115, k1, Option.bind_some, pushR_s]
    rw [hrun, hpre, r1, ← s1]
    have e1 : (k : Int) + -1 = (k : Int) - 1 := by omega
    clear hG hGk hv0 r4
    simp (disch := omega) only [r207_0, r207_1, r207_4, r207_5, r207_6, r207_8, r207_11, r207_12, r207_15, r207_16, r207_17, r207_18, r207_19, r207_20, r207_23, r207_24, r207_27, r207_28, r207_29, r207_32, r207_33, r207_34, r207_35, r207_38, r207_39, r207_42, r207_45, r207_46, r207_49, r207_50, r207_51, r207_52, r207_53, r207_56, r207_58, r207_60, r207_63, r207_66, r207_67, r207_70, r207_71, r207_72, r207_73, r207_76, r207_77, r207_80, r207_81, r207_82, r207_85, r207_86, r207_89, r207_90, r207_91, r207_92, r207_94, r207_97, r207_98, r207_99, r207_101, r207_104, r207_106, r207_109, r207_112, r207_115, iadd_eq, e1]
theorem clear_loop (x1 x2 : Int) (v4 v5 : AV) : ∀ (n : Nat) (k : Int) (J : MM), k + n = 73728 → 0 ≤ k → (∀ j, 0 ≤ j → j < k → J 83 j = 0) → ∃ K, runs (call d) 209 30 [vR 70, vI x1, vI x2, vI k, v4, v5] [] J = runs (call d) 209 49 [vR 70, vI x1, vI x2, vI 73728, v4, v5] [] K ∧ NG J K := by
  intro n
  induction n with
  | zero =>
    intro k J hk k0 h
    have : k = 73728 := by omega
    subst this
    refine ⟨J, ?_, NG.refl J⟩
    simp (disch := omega) only [r209_0, r209_1, r209_4, r209_5, r209_7, r209_10, r209_11, r209_12, r209_13, r209_16, r209_19, r209_20, r209_21, r209_22, r209_25, r209_27, r209_28, r209_29, r209_30, r209_31, r209_33, r209_36, r209_37, r209_40, r209_41, r209_42, r209_43, r209_46, r209_50, r209_51, r209_54, r209_55, r209_58, r209_59, r209_60, r209_61, r209_62, r209_64, r209_65, r209_67, r209_69, r209_70, r209_73, r209_74, r209_75, r209_78, r209_80, r209_81, r209_82, r209_84, r209_87, r209_90, r209_91, r209_93, r209_96, r209_98, r209_101, r209_102, r209_105, r209_106, r209_109, r209_112, r209_114, ↓if_pos, ↓if_neg]
  | succ n ih =>
    intro k J hk k0 h
    push_cast at hk
    obtain ⟨K, k1, k2⟩ := ih (k + 1) (mset J 83 k 0) (by omega) (by omega) (fun j j0 j1 => by
      rw [mset_at]; by_cases hj : j = k
      · rw [if_pos ⟨rfl, hj⟩]
      · rw [if_neg (fun q => hj q.2)]; exact h j j0 (by omega))
    refine ⟨K, Eq.trans ?_ k1, (NF.mset (t := k) J 0).ng.trans k2⟩
    rw [r209_30]
    simp (disch := omega) only [r209_0, r209_1, r209_4, r209_5, r209_7, r209_10, r209_11, r209_12, r209_13, r209_16, r209_19, r209_20, r209_21, r209_22, r209_25, r209_27, r209_28, r209_29, r209_31, r209_33, r209_36, r209_37, r209_40, r209_41, r209_42, r209_43, r209_46, r209_50, r209_51, r209_54, r209_55, r209_58, r209_59, r209_60, r209_61, r209_62, r209_64, r209_65, r209_67, r209_69, r209_70, r209_73, r209_74, r209_75, r209_78, r209_80, r209_81, r209_82, r209_84, r209_87, r209_90, r209_91, r209_93, r209_96, r209_98, r209_101, r209_102, r209_105, r209_106, r209_109, r209_112, r209_114, ↓if_pos, ↓if_neg, iadd_eq]
/-- the greedy step: the least act that leads on is the row's -/
theorem greedy_in {n : Nat} {x1 x2 x5 : Int} (hg : WG g) (hI : QI g Q) (hD : DQ Q) (hH : HQ g Q p 0) (hp : p < Q.length) (ho : overs g (qc Q p)) (hN : ∀ j, j < p → ¬ overs g (qc Q j)) (hn : (n : Int) < qd Q p) : ∀ (r : Nat) (b a : Int) (J : MM), 1024 - b ≤ r → 0 ≤ b → b ≤ qa Q (anc Q n p) → nxA g b a → RG J g → MQu J g Q → (∀ j, j < Q.length → GS J g Q (qd Q p) j) → ∃ K, runs (call (d + 9)) 209 80 [vR 70, vI x1, vI x2, vI (mst (qc Q (anc Q (n + 1) p))), vI a, vI x5] [] J = runs (call (d + 9)) 209 101 [vR 70, vI x1, vI x2, vI (mst (qc Q (anc Q (n + 1) p))), vI (qa Q (anc Q n p)), vI x5] [] K ∧ Fr8 J K ∧ MS K g (qc Q (anc Q n p)) := by
  obtain ⟨d1, d2⟩ := anc_d hH hp n (by omega)
  obtain ⟨d3, d4⟩ := anc_d hH hp (n + 1) (by push_cast; omega)
  push_cast at d4
  have hpos := anc_pos hH hp hn
  obtain ⟨⟨q1, q2, q3, q4⟩, q5, q6, q7⟩ := hH.1 (anc Q n p) hpos (by omega)
  have hanc : anc Q (n + 1) p = (qp Q (anc Q n p)).toNat := rfl
  rw [← hanc] at q6 q7
  have hju : anc Q (n + 1) p < Q.length := by omega
  have hVj := hI.1 _ hju
  have hVn := hI.1 (anc Q n p) (by omega)
  have hmj := mst_b hg hVj
  have hlen := hI.mlen' hg
  have hdj := hD _ hju
  have hdp := hD p hp
  have hlt : anc Q (n + 1) p < anc Q n p := by omega
  intro r
  induction r with
  | zero => intro b a J hr b0 hb; omega
  | succ r ih =>
    intro b a J hr b0 hb hx hR hM hG
    push_cast at hr
    have e81 := (hM.2.1 _ hju).2
    have hsa : sucha g (qa Q (anc Q n p)) := Decidable.byContradiction (fun z => by rw [outc_no z] at q6; have := hVn.c; omega)
    have ha : b ≤ a ∧ a ≤ qa Q (anc Q n p) := by
      rcases hx with ⟨h1, h2⟩ | ⟨h1, h2, h3, h4⟩
      · exact (h2 _ hb q5.2 hsa).elim
      · refine ⟨h1, ?_⟩
        rcases Int.lt_or_le (qa Q (anc Q n p)) a with z | z
        · exact (h4 _ hb z hsa).elim
        · exact z
    have hqm : qd Q (anc Q (n + 1) p) < qd Q p := by omega
    obtain ⟨J2, t1, t2, t3⟩ := m_leadsOn (d := d + 1) (a := a) hg hR hVj (by omega) (by omega)
    have hlc := lo_LC (a := a) hg hI hD hH hM hju hqm (fun j _ j1 => hG j j1) ⟨by omega, by omega⟩
    have en : (qd Q p - qd Q (anc Q (n + 1) p) - 1).toNat = n := by omega
    by_cases haa : a = qa Q (anc Q n p)
    · have hl1 : lo J g (qc Q (anc Q (n + 1) p)) a = 1 := hlc.mpr ⟨by omega, anc Q n p, by omega, by rw [haa, q6]; exact hVn.c.1, by rw [haa, q6], by omega, by rw [en]; exact row_gd hI hH hp ho n (by omega)⟩
      refine ⟨J2, ?_, t2, ?_⟩
      · rw [haa] at t1 hl1 ⊢
        clear hlc hx hG hN
        simp (disch := omega) only [r209_0, r209_1, r209_4, r209_5, r209_7, r209_10, r209_11, r209_12, r209_13, r209_16, r209_19, r209_20, r209_21, r209_22, r209_25, r209_27, r209_28, r209_29, r209_30, r209_31, r209_33, r209_36, r209_37, r209_40, r209_41, r209_42, r209_43, r209_46, r209_49, r209_50, r209_51, r209_54, r209_55, r209_58, r209_59, r209_60, r209_61, r209_62, r209_64, r209_65, r209_67, r209_69, r209_70, r209_73, r209_74, r209_75, r209_78, r209_80, r209_81, r209_82, r209_84, r209_87, r209_90, r209_91, r209_93, r209_96, r209_98, r209_102, r209_105, r209_106, r209_109, r209_112, r209_114, ↓if_pos, ↓if_neg, t1, hl1, Option.bind_some, pushR_s]
      · have := t3 (by rw [haa, q6]; exact hVn.c.1)
        rw [haa, q6] at this; exact this
    · have hl0 : lo J g (qc Q (anc Q (n + 1) p)) a = 0 := by
        rcases lo_c J g (qc Q (anc Q (n + 1) p)) a with z | z
        · exfalso
          obtain ⟨-, j, j1, j2, j3, j4, j5⟩ := hlc.mp z
          rw [en] at j5
          exact row_min hI hD hH hp hN hn ⟨by omega, by omega⟩ j1 j2 j3 (by omega) j5
        · exact z
      have hR2 := t2.mf.RG hR
      obtain ⟨J3, a', k1, k2, k3⟩ := m_nextAct (d := d + 5) (a := a) hg hR2 (by omega)
      have f23 : Fr8 J J3 := t2.trans (fun b i _ _ _ _ q => k2 b i q)
      have e81' : ∀ i, J3 81 i = J 81 i := f23.oth (by omega)
      have e83' : ∀ i, J3 83 i = J 83 i := f23.oth (by omega)
      obtain ⟨K, s1, s2, s3⟩ := ih (a + 1) a' J3 (by omega) (by omega) (by omega) k3 (f23.mf.RG hR) (hM.cong (f23 70 18 (by omega) (by omega) (by omega) (by omega) (by omega)) (f23.oth (by omega)) e81') (fun j j1 => by unfold GS; rw [e83']; exact hG j j1)
      refine ⟨K, Eq.trans ?_ s1, f23.trans s2, s3⟩
      rw [r209_80]
      clear hlc hx hG hN
      simp (disch := omega) only [r209_0, r209_1, r209_4, r209_5, r209_7, r209_10, r209_11, r209_12, r209_13, r209_16, r209_19, r209_20, r209_21, r209_22, r209_25, r209_27, r209_28, r209_29, r209_30, r209_31, r209_33, r209_36, r209_37, r209_40, r209_41, r209_42, r209_43, r209_46, r209_49, r209_50, r209_51, r209_54, r209_55, r209_58, r209_59, r209_60, r209_61, r209_62, r209_64, r209_65, r209_67, r209_69, r209_70, r209_73, r209_74, r209_75, r209_78, r209_81, r209_82, r209_84, r209_87, r209_90, r209_91, r209_93, r209_96, r209_98, r209_102, r209_105, r209_106, r209_109, r209_112, r209_114, ↓if_pos, ↓if_neg, t1, hl0, k1, Option.bind_some, pushR_s]
theorem greedy_out (hg : WG g) (hI : QI g Q) (hD : DQ Q) (hH : HQ g Q p 0) (hp : p < Q.length) (ho : overs g (qc Q p)) (hN : ∀ j, j < p → ¬ overs g (qc Q j)) (hi : 0 ≤ i ∧ i < qd Q p) : ∀ (r : Nat) (k : Int) (n : Nat) (v4 : AV) (J : MM), k + r = i + 1 → 0 ≤ k → (n : Int) + k = qd Q p → (0 < k → v4 = vI (qa Q (anc Q n p))) → RG J g → MQu J g Q → (∀ j, j < Q.length → GS J g Q (qd Q p) j) → ∀ x4, v4 = vI x4 → ∃ K, runs (call (d + 9)) 209 67 [vR 70, vI i, vI (qd Q p), vI (mst (qc Q (anc Q n p))), vI x4, vI k] [] J = some (some (vI (qa Q (anc Q (qd Q p - 1 - i).toNat p))), K) ∧ MF J K := by
  have hlen := hI.mlen' hg
  have hdp := hD p hp
  intro r
  induction r with
  | zero =>
    intro k n v4 J hk k0 hn hv hR hM hG x4 hx4
    have e1 : (qd Q p - 1 - i).toNat = n := by omega
    have hv2 := hv (by omega)
    rw [hx4] at hv2
    have hv3 : x4 = qa Q (anc Q n p) := by simpa using hv2
    refine ⟨J, ?_, MF.refl J⟩
    rw [e1, ← hv3]
    clear hG hN hv
    simp (disch := omega) only [r209_0, r209_1, r209_4, r209_5, r209_7, r209_10, r209_11, r209_12, r209_13, r209_16, r209_19, r209_20, r209_21, r209_22, r209_25, r209_27, r209_28, r209_29, r209_30, r209_31, r209_33, r209_36, r209_37, r209_40, r209_41, r209_42, r209_43, r209_46, r209_49, r209_50, r209_51, r209_54, r209_55, r209_58, r209_59, r209_60, r209_61, r209_62, r209_64, r209_65, r209_67, r209_69, r209_70, r209_73, r209_74, r209_75, r209_78, r209_80, r209_81, r209_82, r209_84, r209_87, r209_90, r209_91, r209_93, r209_96, r209_98, r209_101, r209_102, r209_105, r209_106, r209_109, r209_112, r209_114, ↓if_pos, ↓if_neg]
  | succ r ih =>
    intro k n v4 J hk k0 hn hv hR hM hG x4 hx4
    push_cast at hk
    obtain ⟨n', rfl⟩ : ∃ n', n = n' + 1 := ⟨n - 1, by omega⟩
    push_cast at hn
    obtain ⟨d1, d2⟩ := anc_d hH hp n' (by omega)
    have hpos := anc_pos hH hp (n := n') (by omega)
    obtain ⟨⟨q1, q2, q3, q4⟩, q5, q6, q7⟩ := hH.1 (anc Q n' p) hpos (by omega)
    have hVn := hI.1 (anc Q n' p) (by omega)
    obtain ⟨J1, a, k1, k2, k3⟩ := m_nextAct (d := d + 5) (a := -1) hg hR (by omega)
    have f1 : Fr8 J J1 := fun b i _ _ _ _ q => k2 b i q
    have e83 : ∀ i, J1 83 i = J 83 i := f1.oth (by omega)
    have hM1 : MQu J1 g Q := hM.cong (f1 70 18 (by omega) (by omega) (by omega) (by omega) (by omega)) (f1.oth (by omega)) (f1.oth (by omega))
    obtain ⟨J2, g1, g2, g3⟩ := greedy_in (d := d) (x1 := i) (x2 := qd Q p) (x5 := k) hg hI hD hH hp ho hN (n := n') (by omega) 1024 0 a J1 (by omega) (by omega) q5.1 k3 (f1.mf.RG hR) hM1 (fun j j1 => by unfold GS; rw [e83]; exact hG j j1)
    have f2 := f1.trans g2
    have hR2 := f2.mf.RG hR
    have hst := m_stateNow (d := d + 7) hR2 g3 hg hVn
    have e83' : ∀ i, J2 83 i = J 83 i := f2.oth (by omega)
    obtain ⟨K, s1, s2⟩ := ih (k + 1) n' (vI (qa Q (anc Q n' p))) J2 (by omega) (by omega) (by omega) (fun _ => rfl) hR2 (hM.cong (f2 70 18 (by omega) (by omega) (by omega) (by omega) (by omega)) (f2.oth (by omega)) (f2.oth (by omega))) (fun j j1 => by unfold GS; rw [e83']; exact hG j j1) (qa Q (anc Q n' p)) rfl
    refine ⟨K, ?_, f2.mf.trans s2⟩
    rw [← s1]
    have hpre : runs (call (d + 9)) 209 67 [vR 70, vI i, vI (qd Q p), vI (mst (qc Q (anc Q (n' + 1) p))), vI x4, vI k] [] J = runs (call (d + 9)) 209 80 [vR 70, vI i, vI (qd Q p), vI (mst (qc Q (anc Q (n' + 1) p))), vI a, vI k] [] J1 := by
      clear hG hN hv q6
      simp (disch := omega) only [r209_0, r209_1, r209_4, r209_5, r209_7, r209_10, r209_11, r209_12, r209_13, r209_16, r209_19, r209_20, r209_21, r209_22, r209_25, r209_27, r209_28, r209_29, r209_30, r209_31, r209_33, r209_36, r209_37, r209_40, r209_41, r209_42, r209_43, r209_46, r209_49, r209_50, r209_51, r209_54, r209_55, r209_58, r209_59, r209_60, r209_61, r209_62, r209_64, r209_65, r209_67, r209_69, r209_70, r209_73, r209_74, r209_75, r209_78, r209_81, r209_82, r209_84, r209_87, r209_90, r209_91, r209_93, r209_96, r209_98, r209_101, r209_102, r209_105, r209_106, r209_109, r209_112, r209_114, ↓if_pos, ↓if_neg, k1, Option.bind_some, pushR_s]
    rw [hpre, g1]
    clear hG hN hv q6
    simp (disch := omega) only [r209_0, r209_1, r209_4, r209_5, r209_7, r209_10, r209_11, r209_12, r209_13, r209_16, r209_19, r209_20, r209_21, r209_22, r209_25, r209_27, r209_28, r209_29, r209_30, r209_31, r209_33, r209_36, r209_37, r209_40, r209_41, r209_42, r209_43, r209_46, r209_49, r209_50, r209_51, r209_54, r209_55, r209_58, r209_59, r209_60, r209_61, r209_62, r209_64, r209_65, r209_69, r209_70, r209_73, r209_74, r209_75, r209_78, r209_80, r209_81, r209_82, r209_84, r209_87, r209_90, r209_91, r209_93, r209_96, r209_98, r209_101, r209_102, r209_105, r209_106, r209_109, r209_112, r209_114, ↓if_pos, ↓if_neg, hst, iadd_eq, Option.bind_some, pushR_s]
theorem M_row (hM : MR I s) (hO : OK s) : ∃ r, RowR s i r ∧ MA (d + 10) 209 [vI i] I r (sRow s i) := by
  unfold sRow
  by_cases h : i < 0
  · rw [if_pos h]
    refine ⟨-10, Or.inl ⟨h, rfl⟩, MA.bump hO hM (by omega) ?_⟩
    rw [en209]; simp (disch := omega) only [r209_0, r209_1, r209_4, r209_5, r209_7, r209_10, r209_11, r209_12, r209_13, r209_16, r209_19, r209_20, r209_21, r209_22, r209_25, r209_27, r209_28, r209_29, r209_30, r209_31, r209_33, r209_36, r209_37, r209_40, r209_41, r209_42, r209_43, r209_46, r209_49, r209_50, r209_51, r209_54, r209_55, r209_58, r209_59, r209_60, r209_61, r209_62, r209_64, r209_65, r209_67, r209_69, r209_70, r209_73, r209_74, r209_75, r209_78, r209_80, r209_81, r209_82, r209_84, r209_87, r209_90, r209_91, r209_93, r209_96, r209_98, r209_101, r209_102, r209_105, r209_106, r209_109, r209_112, r209_114, ↓if_pos, ↓if_neg, m_bad, Option.bind_some, pushR_s]
  · rw [if_neg h]
    have hW := hO.W
    have f := (memN_fr I).to8
    obtain ⟨K, k1, k2, k3⟩ := m_findFewest (d := d + 1) hO.W (hM.R.cong (f.oth (by omega))) hO.V
    have hf := f.mf.trans k2
    have hs := m_startOf (d := d + 6) hM hO
    by_cases hl : i < fw (gg s) (cd s)
    · rcases k3.pi with hq | ⟨p, hp, hfw, hMQ⟩
      · omega
      · obtain ⟨hP, hI, hD⟩ := hp.all hO.W hO.V
        have hH := HQ.fq (g := gg s) (c := cd s) p (fun j hj => hp.1 j (by omega))
        have hpl := hp.1 p (Nat.le_refl p)
        have hrowV : rowV (gg s) (cd s) p i = qa (fq (gg s) p (Q0 (cd s))) (anc (fq (gg s) p (Q0 (cd s))) (qd (fq (gg s) p (Q0 (cd s))) p - 1 - i).toNat p) := rfl
        have hov := hp.2.1
        have hNo := hp.2.2
        rw [hfw] at hl k1
        refine ⟨rowV (gg s) (cd s) p i, Or.inr (Or.inr ⟨by omega, by rw [hfw]; exact hl, p, hp, rfl⟩), ?_⟩
        rw [hrowV]
        have hst0 : cd s = qc (fq (gg s) p (Q0 (cd s))) 0 := by
          obtain ⟨T, hT⟩ := fq_pre (gg s) (Q0 (cd s)) 0 p
          rw [Nat.zero_add] at hT
          rw [hT, qc_app (by simp [fq, Q0])]; rfl
        generalize hQ : fq (gg s) p (Q0 (cd s)) = Q at *
        have hlen := hI.mlen' hO.W
        have hdp := hD p hpl
        -- the marks
        obtain ⟨K1, c1, c2⟩ := clear_loop (d := d + 9) i (qd Q p) (vR 0) (vR 0) 73728 0 K (by omega) (by omega) (fun j j0 j1 => by omega)
        have hR1 := c2.1.RG (hf.RG hM.R)
        have hMQ1 := c2.mq hMQ
        obtain ⟨K2, g1, g2, g3⟩ := fg_loop (d := d) (m := qd Q p) hO.W hI hD hH ⟨hdp.1, by omega⟩ Q.length (vR 0) (vR 0) K1 (Nat.le_refl _) hR1 hMQ1 (fun j j0 j1 => by omega)
        have hR2 := g2.1.RG hR1
        have hMQ2 := g2.mq hMQ1
        have hfg : call (d + 9) 207 [vR 70, vI (qd Q p)] K1 = some (none, K2) := by
          have e18 := hMQ1.1
          rw [en207, ← g1]
          clear g3 hNo hov
          simp (disch := omega) only [r207_0, r207_1, r207_4, r207_5, r207_6, r207_8, r207_11, r207_12, r207_15, r207_16, r207_17, r207_18, r207_19, r207_20, r207_23, r207_24, r207_27, r207_28, r207_29, r207_32, r207_33, r207_34, r207_35, r207_38, r207_39, r207_42, r207_45, r207_46, r207_49, r207_50, r207_51, r207_52, r207_53, r207_56, r207_58, r207_60, r207_63, r207_66, r207_67, r207_70, r207_71, r207_72, r207_73, r207_76, r207_77, r207_80, r207_81, r207_82, r207_85, r207_86, r207_89, r207_90, r207_91, r207_92, r207_94, r207_97, r207_98, r207_99, r207_101, r207_104, r207_106, r207_109, r207_112, r207_115, e18, isub_eq]
        -- the first entry is the row's start
        have ha0 : anc Q (qd Q p).toNat p = 0 := by
          obtain ⟨a1, a2⟩ := anc_d hH hpl (qd Q p).toNat (by omega)
          rcases Nat.eq_zero_or_pos (anc Q (qd Q p).toNat p) with z | z
          · exact z
          · obtain ⟨⟨z1, z2, z3, z4⟩, z5, z6, z7⟩ := hH.1 _ z (by omega)
            have := (hD (qp Q (anc Q (qd Q p).toNat p)).toNat (by omega)).1
            omega
        have e82 : K2 82 0 = mst (qc Q (anc Q (qd Q p).toNat p)) := by rw [ha0]; exact (hMQ2.2.1 0 (by omega)).1
        obtain ⟨L, l1, l2⟩ := greedy_out (d := d) (i := i) hO.W hI hD hH hpl hov hNo ⟨by omega, hl⟩ (i + 1).toNat 0 (qd Q p).toNat (vI (-1)) K2 (by omega) (by omega) (by omega) (fun z => by omega) hR2 hMQ2 g3 (-1) rfl
        have hff := hf.trans (c2.1.trans (g2.1.trans l2))
        refine ⟨L, ?_, hM.mf hO hff, hff.out⟩
        rw [en209]
        have hpre : runs (call (d + 9)) 209 0 [vR 70, vI i, vR 0, vR 0, vR 0, vR 0] [] I = runs (call (d + 9)) 209 30 [vR 70, vI i, vI (qd Q p), vI 0, vR 0, vR 0] [] K := by
          clear g3 hNo hov
          simp (disch := omega) only [r209_0, r209_1, r209_4, r209_5, r209_7, r209_10, r209_11, r209_12, r209_13, r209_16, r209_19, r209_20, r209_21, r209_22, r209_25, r209_27, r209_28, r209_29, r209_31, r209_33, r209_36, r209_37, r209_40, r209_41, r209_42, r209_43, r209_46, r209_49, r209_50, r209_51, r209_54, r209_55, r209_58, r209_59, r209_60, r209_61, r209_62, r209_64, r209_65, r209_67, r209_69, r209_70, r209_73, r209_74, r209_75, r209_78, r209_80, r209_81, r209_82, r209_84, r209_87, r209_90, r209_91, r209_93, r209_96, r209_98, r209_101, r209_102, r209_105, r209_106, r209_109, r209_112, r209_114, ↓if_pos, ↓if_neg, hs, k1, Option.bind_some, pushR_s]
        rw [hpre, c1]
        have hpre2 : runs (call (d + 9)) 209 49 [vR 70, vI i, vI (qd Q p), vI 73728, vR 0, vR 0] [] K1 = runs (call (d + 9)) 209 67 [vR 70, vI i, vI (qd Q p), vI (mst (qc Q (anc Q (qd Q p).toNat p))), vI (-1), vI 0] [] K2 := by
          clear g3 hNo hov
          simp (disch := omega) only [r209_0, r209_1, r209_4, r209_5, r209_7, r209_10, r209_11, r209_12, r209_13, r209_16, r209_19, r209_20, r209_21, r209_22, r209_25, r209_27, r209_28, r209_29, r209_30, r209_31, r209_33, r209_36, r209_37, r209_40, r209_41, r209_42, r209_43, r209_46, r209_49, r209_50, r209_51, r209_54, r209_55, r209_58, r209_59, r209_60, r209_61, r209_62, r209_64, r209_65, r209_69, r209_70, r209_73, r209_74, r209_75, r209_78, r209_80, r209_81, r209_82, r209_84, r209_87, r209_90, r209_91, r209_93, r209_96, r209_98, r209_101, r209_102, r209_105, r209_106, r209_109, r209_112, r209_114, ↓if_pos, ↓if_neg, hfg, e82, Option.bind_some, pushR_s, pushR_n]
        rw [hpre2]; exact l1
    · refine ⟨-5, Or.inr (Or.inl ⟨by omega, by omega, rfl⟩), K, ?_, hM.mf hO hf, hf.out⟩
      rw [en209]
      simp (disch := omega) only [r209_0, r209_1, r209_4, r209_5, r209_7, r209_10, r209_11, r209_12, r209_13, r209_16, r209_19, r209_20, r209_21, r209_22, r209_25, r209_27, r209_28, r209_29, r209_30, r209_31, r209_33, r209_36, r209_37, r209_40, r209_41, r209_42, r209_43, r209_46, r209_49, r209_50, r209_51, r209_54, r209_55, r209_58, r209_59, r209_60, r209_61, r209_62, r209_64, r209_65, r209_67, r209_69, r209_70, r209_73, r209_74, r209_75, r209_78, r209_80, r209_81, r209_82, r209_84, r209_87, r209_90, r209_91, r209_93, r209_96, r209_98, r209_101, r209_102, r209_105, r209_106, r209_109, r209_112, r209_114, ↓if_pos, ↓if_neg, hs, k1, Option.bind_some, pushR_s]
end
