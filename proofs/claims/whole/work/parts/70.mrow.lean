/-! row of the model. -/
def lo (J : MM) (g : G) (c a : Int) : Int := if 0 ≤ outc g c a ∧ J 81 (mst (outc g c a)) = J 81 (mst c) + 1 ∧ J 83 (mst (outc g c a)) ≠ 0 then 1 else 0
/-- entry j's mark is right -/
def GS (J : MM) (g : G) (Q : List QE) (m : Int) (j : Nat) : Prop := J 83 (mst (qc Q j)) ≠ 0 ↔ qd Q j ≤ m ∧ gd g Q m (m - qd Q j).toNat j
/-- only the mark of state t may differ, of what is looked at -/
def NF (t : Int) (J K : MM) : Prop := MF J K ∧ (∀ i, K 81 i = J 81 i) ∧ (∀ i, K 82 i = J 82 i) ∧ K 70 18 = J 70 18 ∧ (∀ i, i ≠ t → K 83 i = J 83 i)
theorem NF.refl (t : Int) (J : MM) : NF t J J := ⟨MF.refl J, fun _ => rfl, fun _ => rfl, rfl, fun _ _ => rfl⟩
theorem NF.trans {t : Int} {I J K : MM} (h1 : NF t I J) (h2 : NF t J K) : NF t I K := ⟨h1.1.trans h2.1, fun i => (h2.2.1 i).trans (h1.2.1 i), fun i => (h2.2.2.1 i).trans (h1.2.2.1 i), h2.2.2.2.1.trans h1.2.2.2.1, fun i hi => (h2.2.2.2.2 i hi).trans (h1.2.2.2.2 i hi)⟩
theorem Fr8.nf {t : Int} {J K : MM} (h : Fr8 J K) : NF t J K := ⟨h.mf, h.oth (by omega), h.oth (by omega), h 70 18 (by omega) (by omega) (by omega) (by omega) (by omega), fun i _ => h.oth (by omega) i⟩
theorem NF.mset {t : Int} (J : MM) (v : Int) : NF t J (mset J 83 t v) := ⟨⟨fun a i q => by rw [mset_at, if_neg (by omega)], fun i q => by rw [mset_at, if_neg (by omega)]⟩, fun i => by rw [mset_at, if_neg (by omega)], fun i => by rw [mset_at, if_neg (by omega)], by rw [mset_at, if_neg (by omega)], fun i hi => by rw [mset_at, if_neg (fun q => hi q.2)]⟩
theorem NF.mq {t : Int} {J K : MM} {g : G} {Q : List QE} (h : NF t J K) (hM : MQu J g Q) : MQu K g Q := hM.cong h.2.2.2.1 h.2.2.1 h.2.1
section
variable {d : Nat} {I J K : MM} {s : ST} {g : G} {a c w x y b v i m f : Int} {Q : List QE} {p : Nat}
theorem lo_c (J : MM) (g : G) (c a : Int) : lo J g c a = 1 ∨ lo J g c a = 0 := by unfold lo; split <;> simp
theorem m_leadsOn (hg : WG g) (hR : RG J g) (hV : VC g c) (ha : 0 ≤ a ∧ a < 1280) (hb : -1 ≤ J 81 (mst c) ∧ J 81 (mst c) ≤ 100000) : ∃ K, call (d + 8) 208 [vR 70, vI (mst c), vI a] J = some (some (vI (lo J g c a)), K) ∧ Fr8 J K ∧ (0 ≤ outc g c a → MS K g (outc g c a)) := by
  have hmc := mst_b hg hV
  have f1 := (memTS_fr J (mst c)).to8
  obtain ⟨J2, t1, t2, t3⟩ := m_splitTry (d := d) (a := a) (hR.cong (f1.oth (by omega))) (memTS_MS hg hV) hg hV ha
  have f2 := f1.trans t2
  by_cases ho : outc g c a < 0
  · have hr : rso (outc g c a) ≠ 0 := by rw [rso, if_pos ho]; omega
    have hlo : lo J g c a = 0 := if_neg (fun q => by omega)
    refine ⟨J2, ?_, f2, fun q => by omega⟩
    rw [hlo, en208]
    simp (disch := omega) only [r208_0, r208_1, r208_2, r208_5, r208_6, r208_7, r208_10, r208_11, r208_14, r208_17, r208_18, r208_19, r208_20, r208_23, r208_24, r208_25, r208_28, r208_29, r208_30, r208_31, r208_34, r208_35, r208_36, r208_37, r208_38, r208_41, r208_42, r208_45, r208_46, r208_47, r208_50, r208_51, r208_54, r208_55, ↓if_pos, ↓if_neg, m_takeState, m_split, t1, Option.bind_some, pushR_s, pushR_n]
  · have hr : rso (outc g c a) = 0 := by rw [rso, if_neg ho]
    have hVo := vc_outc hg hV (a := a) (by omega)
    have hmo := mst_b hg hVo
    rw [sto, if_neg ho] at t3
    have hst := m_stateNow (d := d + 5) (f2.mf.RG hR) t3 hg hVo
    have e81 : ∀ i, J2 81 i = J 81 i := f2.oth (by omega)
    have e83 : ∀ i, J2 83 i = J 83 i := f2.oth (by omega)
    refine ⟨J2, ?_, f2, fun _ => t3⟩
    rw [en208]
    by_cases h1 : J 81 (mst (outc g c a)) = J 81 (mst c) + 1
    · by_cases h2 : J 83 (mst (outc g c a)) = 0
      · have hlo : lo J g c a = 0 := if_neg (fun q => q.2.2 h2)
        rw [hlo]
        simp (disch := omega) only [r208_0, r208_1, r208_2, r208_5, r208_6, r208_7, r208_10, r208_11, r208_14, r208_17, r208_18, r208_19, r208_20, r208_23, r208_24, r208_25, r208_28, r208_29, r208_30, r208_31, r208_34, r208_35, r208_36, r208_37, r208_38, r208_41, r208_42, r208_45, r208_46, r208_47, r208_50, r208_51, r208_54, r208_55, ↓if_pos, ↓if_neg, m_takeState, m_split, t1, hst, e81, e83, iadd_eq, Option.bind_some, pushR_s, pushR_n]
      · have hlo : lo J g c a = 1 := if_pos ⟨by omega, h1, h2⟩
        rw [hlo]
        simp (disch := omega) only [r208_0, r208_1, r208_2, r208_5, r208_6, r208_7, r208_10, r208_11, r208_14, r208_17, r208_18, r208_19, r208_20, r208_23, r208_24, r208_25, r208_28, r208_29, r208_30, r208_31, r208_34, r208_35, r208_36, r208_37, r208_38, r208_41, r208_42, r208_45, r208_46, r208_47, r208_50, r208_51, r208_54, r208_55, ↓if_pos, ↓if_neg, m_takeState, m_split, t1, hst, e81, e83, iadd_eq, Option.bind_some, pushR_s, pushR_n]
    · have hlo : lo J g c a = 0 := if_neg (fun q => h1 q.2.1)
      rw [hlo]
      simp (disch := omega) only [r208_0, r208_1, r208_2, r208_5, r208_6, r208_7, r208_10, r208_11, r208_14, r208_17, r208_18, r208_19, r208_20, r208_23, r208_24, r208_25, r208_28, r208_29, r208_30, r208_31, r208_34, r208_35, r208_36, r208_37, r208_38, r208_41, r208_42, r208_45, r208_46, r208_47, r208_50, r208_51, r208_54, r208_55, ↓if_pos, ↓if_neg, m_takeState, m_split, t1, hst, e81, e83, iadd_eq, Option.bind_some, pushR_s, pushR_n]
/-- what an act leads to, in the queue's words -/
def LC (g : G) (Q : List QE) (m : Int) (k : Nat) (e : Int) : Prop := (0 ≤ e ∧ e < 1024) ∧ ∃ j : Nat, j < Q.length ∧ 0 ≤ outc g (qc Q k) e ∧ qc Q j = outc g (qc Q k) e ∧ qd Q j = qd Q k + 1 ∧ gd g Q m (m - qd Q k - 1).toNat j
theorem lo_LC {k n : Nat} {B : Int} (hg : WG g) (hI : QI g Q) (hD : DQ Q) (hH : HQ g Q n B) (hM : MQu J g Q) (hk : k < Q.length) (hkm : qd Q k < m) (hG : ∀ j, k < j → j < Q.length → GS J g Q m j) (ha : 0 ≤ a ∧ a < 1024) : lo J g (qc Q k) a = 1 ↔ LC g Q m k a := by
  have e81 := (hM.2.1 k hk).2
  have hdk := hD k hk
  unfold lo LC
  constructor
  · intro h
    split at h
    · rename_i q
      obtain ⟨q1, q2, q3⟩ := q
      have hVo := vc_outc hg (hI.1 k hk) (a := a) q1
      have hin : inQ Q (outc g (qc Q k) a) := Decidable.byContradiction (fun z => by
        have := hM.2.2 _ hVo z; omega)
      obtain ⟨j, j1, j2⟩ := inQ_iff.mp hin
      have ej := (hM.2.1 j j1).2
      rw [j2, q2, e81] at ej
      have hkj : k < j := by
        rcases Nat.lt_or_ge k j with z | z
        · exact z
        · have := (qd_mono hH k hk j z).1; omega
      rw [← j2] at q3
      obtain ⟨g1, g2⟩ := (hG j hkj j1).mp q3
      refine ⟨ha, j, j1, q1, j2, by omega, ?_⟩
      have : (m - qd Q j).toNat = (m - qd Q k - 1).toNat := by omega
      rw [← this]; exact g2
    · omega
  · rintro ⟨-, j, j1, q1, j2, j3, j4⟩
    have ej := (hM.2.1 j j1).2
    have hkj : k < j := by
      rcases Nat.lt_or_ge k j with z | z
      · exact z
      · have := (qd_mono hH k hk j z).1; omega
    have hgj : J 83 (mst (qc Q j)) ≠ 0 := (hG j hkj j1).mpr ⟨by omega, by
      have : (m - qd Q j).toNat = (m - qd Q k - 1).toNat := by omega
      rw [this]; exact j4⟩
    rw [j2] at ej hgj
    rw [if_pos ⟨q1, by rw [ej, e81]; omega, hgj⟩]
theorem GS.nf {k j : Nat} (hg : WG g) (hI : QI g Q) (hk : k < Q.length) (hj : j < Q.length) (hkj : k < j) (h : GS J g Q m j) (hf : NF (mst (qc Q k)) J K) : GS K g Q m j := by
  have hne : mst (qc Q j) ≠ mst (qc Q k) := fun q => by
    have := qc_inj hI hj hk (mst_inj hg (hI.1 j hj) (hI.1 k hk) q); omega
  unfold GS
  rw [hf.2.2.2.2 _ hne]; exact h
/-- the loop over an entry's acts in findGood -/
theorem good_loop {k n0 : Nat} {B x2 : Int} (hg : WG g) (hI : QI g Q) (hD : DQ Q) (hH : HQ g Q n0 B) (hk : k < Q.length) (hm : 0 ≤ m ∧ m ≤ 131072) : ∀ (n : Nat) (b a : Int) (J : MM), 1024 - b ≤ n → 0 ≤ b → b ≤ 1024 → nxA g b a → RG J g → MQu J g Q → (∀ j, k < j → j < Q.length → GS J g Q m j) → (J 83 (mst (qc Q k)) = 0 ∨ J 83 (mst (qc Q k)) = 1) → ∃ K v, runs (call (d + 8)) 207 58 [vR 70, vI m, vI x2, vI (mst (qc Q k)), vI a] [] J = runs (call (d + 8)) 207 109 [vR 70, vI m, vI x2, vI (mst (qc Q k)), vI v] [] K ∧ NF (mst (qc Q k)) J K ∧ (K 83 (mst (qc Q k)) = 0 ∨ K 83 (mst (qc Q k)) = 1) ∧ (K 83 (mst (qc Q k)) ≠ 0 ↔ J 83 (mst (qc Q k)) ≠ 0 ∨ (qd Q k < m ∧ ∃ e, b ≤ e ∧ LC g Q m k e)) := by
  have hVk := hI.1 k hk
  have hmk := mst_b hg hVk
  have hdk := hD k hk
  have hlen := hI.mlen' hg
  intro n
  induction n with
  | zero =>
    intro b a J hn b0 b1 hx hR hM hG hZ
    have : b = 1024 := by omega
    subst this
    have ha : a = 2048 := by rcases hx with h | h; exact h.1; omega
    subst ha
    refine ⟨J, 2048, ?_, NF.refl _ J, hZ, ⟨Or.inl, fun q => ?_⟩⟩
    · simp (disch := omega) only [r207_0, r207_1, r207_4, r207_5, r207_6, r207_7, r207_8, r207_11, r207_12, r207_15, r207_16, r207_17, r207_18, r207_19, r207_20, r207_23, r207_24, r207_27, r207_28, r207_29, r207_32, r207_33, r207_34, r207_35, r207_38, r207_39, r207_42, r207_45, r207_46, r207_49, r207_50, r207_51, r207_52, r207_53, r207_56, r207_58, r207_60, r207_63, r207_66, r207_67, r207_70, r207_71, r207_72, r207_73, r207_76, r207_77, r207_80, r207_81, r207_82, r207_85, r207_86, r207_89, r207_90, r207_91, r207_92, r207_94, r207_97, r207_98, r207_99, r207_101, r207_104, r207_106, r207_112, r207_115, ↓if_pos, ↓if_neg]
    · rcases q with q | ⟨-, e, e0, q⟩
      · exact q
      · have := q.1; omega
  | succ n ih =>
    intro b a J hn b0 b1 hx hR hM hG hZ
    push_cast at hn
    have e81 := (hM.2.1 k hk).2
    have hskip : ∀ e, b ≤ e → LC g Q m k e → a ≤ e ∧ a < 1024 := fun e e0 hl => by
      obtain ⟨l1, j, j1, l2, -⟩ := hl
      have hs : sucha g e := Decidable.byContradiction (fun z => by rw [outc_no z] at l2; omega)
      rcases hx with ⟨hx1, hx2⟩ | ⟨hx1, hx2, hx3, hx4⟩
      · exact (hx2 e e0 l1.2 hs).elim
      · rcases Int.lt_or_le e a with z | z
        · exact (hx4 e e0 z hs).elim
        · exact ⟨z, hx2⟩
    by_cases ha : a < 1024
    · have ha0 : b ≤ a := by rcases hx with h | h; omega; exact h.1
      by_cases hq : qd Q k < m
      · by_cases hz : J 83 (mst (qc Q k)) = 0
        · obtain ⟨J2, t1, t2, -⟩ := m_leadsOn (d := d) (a := a) hg hR hVk (by omega) (by omega)
          have hlc := lo_LC hg hI hD hH hM hk hq hG ⟨by omega, ha⟩
          have n1 := (t2.nf (t := mst (qc Q k))).trans (NF.mset J2 (lo J g (qc Q k) a))
          have hM1 := n1.mq hM
          have hR1 := n1.1.RG hR
          have hG1 : ∀ j, k < j → j < Q.length → GS (mset J2 83 (mst (qc Q k)) (lo J g (qc Q k) a)) g Q m j := fun j j0 j1 => (hG j j0 j1).nf hg hI hk j1 j0 n1
          obtain ⟨J3, a', k1, k2, k3⟩ := m_nextAct (d := d + 4) (a := a) hg hR1 (by omega)
          have n2 : NF (mst (qc Q k)) (mset J2 83 (mst (qc Q k)) (lo J g (qc Q k) a)) J3 := ⟨k2.mf, fun i => k2 81 i (by omega), fun i => k2 82 i (by omega), k2 70 18 (by omega), fun i _ => k2 83 i (by omega)⟩
          have ev : J3 83 (mst (qc Q k)) = lo J g (qc Q k) a := by rw [k2 83 _ (by omega), mset_at, if_pos ⟨rfl, rfl⟩]
          obtain ⟨K, v, r1, r2, r3, r4⟩ := ih (a + 1) a' J3 (by omega) (by omega) (by omega) k3 (n2.1.RG hR1) (n2.mq hM1) (fun j j0 j1 => (hG1 j j0 j1).nf hg hI hk j1 j0 n2) (by rw [ev]; exact (lo_c J g (qc Q k) a).symm)
          refine ⟨K, v, Eq.trans ?_ r1, n1.trans (n2.trans r2), r3, ?_⟩
          · have hl01 := lo_c J g (qc Q k) a
            rw [r207_58]
            clear hskip hx hlc hG hG1 r4
            simp (disch := omega) only [r207_0, r207_1, r207_4, r207_5, r207_6, r207_7, r207_8, r207_11, r207_12, r207_15, r207_16, r207_17, r207_18, r207_19, r207_20, r207_23, r207_24, r207_27, r207_28, r207_29, r207_32, r207_33, r207_34, r207_35, r207_38, r207_39, r207_42, r207_45, r207_46, r207_49, r207_50, r207_51, r207_52, r207_53, r207_56, r207_60, r207_63, r207_66, r207_67, r207_70, r207_71, r207_72, r207_73, r207_76, r207_77, r207_80, r207_81, r207_82, r207_85, r207_86, r207_89, r207_90, r207_91, r207_92, r207_94, r207_97, r207_98, r207_99, r207_101, r207_104, r207_106, r207_112, r207_115, ↓if_pos, ↓if_neg, e81, t1, k1, Option.bind_some, pushR_s, pushR_n]
          · rw [r4, ev]
            constructor
            · rintro (q | ⟨q1, e, q2, q3⟩)
              · exact Or.inr ⟨hq, a, ha0, hlc.mp ((lo_c J g (qc Q k) a).resolve_right q)⟩
              · exact Or.inr ⟨q1, e, by omega, q3⟩
            · rintro (q | ⟨q1, e, q2, q3⟩)
              · exact (q hz).elim
              · have := (hskip e q2 q3).1
                rcases Int.lt_or_le a e with z | z
                · exact Or.inr ⟨q1, e, by omega, q3⟩
                · have : e = a := by omega
                  subst this
                  exact Or.inl (by rw [hlc.mpr q3]; omega)
        · refine ⟨J, a, ?_, NF.refl _ J, hZ, ⟨Or.inl, fun _ => hz⟩⟩
          clear hskip hx hG
          simp (disch := omega) only [r207_0, r207_1, r207_4, r207_5, r207_6, r207_7, r207_8, r207_11, r207_12, r207_15, r207_16, r207_17, r207_18, r207_19, r207_20, r207_23, r207_24, r207_27, r207_28, r207_29, r207_32, r207_33, r207_34, r207_35, r207_38, r207_39, r207_42, r207_45, r207_46, r207_49, r207_50, r207_51, r207_52, r207_53, r207_56, r207_58, r207_60, r207_63, r207_66, r207_67, r207_70, r207_71, r207_72, r207_73, r207_76, r207_77, r207_80, r207_81, r207_82, r207_85, r207_86, r207_89, r207_90, r207_91, r207_92, r207_94, r207_97, r207_98, r207_99, r207_101, r207_104, r207_106, r207_112, r207_115, ↓if_pos, ↓if_neg, e81]
      · refine ⟨J, a, ?_, NF.refl _ J, hZ, ⟨Or.inl, fun q => ?_⟩⟩
        · clear hskip hx hG
          simp (disch := omega) only [r207_0, r207_1, r207_4, r207_5, r207_6, r207_7, r207_8, r207_11, r207_12, r207_15, r207_16, r207_17, r207_18, r207_19, r207_20, r207_23, r207_24, r207_27, r207_28, r207_29, r207_32, r207_33, r207_34, r207_35, r207_38, r207_39, r207_42, r207_45, r207_46, r207_49, r207_50, r207_51, r207_52, r207_53, r207_56, r207_58, r207_60, r207_63, r207_66, r207_67, r207_70, r207_71, r207_72, r207_73, r207_76, r207_77, r207_80, r207_81, r207_82, r207_85, r207_86, r207_89, r207_90, r207_91, r207_92, r207_94, r207_97, r207_98, r207_99, r207_101, r207_104, r207_106, r207_112, r207_115, ↓if_pos, ↓if_neg, e81]
        · rcases q with q | q
          · exact q
          · exact (hq q.1).elim
    · refine ⟨J, a, ?_, NF.refl _ J, hZ, ⟨Or.inl, fun q => ?_⟩⟩
      · clear hskip hx hG
        simp (disch := omega) only [r207_0, r207_1, r207_4, r207_5, r207_6, r207_7, r207_8, r207_11, r207_12, r207_15, r207_16, r207_17, r207_18, r207_19, r207_20, r207_23, r207_24, r207_27, r207_28, r207_29, r207_32, r207_33, r207_34, r207_35, r207_38, r207_39, r207_42, r207_45, r207_46, r207_49, r207_50, r207_51, r207_52, r207_53, r207_56, r207_58, r207_60, r207_63, r207_66, r207_67, r207_70, r207_71, r207_72, r207_73, r207_76, r207_77, r207_80, r207_81, r207_82, r207_85, r207_86, r207_89, r207_90, r207_91, r207_92, r207_94, r207_97, r207_98, r207_99, r207_101, r207_104, r207_106, r207_112, r207_115, ↓if_pos, ↓if_neg]
      · rcases q with q | ⟨q1, e, q2, q3⟩
        · exact q
        · exact (ha (hskip e q2 q3).2).elim
end
