/-! leaps of the model. -/
def MQl (I : MM) (g : G) (Q : List QE) : Prop := I 70 18 = (Q.length : Int) ∧ (∀ i : Nat, i < Q.length → I 82 (i : Int) = mst (qc Q i) ∧ 0 ≤ I 81 (mst (qc Q i))) ∧ (∀ c, VC g c → ¬ inQ Q c → I 81 (mst c) = -1)
theorem MQl.cong {I J : MM} {g : G} {Q : List QE} (h : MQl I g Q) (e1 : J 70 18 = I 70 18) (e2 : ∀ i, J 82 i = I 82 i) (e3 : ∀ i, J 81 i = I 81 i) : MQl J g Q :=
  ⟨e1.trans h.1, fun i hi => ⟨(e2 _).trans (h.2.1 i hi).1, by rw [e3]; exact (h.2.1 i hi).2⟩, fun c hc hn => (e3 _).trans (h.2.2 c hc hn)⟩
def set4 (J : MM) (w x : Int) : MM := mset (mset (mset (mset J 70 9 4) 70 10 w) 70 11 x) 70 12 0
theorem set4_fr (J : MM) (w x : Int) : Fr8 J (set4 J w x) := by
  intro b i _ _ _ _ h
  simp only [set4, mset_at]
  rw [if_neg (by omega), if_neg (by omega), if_neg (by omega), if_neg (by omega)]
section
variable {d : Nat} {I J K : MM} {s : ST} {g : G} {a c w x y b p v i m f : Int} {Q : List QE}
theorem m_come_l {k : Nat} (hQ : MQl I g Q) (hg : WG g) (hI : QI g Q) (hk : k < Q.length) (ho : 0 ≤ outc g (qc Q k) a) (hx : 0 ≤ x) : ∃ K, call (d + 1) 204 [vR 70, vI (mst (outc g (qc Q k) a)), vI x] I = some (none, K) ∧ MF I K ∧ MQl K g (stq g k Q a) := by
  have hV := vc_outc hg (hI.1 k hk) (a := a) ho
  generalize hco : outc g (qc Q k) a = c at *
  have hb := mst_b hg hV
  by_cases hn : inQ Q c
  · obtain ⟨i, hi, hic⟩ := inQ_iff.mp hn
    have e := (hQ.2.1 i hi).2
    rw [hic] at e
    refine ⟨I, ?_, MF.refl I, by unfold stq; rw [hco, if_neg (fun q => q.2 hn)]; exact hQ⟩
    rw [en204]
    simp (disch := omega) only [r204_0, r204_1, r204_4, r204_5, r204_6, r204_7, r204_10, r204_11, r204_14, r204_15, r204_16, r204_17, r204_18, r204_21, r204_22, r204_25, r204_26, r204_27, r204_28, r204_29, r204_32, r204_33, r204_34, r204_37, ↓if_pos, ↓if_neg]
  · have hl := hI.mlen hg hV hn
    have e0 := hQ.2.2 c hV hn; have e18 := hQ.1
    have hst : stq g k Q a = Q ++ [(c, qd Q k + 1, (k : Int), a)] := by unfold stq; rw [hco, if_pos ⟨ho, hn⟩]
    rw [hst]
    refine ⟨mset (mset (mset I 81 (mst c) x) 82 Q.length (mst c)) 70 18 (Q.length + 1), ?_, ⟨fun a i q => ?_, fun i q => ?_⟩, ⟨?_, ?_, ?_⟩⟩
    · rw [en204]
      simp (disch := omega) only [r204_0, r204_1, r204_4, r204_5, r204_6, r204_7, r204_10, r204_11, r204_14, r204_15, r204_16, r204_17, r204_18, r204_21, r204_22, r204_25, r204_26, r204_27, r204_28, r204_29, r204_32, r204_33, r204_34, r204_37, ↓if_pos, ↓if_neg, e18, iadd_eq, mset_at]
    · rw [mset_at, if_neg (by omega), mset_at, if_neg (by omega), mset_at, if_neg (by omega)]
    · rw [mset_at, if_neg (by omega), mset_at, if_neg (by omega), mset_at, if_neg (by omega)]
    · rw [mset_at, if_pos ⟨rfl, rfl⟩, List.length_append]; simp
    · intro i hi
      rw [List.length_append, List.length_singleton] at hi
      rcases Nat.lt_or_ge i Q.length with h1 | h1
      · have hne : mst (qc Q i) ≠ mst c := fun q => hn (inQ_iff.mpr ⟨i, h1, mst_inj hg (hI.1 i h1) hV q⟩)
        rw [qc_app h1]
        refine ⟨?_, ?_⟩
        · rw [mset_at, if_neg (by omega), mset_at, if_neg (by omega), mset_at, if_neg (by omega)]; exact (hQ.2.1 i h1).1
        · rw [mset_at, if_neg (by omega), mset_at, if_neg (by omega), mset_at, if_neg (fun q => hne q.2)]; exact (hQ.2.1 i h1).2
      · have : i = Q.length := by omega
        subst this
        have q1 : qc (Q ++ [(c, qd Q k + 1, (k : Int), a)]) Q.length = c := by rw [qc, nth_last]
        rw [q1]
        refine ⟨?_, ?_⟩
        · rw [mset_at, if_neg (by omega), mset_at, if_pos ⟨rfl, rfl⟩]
        · rw [mset_at, if_neg (by omega), mset_at, if_neg (by omega), mset_at, if_pos ⟨rfl, rfl⟩]; exact hx
    · intro t ht hnt
      have h1 : ¬ inQ Q t ∧ t ≠ c := by
        constructor
        · exact fun q => hnt (by unfold inQ at *; rw [List.map_append, List.mem_append]; exact Or.inl q)
        · exact fun q => hnt (by unfold inQ; rw [List.map_append, List.mem_append]; right; simp [q])
      have hne : mst t ≠ mst c := fun q => h1.2 (mst_inj hg ht hV q)
      rw [mset_at, if_neg (by omega), mset_at, if_neg (by omega), mset_at, if_neg (fun q => hne q.2)]
      exact hQ.2.2 t ht h1.1
theorem expl_loop {k : Nat} {x1 x2 L : Int} (x4 : Int) (hL : 0 ≤ L) (hg : WG g) : ∀ (n : Nat) (b a : Int) (J : MM) (Q : List QE), 1024 - b ≤ n → 0 ≤ b → b ≤ 1024 → nxA g b a → RG J g → MQl J g Q → QI g Q → k < Q.length → ∃ K v, runs (call (d + 7)) 212 88 [vR 70, vI x1, vI x2, vI L, vI x4, vI (mst (qc Q k)), vI a] [] J = runs (call (d + 7)) 212 135 [vR 70, vI x1, vI x2, vI L, vI x4, vI (mst (qc Q k)), vI v] [] K ∧ MF J K ∧ MQl K g (ex g k (1024 - b).toNat b Q) := by
  intro n
  induction n with
  | zero =>
    intro b a J Q hn b0 b1 hx hR hM hI hk
    have : b = 1024 := by omega
    subst this
    have ha : a = 2048 := by rcases hx with h | h; exact h.1; omega
    subst ha
    refine ⟨J, 2048, ?_, MF.refl J, hM⟩
    simp (disch := omega) only [r212_0, r212_1, r212_2, r212_5, r212_6, r212_7, r212_10, r212_13, r212_14, r212_16, r212_19, r212_20, r212_21, r212_22, r212_25, r212_28, r212_29, r212_30, r212_31, r212_32, r212_35, r212_38, r212_39, r212_40, r212_41, r212_42, r212_43, r212_44, r212_47, r212_48, r212_50, r212_51, r212_52, r212_55, r212_58, r212_59, r212_62, r212_63, r212_64, r212_66, r212_67, r212_69, r212_72, r212_73, r212_76, r212_79, r212_80, r212_81, r212_82, r212_83, r212_86, r212_88, r212_90, r212_93, r212_96, r212_97, r212_99, r212_102, r212_103, r212_105, r212_108, r212_109, r212_112, r212_115, r212_116, r212_117, r212_120, r212_121, r212_124, r212_125, r212_127, r212_130, r212_132, r212_138, r212_141, r212_143, r212_145, r212_147, r212_148, r212_151, r212_152, r212_153, r212_156, r212_158, r212_159, r212_160, r212_161, r212_162, r212_165, r212_168, r212_171, r212_174, r212_177, r212_178, ↓if_pos, ↓if_neg]
  | succ n ih =>
    intro b a J Q hn b0 b1 hx hR hM hI hk
    push_cast at hn
    rcases hx with ⟨rfl, hno⟩ | ⟨ha0, ha1, hs, hno⟩
    · refine ⟨J, 2048, ?_, MF.refl J, by rw [ex_end hno]; exact hM⟩
      simp (disch := omega) only [r212_0, r212_1, r212_2, r212_5, r212_6, r212_7, r212_10, r212_13, r212_14, r212_16, r212_19, r212_20, r212_21, r212_22, r212_25, r212_28, r212_29, r212_30, r212_31, r212_32, r212_35, r212_38, r212_39, r212_40, r212_41, r212_42, r212_43, r212_44, r212_47, r212_48, r212_50, r212_51, r212_52, r212_55, r212_58, r212_59, r212_62, r212_63, r212_64, r212_66, r212_67, r212_69, r212_72, r212_73, r212_76, r212_79, r212_80, r212_81, r212_82, r212_83, r212_86, r212_88, r212_90, r212_93, r212_96, r212_97, r212_99, r212_102, r212_103, r212_105, r212_108, r212_109, r212_112, r212_115, r212_116, r212_117, r212_120, r212_121, r212_124, r212_125, r212_127, r212_130, r212_132, r212_138, r212_141, r212_143, r212_145, r212_147, r212_148, r212_151, r212_152, r212_153, r212_156, r212_158, r212_159, r212_160, r212_161, r212_162, r212_165, r212_168, r212_171, r212_174, r212_177, r212_178, ↓if_pos, ↓if_neg]
    · rw [ex_skip ha0 ha1 hno]
      have hVk := hI.1 k hk
      have hmk := mst_b hg hVk
      have f1 := (memTS_fr J (mst (qc Q k))).to8
      obtain ⟨J2, t1, t2, t3⟩ := m_splitTry (d := d) (a := a) (hR.cong (f1.oth (by omega))) (memTS_MS hg hVk) hg hVk (by omega)
      have f2 := f1.mf.trans t2.mf
      have hR2 := f2.RG hR
      have hM2 : MQl J2 g Q := hM.cong ((f1.trans t2) 70 18 (by omega) (by omega) (by omega) (by omega) (by omega)) ((f1.trans t2).oth (by omega)) ((f1.trans t2).oth (by omega))
      by_cases ho : outc g (qc Q k) a < 0
      · have hr : rso (outc g (qc Q k) a) ≠ 0 := by rw [rso, if_pos ho]; omega
        obtain ⟨J3, a', n1, n2, n3⟩ := m_nextAct (d := d + 3) (a := a) hg hR2 (by omega)
        have hM3 : MQl J3 g Q := hM2.cong (n2 70 18 (by omega)) (fun i => n2 82 i (by omega)) (fun i => n2 81 i (by omega))
        rw [stq_no ho]
        obtain ⟨K, v, k1, k2, k3⟩ := ih (a + 1) a' J3 Q (by omega) (by omega) (by omega) n3 (n2.mf.RG hR2) hM3 hI hk
        refine ⟨K, v, Eq.trans ?_ k1, f2.trans (n2.mf.trans k2), k3⟩
        rw [r212_88]
        clear hno hs
        simp (disch := omega) only [r212_0, r212_1, r212_2, r212_5, r212_6, r212_7, r212_10, r212_13, r212_14, r212_16, r212_19, r212_20, r212_21, r212_22, r212_25, r212_28, r212_29, r212_30, r212_31, r212_32, r212_35, r212_38, r212_39, r212_40, r212_41, r212_42, r212_43, r212_44, r212_47, r212_48, r212_50, r212_51, r212_52, r212_55, r212_58, r212_59, r212_62, r212_63, r212_64, r212_66, r212_67, r212_69, r212_72, r212_73, r212_76, r212_79, r212_80, r212_81, r212_82, r212_83, r212_86, r212_90, r212_93, r212_96, r212_97, r212_99, r212_102, r212_103, r212_105, r212_108, r212_109, r212_112, r212_115, r212_116, r212_117, r212_120, r212_121, r212_124, r212_125, r212_127, r212_130, r212_132, r212_138, r212_141, r212_143, r212_145, r212_147, r212_148, r212_151, r212_152, r212_153, r212_156, r212_158, r212_159, r212_160, r212_161, r212_162, r212_165, r212_168, r212_171, r212_174, r212_177, r212_178, ↓if_pos, ↓if_neg, m_takeState, m_split, t1, n1, Option.bind_some, pushR_s, pushR_n]
      · have hr : rso (outc g (qc Q k) a) = 0 := by rw [rso, if_neg ho]
        have hVo := vc_outc hg hVk (a := a) (by omega)
        rw [sto, if_neg ho] at t3
        have hst := m_stateNow (d := d + 5) hR2 t3 hg hVo
        obtain ⟨J3, c1, c2, c3⟩ := m_come_l (d := d + 6) (a := a) (x := L) hM2 hg hI hk (by omega) hL
        have hR3 := c2.RG hR2
        obtain ⟨J4, a', n1, n2, n3⟩ := m_nextAct (d := d + 3) (a := a) hg hR3 (by omega)
        have hM4 : MQl J4 g (stq g k Q a) := c3.cong (n2 70 18 (by omega)) (fun i => n2 82 i (by omega)) (fun i => n2 81 i (by omega))
        obtain ⟨s1, s2, s3⟩ := stq_qd (g := g) (a := a) hk
        obtain ⟨K, v, k1, k2, k3⟩ := ih (a + 1) a' J4 (stq g k Q a) (by omega) (by omega) (by omega) n3 (n2.mf.RG hR3) hM4 (hI.add1 hg hk) s3
        rw [s2] at k1
        refine ⟨K, v, Eq.trans ?_ k1, f2.trans (c2.trans (n2.mf.trans k2)), k3⟩
        rw [r212_88]
        clear hno hs
        simp (disch := omega) only [r212_0, r212_1, r212_2, r212_5, r212_6, r212_7, r212_10, r212_13, r212_14, r212_16, r212_19, r212_20, r212_21, r212_22, r212_25, r212_28, r212_29, r212_30, r212_31, r212_32, r212_35, r212_38, r212_39, r212_40, r212_41, r212_42, r212_43, r212_44, r212_47, r212_48, r212_50, r212_51, r212_52, r212_55, r212_58, r212_59, r212_62, r212_63, r212_64, r212_66, r212_67, r212_69, r212_72, r212_73, r212_76, r212_79, r212_80, r212_81, r212_82, r212_83, r212_86, r212_90, r212_93, r212_96, r212_97, r212_99, r212_102, r212_103, r212_105, r212_108, r212_109, r212_112, r212_115, r212_116, r212_117, r212_120, r212_121, r212_124, r212_125, r212_127, r212_130, r212_132, r212_138, r212_141, r212_143, r212_145, r212_147, r212_148, r212_151, r212_152, r212_153, r212_156, r212_158, r212_159, r212_160, r212_161, r212_162, r212_165, r212_168, r212_171, r212_174, r212_177, r212_178, ↓if_pos, ↓if_neg, m_takeState, m_split, t1, hst, c1, n1, Option.bind_some, pushR_s, pushR_n]
theorem mflood_loop {x1 L : Int} (x4 : Int) (hL : 0 ≤ L) (hg : WG g) : ∀ (n k : Nat) (v5 v6 : AV) (J : MM) (Q : List QE), 131073 ≤ k + n → k ≤ Q.length → RG J g → MQl J g Q → QI g Q → ∃ K, MF J K ∧ ((runs (call (d + 7)) 212 50 [vR 70, vI x1, vI k, vI L, vI x4, v5, v6] [] J = some (some (vI L), K) ∧ flF g n k Q = true) ∨ (∃ w5 w6, runs (call (d + 7)) 212 50 [vR 70, vI x1, vI k, vI L, vI x4, v5, v6] [] J = runs (call (d + 7)) 212 141 [vR 70, vI x1, vI ((flQ g n k Q).length : Int), vI L, vI x4, w5, w6] [] K ∧ flF g n k Q = false ∧ MQl K g (flQ g n k Q) ∧ QI g (flQ g n k Q) ∧ k ≤ (flQ g n k Q).length)) := by
  intro n
  induction n with
  | zero =>
    intro k v5 v6 J Q hk hkl hR hM hI
    have := hI.len; omega
  | succ n ih =>
    intro k v5 v6 J Q hk hkl hR hM hI
    have hlen := hI.mlen' hg
    have e18 := hM.1
    rw [flF_s, flQ_s]
    by_cases hkl2 : k < Q.length
    · rw [if_pos hkl2, if_pos hkl2]
      have hVk := hI.1 k hkl2
      have hmk := mst_b hg hVk
      obtain ⟨e82, e81⟩ := hM.2.1 k hkl2
      have f1 := (memTS_fr J (mst (qc Q k))).to8
      have hR1 := f1.mf.RG hR
      have hM1 : MQl (memTS J (mst (qc Q k))) g Q := hM.cong (f1 70 18 (by omega) (by omega) (by omega) (by omega) (by omega)) (f1.oth (by omega)) (f1.oth (by omega))
      have hov := m_isOveri (d := d + 4) hR1 (memTS_MS hg hVk) hg
      rcases ovi_c g (qc Q k) with hv | hv
      · have ho : overs g (qc Q k) := by unfold ovi at hv; split at hv; assumption; omega
        rw [if_pos ho]
        refine ⟨memTS J (mst (qc Q k)), f1.mf, Or.inl ⟨?_, rfl⟩⟩
        clear ho
        simp (disch := omega) only [r212_0, r212_1, r212_2, r212_5, r212_6, r212_7, r212_10, r212_13, r212_14, r212_16, r212_19, r212_20, r212_21, r212_22, r212_25, r212_28, r212_29, r212_30, r212_31, r212_32, r212_35, r212_38, r212_39, r212_40, r212_41, r212_42, r212_43, r212_44, r212_47, r212_48, r212_50, r212_51, r212_52, r212_55, r212_58, r212_59, r212_62, r212_63, r212_64, r212_66, r212_67, r212_69, r212_72, r212_73, r212_76, r212_79, r212_80, r212_81, r212_82, r212_83, r212_86, r212_88, r212_90, r212_93, r212_96, r212_97, r212_99, r212_102, r212_103, r212_105, r212_108, r212_109, r212_112, r212_115, r212_116, r212_117, r212_120, r212_121, r212_124, r212_125, r212_127, r212_130, r212_132, r212_135, r212_138, r212_141, r212_143, r212_145, r212_147, r212_148, r212_151, r212_152, r212_153, r212_156, r212_158, r212_159, r212_160, r212_161, r212_162, r212_165, r212_168, r212_171, r212_174, r212_177, r212_178, ↓if_pos, ↓if_neg, e82, m_takeState, hov, hv, Option.bind_some, pushR_s, pushR_n]
      · have ho : ¬ overs g (qc Q k) := by unfold ovi at hv; split at hv; omega; assumption
        rw [if_neg ho]
        obtain ⟨J2, a, n1, n2, n3⟩ := m_nextAct (d := d + 3) (a := -1) hg hR1 (by omega)
        have hM2 : MQl J2 g Q := hM1.cong (n2 70 18 (by omega)) (fun i => n2 82 i (by omega)) (fun i => n2 81 i (by omega))
        obtain ⟨K, v, k1, k2, k3⟩ := expl_loop (d := d) (x1 := x1) (x2 := (k : Int)) (k := k) x4 hL hg 1024 0 a J2 Q (by omega) (by omega) (by omega) n3 (n2.mf.RG hR1) hM2 hI hkl2
        have hf := f1.mf.trans (n2.mf.trans k2)
        have hlx : k + 1 ≤ (ex g k 1024 0 Q).length := by
          obtain ⟨T, hT⟩ := ex_pre g k 1024 0 Q
          rw [hT, List.length_append]; omega
        obtain ⟨K2, m1, hres⟩ := ih (k + 1) (vI (mst (qc Q k))) (vI v) K (ex g k 1024 0 Q) (by omega) hlx (hf.RG hR) k3 (QI.ex hg 1024 0 Q hI hkl2)
        have hrun : runs (call (d + 7)) 212 50 [vR 70, vI x1, vI k, vI L, vI x4, v5, v6] [] J = runs (call (d + 7)) 212 50 [vR 70, vI x1, vI ((k + 1 : Nat) : Int), vI L, vI x4, vI (mst (qc Q k)), vI v] [] K := by
          have hpre : runs (call (d + 7)) 212 50 [vR 70, vI x1, vI k, vI L, vI x4, v5, v6] [] J = runs (call (d + 7)) 212 88 [vR 70, vI x1, vI k, vI L, vI x4, vI (mst (qc Q k)), vI a] [] J2 := by
            clear ho
            simp (disch := omega) only [r212_0, r212_1, r212_2, r212_5, r212_6, r212_7, r212_10, r212_13, r212_14, r212_16, r212_19, r212_20, r212_21, r212_22, r212_25, r212_28, r212_29, r212_30, r212_31, r212_32, r212_35, r212_38, r212_39, r212_40, r212_41, r212_42, r212_43, r212_44, r212_47, r212_48, r212_50, r212_51, r212_52, r212_55, r212_58, r212_59, r212_62, r212_63, r212_64, r212_66, r212_67, r212_69, r212_72, r212_73, r212_76, r212_79, r212_80, r212_81, r212_82, r212_83, r212_86, r212_90, r212_93, r212_96, r212_97, r212_99, r212_102, r212_103, r212_105, r212_108, r212_109, r212_112, r212_115, r212_116, r212_117, r212_120, r212_121, r212_124, r212_125, r212_127, r212_130, r212_132, r212_135, r212_138, r212_141, r212_143, r212_145, r212_147, r212_148, r212_151, r212_152, r212_153, r212_156, r212_158, r212_159, r212_160, r212_161, r212_162, r212_165, r212_168, r212_171, r212_174, r212_177, r212_178, ↓if_pos, ↓if_neg, e82, m_takeState, hov, hv, n1, Option.bind_some, pushR_s, pushR_n]
          rw [hpre, k1]
          push_cast
          clear ho
          simp (disch := omega) only [r212_0, r212_1, r212_2, r212_5, r212_6, r212_7, r212_10, r212_13, r212_14, r212_16, r212_19, r212_20, r212_21, r212_22, r212_25, r212_28, r212_29, r212_30, r212_31, r212_32, r212_35, r212_38, r212_39, r212_40, r212_41, r212_42, r212_43, r212_44, r212_47, r212_48, r212_51, r212_52, r212_55, r212_58, r212_59, r212_62, r212_63, r212_64, r212_66, r212_67, r212_69, r212_72, r212_73, r212_76, r212_79, r212_80, r212_81, r212_82, r212_83, r212_86, r212_88, r212_90, r212_93, r212_96, r212_97, r212_99, r212_102, r212_103, r212_105, r212_108, r212_109, r212_112, r212_115, r212_116, r212_117, r212_120, r212_121, r212_124, r212_125, r212_127, r212_130, r212_132, r212_135, r212_138, r212_141, r212_143, r212_145, r212_147, r212_148, r212_151, r212_152, r212_153, r212_156, r212_158, r212_159, r212_160, r212_161, r212_162, r212_165, r212_168, r212_171, r212_174, r212_177, r212_178, iadd_eq]
        rw [hrun]
        refine ⟨K2, hf.trans m1, ?_⟩
        rcases hres with h | ⟨w5, w6, h1, h2, h3, h4, h5⟩
        · exact Or.inl h
        · exact Or.inr ⟨w5, w6, h1, h2, h3, h4, by omega⟩
    · rw [if_neg hkl2, if_neg hkl2]
      have hkk : k = Q.length := by omega
      refine ⟨J, MF.refl J, Or.inr ⟨v5, v6, ?_, rfl, hM, hI, hkl⟩⟩
      rw [← hkk]
      simp (disch := omega) only [r212_0, r212_1, r212_2, r212_5, r212_6, r212_7, r212_10, r212_13, r212_14, r212_16, r212_19, r212_20, r212_21, r212_22, r212_25, r212_28, r212_29, r212_30, r212_31, r212_32, r212_35, r212_38, r212_39, r212_40, r212_41, r212_42, r212_43, r212_44, r212_47, r212_48, r212_50, r212_51, r212_52, r212_55, r212_58, r212_59, r212_62, r212_63, r212_64, r212_66, r212_67, r212_69, r212_72, r212_73, r212_76, r212_79, r212_80, r212_81, r212_82, r212_83, r212_86, r212_88, r212_90, r212_93, r212_96, r212_97, r212_99, r212_102, r212_103, r212_105, r212_108, r212_109, r212_112, r212_115, r212_116, r212_117, r212_120, r212_121, r212_124, r212_125, r212_127, r212_130, r212_132, r212_135, r212_138, r212_143, r212_145, r212_147, r212_148, r212_151, r212_152, r212_153, r212_156, r212_158, r212_159, r212_160, r212_161, r212_162, r212_165, r212_168, r212_171, r212_174, r212_177, r212_178, ↓if_pos, ↓if_neg]
/-- leapFrom's inner step -/
theorem ex_next {k : Nat} (hg : WG g) (hw : 0 ≤ w ∧ w < g.nW) (hx : x = 0 ∨ x = 1) : ex g k (1280 - (1024 + 64 * w + 8 * x)).toNat (1024 + 64 * w + 8 * x) Q = ex g k (1280 - (1024 + 64 * w + 8 * x + 1)).toNat (1024 + 64 * w + 8 * x + 1) (stq g k Q (1024 + 64 * w + 8 * x)) :=
  ex_skip (by omega) (by have := hg.nW3; omega) (fun e e0 e1 => by omega)
theorem no_leap {e : Int} (he : 1024 ≤ e ∧ e < 1280) (h : e % 8 ≠ 0 ∨ 2 ≤ e / 8 % 8 ∨ g.nW ≤ e / 64 % 4) : ¬ sucha g e := by
  intro q
  obtain ⟨q1, q2⟩ := q
  have hk : e / 256 = 4 := by omega
  rw [if_pos (Or.inr hk)] at q2
  omega
theorem leapFrom_way {k : Nat} {L : Int} (hg : WG g) (hw : 0 ≤ w ∧ w < g.nW) (hL : 0 ≤ L) : ∀ (r : Nat) (x : Int) (J : MM) (Q : List QE), x + r = 2 → 0 ≤ x → RG J g → MQl J g Q → QI g Q → k < Q.length → ∃ K Q', runs (call (d + 7)) 213 13 [vR 70, vI (mst (qc Q k)), vI L, vI w, vI x] [] J = runs (call (d + 7)) 213 67 [vR 70, vI (mst (qc Q k)), vI L, vI w, vI 2] [] K ∧ MF J K ∧ MQl K g Q' ∧ QI g Q' ∧ k < Q'.length ∧ qc Q' k = qc Q k ∧ ex g k (1280 - (1024 + 64 * w + 8 * x)).toNat (1024 + 64 * w + 8 * x) Q = ex g k (1280 - (1024 + 64 * w + 16)).toNat (1024 + 64 * w + 16) Q' := by
  have hn := hg.nW3
  intro r
  induction r with
  | zero =>
    intro x J Q hr x0 hR hM hI hk
    have : x = 2 := by omega
    subst this
    refine ⟨J, Q, ?_, MF.refl J, hM, hI, hk, rfl, rfl⟩
    simp (disch := omega) only [r213_0, r213_1, r213_2, r213_3, r213_4, r213_7, r213_10, r213_11, r213_13, r213_15, r213_16, r213_19, r213_20, r213_21, r213_24, r213_25, r213_26, r213_29, r213_30, r213_31, r213_34, r213_35, r213_37, r213_40, r213_41, r213_42, r213_45, r213_46, r213_49, r213_52, r213_53, r213_54, r213_57, r213_58, r213_61, r213_64, r213_70, r213_73, ↓if_pos, ↓if_neg]
  | succ r ih =>
    intro x J Q hr x0 hR hM hI hk
    push_cast at hr
    have hx : x = 0 ∨ x = 1 := by omega
    have hVk := hI.1 k hk
    have hmk := mst_b hg hVk
    have f1 := (memTS_fr J (mst (qc Q k))).to8
    have f2 := set4_fr (memTS J (mst (qc Q k))) w x
    have f12 := f1.trans f2
    have hMS : MS (set4 (memTS J (mst (qc Q k))) w x) g (qc Q k) := MS.cong (I := memTS J (mst (qc Q k))) (fun i => by simp [set4, mset_at]) (fun i => by simp [set4, mset_at]) (memTS_MS hg hVk)
    have hAF : AF (set4 (memTS J (mst (qc Q k))) w x) 4 w x 0 := by
      refine ⟨?_, ?_, ?_, ?_⟩ <;> simp [set4, mset_at]
    obtain ⟨J2, t1, t2, t3⟩ := m_tryAct (d := d) (f12.mf.RG hR) hMS hg hVk hAF (by omega) hw.1 x0 (by omega)
    have ho4 : outk g (qc Q k) 4 w x 0 = outc g (qc Q k) (1024 + 64 * w + 8 * x) := by
      unfold outc
      rw [if_pos (by omega), show (1024 + 64 * w + 8 * x) / 256 = 4 by omega, show (1024 + 64 * w + 8 * x) / 64 % 4 = w by omega, show (1024 + 64 * w + 8 * x) / 8 % 8 = x by omega, show (1024 + 64 * w + 8 * x) % 8 = 0 by omega]
    rw [ho4] at t1 t3
    have f3 := f12.mf.trans t2.to8.mf
    have f3' := f12.trans t2.to8
    have hR2 := f3.RG hR
    have hM2 : MQl J2 g Q := hM.cong (f3' 70 18 (by omega) (by omega) (by omega) (by omega) (by omega)) (f3'.oth (by omega)) (f3'.oth (by omega))
    rw [ex_next hg hw hx]
    have hgap : ∀ Q2 : List QE, ex g k (1280 - (1024 + 64 * w + 8 * x + 1)).toNat (1024 + 64 * w + 8 * x + 1) Q2 = ex g k (1280 - (1024 + 64 * w + 8 * (x + 1))).toNat (1024 + 64 * w + 8 * (x + 1)) Q2 := fun Q2 => by
      have e1 : (1280 - (1024 + 64 * w + 8 * x + 1)).toNat = 7 + (1280 - (1024 + 64 * w + 8 * (x + 1))).toNat := by omega
      rw [e1, ex_add, ex_no 7 _ (fun e e0 e1 => by rw [outc_no (no_leap (by omega) (Or.inl (by omega)))]; omega)]
      congr 1; omega
    rw [hgap]
    by_cases ho : outc g (qc Q k) (1024 + 64 * w + 8 * x) < 0
    · have hr2 : rso (outc g (qc Q k) (1024 + 64 * w + 8 * x)) ≠ 0 := by rw [rso, if_pos ho]; omega
      rw [stq_no ho]
      obtain ⟨K, Q', k1, k2, k3⟩ := ih (x + 1) J2 Q (by omega) (by omega) hR2 hM2 hI hk
      refine ⟨K, Q', Eq.trans ?_ k1, f3.trans k2, k3⟩
      rw [r213_13]
      have e4 : mset (mset (mset (mset (memTS J (mst (qc Q k))) 70 9 4) 70 10 w) 70 11 x) 70 12 0 = set4 (memTS J (mst (qc Q k))) w x := rfl
      simp (disch := omega) only [r213_0, r213_1, r213_2, r213_3, r213_4, r213_7, r213_10, r213_11, r213_15, r213_16, r213_19, r213_20, r213_21, r213_24, r213_25, r213_26, r213_29, r213_30, r213_31, r213_34, r213_35, r213_37, r213_40, r213_41, r213_42, r213_45, r213_46, r213_49, r213_52, r213_53, r213_54, r213_57, r213_58, r213_61, r213_64, r213_67, r213_70, r213_73, ↓if_pos, ↓if_neg, m_takeState, e4, t1, iadd_eq, Option.bind_some, pushR_s, pushR_n]
    · have hr2 : rso (outc g (qc Q k) (1024 + 64 * w + 8 * x)) = 0 := by rw [rso, if_neg ho]
      have hVo := vc_outc hg hVk (a := 1024 + 64 * w + 8 * x) (by omega)
      rw [sto, if_neg ho] at t3
      have hst := m_stateNow (d := d + 5) hR2 t3 hg hVo
      obtain ⟨J3, c1, c2, c3⟩ := m_come_l (d := d + 6) (a := 1024 + 64 * w + 8 * x) (x := L) hM2 hg hI hk (by omega) hL
      obtain ⟨s1, s2, s3⟩ := stq_qd (g := g) (a := 1024 + 64 * w + 8 * x) hk
      obtain ⟨K, Q', k1, k2, k3, k4, k5, k6, k7⟩ := ih (x + 1) J3 (stq g k Q (1024 + 64 * w + 8 * x)) (by omega) (by omega) (c2.RG hR2) c3 (hI.add1 hg hk) s3
      rw [s2] at k1 k6
      refine ⟨K, Q', Eq.trans ?_ k1, f3.trans (c2.trans k2), k3, k4, k5, k6, k7⟩
      rw [r213_13]
      have e4 : mset (mset (mset (mset (memTS J (mst (qc Q k))) 70 9 4) 70 10 w) 70 11 x) 70 12 0 = set4 (memTS J (mst (qc Q k))) w x := rfl
      simp (disch := omega) only [r213_0, r213_1, r213_2, r213_3, r213_4, r213_7, r213_10, r213_11, r213_15, r213_16, r213_19, r213_20, r213_21, r213_24, r213_25, r213_26, r213_29, r213_30, r213_31, r213_34, r213_35, r213_37, r213_40, r213_41, r213_42, r213_45, r213_46, r213_49, r213_52, r213_53, r213_54, r213_57, r213_58, r213_61, r213_64, r213_67, r213_70, r213_73, ↓if_pos, ↓if_neg, m_takeState, e4, t1, hst, c1, iadd_eq, Option.bind_some, pushR_s, pushR_n]
end
