/-! The model's search for the fewest acts. -/
def DQ (Q : List QE) : Prop := ∀ i : Nat, i < Q.length → 0 ≤ qd Q i ∧ qd Q i ≤ i
theorem DQ.add1 {g : G} {k : Nat} {Q : List QE} {a : Int} (h : DQ Q) (hk : k < Q.length) : DQ (stq g k Q a) := by
  unfold stq; split
  · intro i i1
    rw [List.length_append, List.length_singleton] at i1
    rcases Nat.lt_or_ge i Q.length with h1 | h1
    · rw [qd_app h1]; exact h i h1
    · have : i = Q.length := by omega
      subst this
      rw [qd, nth_last]
      have := h k hk
      show 0 ≤ qd Q k + 1 ∧ qd Q k + 1 ≤ (Q.length : Int)
      omega
  · exact h
theorem DQ.ex {g : G} {k : Nat} : ∀ (n : Nat) (a : Int) (Q : List QE), DQ Q → k < Q.length → DQ (ex g k n a Q) := by
  intro n
  induction n with
  | zero => intro a Q h _; exact h
  | succ n ih =>
    intro a Q h hk
    exact ih (a + 1) _ (h.add1 hk) (stq_qd hk).2.2
section
variable {d : Nat} {I J K : MM} {s : ST} {g : G} {a c w x y b p v i m f : Int} {Q : List QE}
theorem m_begin (hg : WG g) (hV : VC g c) : ∃ K, call (d + 1) 202 [vR 70, vI (mst c)] I = some (none, K) ∧ MF I K ∧ MQu K g (Q0 c) := by
  have hb := mst_b hg hV
  obtain ⟨K, k1, k2, k3⟩ := begin_loop (d := d) (mst c) 73728 0 I (by omega) (by omega) (fun j j0 j1 => by omega)
  refine ⟨mset (mset (mset K 82 0 (mst c)) 81 (mst c) 0) 70 18 1, ?_, ⟨fun a i q => ?_, fun i q => ?_⟩, ?_, ?_, ?_⟩
  · rw [en202]
    simp (disch := omega) only [r202_0, r202_1, r202_3, r202_5, r202_8, r202_9, r202_12, r202_13, r202_14, r202_15, r202_18, r202_21, r202_22, r202_25, r202_26, r202_27, r202_28, r202_29, r202_32, r202_33, r202_34, r202_35, r202_36, r202_37, r202_40]
    rw [k1]
    simp (disch := omega) only [r202_0, r202_1, r202_2, r202_3, r202_5, r202_8, r202_9, r202_12, r202_13, r202_14, r202_15, r202_18, r202_21, r202_22, r202_25, r202_26, r202_27, r202_28, r202_29, r202_32, r202_33, r202_34, r202_35, r202_36, r202_37, r202_40, ↓if_pos]
  · rw [mset_at, if_neg (by omega), mset_at, if_neg (by omega), mset_at, if_neg (by omega), k3 a (by omega)]
  · rw [mset_at, if_neg (by omega), mset_at, if_neg (by omega), mset_at, if_neg (by omega), k3 70 (by omega)]
  · rw [mset_at, if_pos ⟨rfl, rfl⟩]; rfl
  · intro i hi
    have : i = 0 := by have : i < 1 := hi; omega
    subst this
    refine ⟨?_, ?_⟩
    · rw [mset_at, if_neg (by omega), mset_at, if_neg (by omega), mset_at, if_pos ⟨rfl, rfl⟩]; rfl
    · rw [mset_at, if_neg (by omega), mset_at, if_pos ⟨rfl, rfl⟩]; rfl
  · intro e he hn
    have hne : mst e ≠ mst c := fun q => hn (by have := mst_inj hg he hV q; subst this; simp [Q0])
    have := mst_b hg he
    rw [mset_at, if_neg (by omega), mset_at, if_neg (fun q => hne q.2), mset_at, if_neg (by omega)]
    exact k2 _ this.1 this.2
theorem m_come_in (hQ : MQu I g Q) (hD : DQ Q) (hg : WG g) (hI : QI g Q) (hn : inQ Q c) : call (d + 1) 204 [vR 70, vI (mst c), vI x] I = some (none, I) := by
  obtain ⟨i, hi, rfl⟩ := inQ_iff.mp hn
  have hb := mst_b hg (hI.1 i hi)
  have e := (hQ.2.1 i hi).2; have := hD i hi
  rw [en204]
  simp (disch := omega) only [r204_0, r204_1, r204_4, r204_5, r204_6, r204_7, r204_10, r204_11, r204_14, r204_15, r204_16, r204_17, r204_18, r204_21, r204_22, r204_25, r204_26, r204_27, r204_28, r204_29, r204_32, r204_33, r204_34, r204_37, ↓if_pos, ↓if_neg]
theorem m_come_new {e : QE} (hQ : MQu I g Q) (hg : WG g) (hI : QI g Q) (hV : VC g c) (hn : ¬ inQ Q c) (he : e.1 = c ∧ e.2.1 = x) : ∃ K, call (d + 1) 204 [vR 70, vI (mst c), vI x] I = some (none, K) ∧ MF I K ∧ MQu K g (Q ++ [e]) ∧ (∀ i, K 77 i = I 77 i) := by
  have hb := mst_b hg hV; have hl := hI.mlen hg hV hn
  have e0 := hQ.2.2 c hV hn; have e18 := hQ.1
  refine ⟨mset (mset (mset I 81 (mst c) x) 82 Q.length (mst c)) 70 18 (Q.length + 1), ?_, ⟨fun a i q => ?_, fun i q => ?_⟩, ⟨?_, ?_, ?_⟩, fun i => ?_⟩
  · rw [en204]
    simp (disch := omega) only [r204_0, r204_1, r204_4, r204_5, r204_6, r204_7, r204_10, r204_11, r204_14, r204_15, r204_16, r204_17, r204_18, r204_21, r204_22, r204_25, r204_26, r204_27, r204_28, r204_29, r204_32, r204_33, r204_34, r204_37, ↓if_pos, ↓if_neg, e18, iadd_eq, mset_at]
  · rw [mset_at, if_neg (by omega), mset_at, if_neg (by omega), mset_at, if_neg (by omega)]
  · rw [mset_at, if_neg (by omega), mset_at, if_neg (by omega), mset_at, if_neg (by omega)]
  · rw [mset_at, if_pos ⟨rfl, rfl⟩, List.length_append]; simp
  · intro i hi
    rw [List.length_append, List.length_singleton] at hi
    rcases Nat.lt_or_ge i Q.length with h1 | h1
    · have hne : mst (qc Q i) ≠ mst c := fun q => hn (inQ_iff.mpr ⟨i, h1, mst_inj hg (hI.1 i h1) hV q⟩)
      rw [qc_app h1, qd_app h1]
      refine ⟨?_, ?_⟩
      · rw [mset_at, if_neg (by omega), mset_at, if_neg (by omega), mset_at, if_neg (by omega)]; exact (hQ.2.1 i h1).1
      · rw [mset_at, if_neg (by omega), mset_at, if_neg (by omega), mset_at, if_neg (fun q => hne q.2)]; exact (hQ.2.1 i h1).2
    · have : i = Q.length := by omega
      subst this
      have q1 : qc (Q ++ [e]) Q.length = c := by rw [qc, nth_last]; exact he.1
      have q2 : qd (Q ++ [e]) Q.length = x := by rw [qd, nth_last]; exact he.2
      rw [q1, q2]
      refine ⟨?_, ?_⟩
      · rw [mset_at, if_neg (by omega), mset_at, if_pos ⟨rfl, rfl⟩]
      · rw [mset_at, if_neg (by omega), mset_at, if_neg (by omega), mset_at, if_pos ⟨rfl, rfl⟩]
  · intro t ht hnt
    have h1 : ¬ inQ Q t ∧ t ≠ c := by
      constructor
      · exact fun q => hnt (by unfold inQ at *; rw [List.map_append, List.mem_append]; exact Or.inl q)
      · exact fun q => hnt (by unfold inQ; rw [List.map_append, List.mem_append]; right; simp [q, he.1])
    have hne : mst t ≠ mst c := fun q => h1.2 (mst_inj hg ht hV q)
    rw [mset_at, if_neg (by omega), mset_at, if_neg (by omega), mset_at, if_neg (fun q => hne q.2)]
    exact hQ.2.2 t ht h1.1
  · rw [mset_at, if_neg (by omega), mset_at, if_neg (by omega), mset_at, if_neg (by omega)]
/-- the loop over a state's acts -/
theorem exp_loop {k : Nat} (hg : WG g) : ∀ (n : Nat) (b a : Int) (J : MM) (Q : List QE), 1024 - b ≤ n → 0 ≤ b → b ≤ 1024 → nxA g b a → RG J g → MQu J g Q → QI g Q → DQ Q → k < Q.length → ∃ K v, runs (call (d + 7)) 203 48 [vR 70, vI x, vI k, vI (mst (qc Q k)), vI a] [] J = runs (call (d + 7)) 203 101 [vR 70, vI x, vI k, vI (mst (qc Q k)), vI v] [] K ∧ MF J K ∧ MQu K g (ex g k (1024 - b).toNat b Q) := by
  intro n
  induction n with
  | zero =>
    intro b a J Q hn b0 b1 hx hR hM hI hD hk
    have : b = 1024 := by omega
    subst this
    have ha : a = 2048 := by rcases hx with h | h; exact h.1; omega
    subst ha
    refine ⟨J, 2048, ?_, MF.refl J, hM⟩
    simp (disch := omega) only [r203_0, r203_1, r203_2, r203_5, r203_6, r203_7, r203_8, r203_9, r203_12, r203_15, r203_16, r203_19, r203_20, r203_21, r203_22, r203_23, r203_24, r203_27, r203_28, r203_31, r203_34, r203_35, r203_38, r203_39, r203_40, r203_41, r203_42, r203_43, r203_46, r203_48, r203_50, r203_53, r203_56, r203_57, r203_58, r203_61, r203_62, r203_64, r203_67, r203_68, r203_71, r203_74, r203_75, r203_76, r203_79, r203_80, r203_83, r203_84, r203_85, r203_86, r203_87, r203_90, r203_91, r203_93, r203_96, r203_98, r203_104, r203_107, r203_108, ↓if_pos, ↓if_neg]
  | succ n ih =>
    intro b a J Q hn b0 b1 hx hR hM hI hD hk
    push_cast at hn
    rcases hx with ⟨rfl, hno⟩ | ⟨ha0, ha1, hs, hno⟩
    · refine ⟨J, 2048, ?_, MF.refl J, by rw [ex_end hno]; exact hM⟩
      simp (disch := omega) only [r203_0, r203_1, r203_2, r203_5, r203_6, r203_7, r203_8, r203_9, r203_12, r203_15, r203_16, r203_19, r203_20, r203_21, r203_22, r203_23, r203_24, r203_27, r203_28, r203_31, r203_34, r203_35, r203_38, r203_39, r203_40, r203_41, r203_42, r203_43, r203_46, r203_48, r203_50, r203_53, r203_56, r203_57, r203_58, r203_61, r203_62, r203_64, r203_67, r203_68, r203_71, r203_74, r203_75, r203_76, r203_79, r203_80, r203_83, r203_84, r203_85, r203_86, r203_87, r203_90, r203_91, r203_93, r203_96, r203_98, r203_104, r203_107, r203_108, ↓if_pos, ↓if_neg]
    · rw [ex_skip ha0 ha1 hno]
      have hVk := hI.1 k hk
      have hmk := mst_b hg hVk
      have f1 := (memTS_fr J (mst (qc Q k))).to8
      obtain ⟨J2, t1, t2, t3⟩ := m_splitTry (d := d) (a := a) (hR.cong (f1.oth (by omega))) (memTS_MS hg hVk) hg hVk (by omega)
      have f2 := f1.mf.trans t2.mf
      have hR2 := f2.RG hR
      have hM2 : MQu J2 g Q := hM.cong ((f1.trans t2) 70 18 (by omega) (by omega) (by omega) (by omega) (by omega)) ((f1.trans t2).oth (by omega)) ((f1.trans t2).oth (by omega))
      by_cases ho : outc g (qc Q k) a < 0
      · have hr : rso (outc g (qc Q k) a) ≠ 0 := by rw [rso, if_pos ho]; omega
        obtain ⟨J3, a', n1, n2, n3⟩ := m_nextAct (d := d + 3) (a := a) hg hR2 (by omega)
        have hM3 : MQu J3 g Q := hM2.cong (n2 70 18 (by omega)) (fun i => n2 82 i (by omega)) (fun i => n2 81 i (by omega))
        rw [stq_no ho]
        obtain ⟨K, v, k1, k2, k3⟩ := ih (a + 1) a' J3 Q (by omega) (by omega) (by omega) n3 (n2.mf.RG hR2) hM3 hI hD hk
        refine ⟨K, v, Eq.trans ?_ k1, f2.trans (n2.mf.trans k2), k3⟩
        rw [r203_48]
        clear hno hs
        simp (disch := omega) only [r203_0, r203_1, r203_2, r203_5, r203_6, r203_7, r203_8, r203_9, r203_12, r203_15, r203_16, r203_19, r203_20, r203_21, r203_22, r203_23, r203_24, r203_27, r203_28, r203_31, r203_34, r203_35, r203_38, r203_39, r203_40, r203_41, r203_42, r203_43, r203_46, r203_50, r203_53, r203_56, r203_57, r203_58, r203_61, r203_62, r203_64, r203_67, r203_68, r203_71, r203_74, r203_75, r203_76, r203_79, r203_80, r203_83, r203_84, r203_85, r203_86, r203_87, r203_90, r203_91, r203_93, r203_96, r203_98, r203_104, r203_107, r203_108, ↓if_pos, ↓if_neg, m_takeState, m_split, t1, n1, Option.bind_some, pushR_s, pushR_n]
      · have hr : rso (outc g (qc Q k) a) = 0 := by rw [rso, if_neg ho]
        have hVo := vc_outc hg hVk (a := a) (by omega)
        rw [sto, if_neg ho] at t3
        have hst := m_stateNow (d := d + 5) hR2 t3 hg hVo
        have e81 := (hM2.2.1 k hk).2
        have hdk := hD k hk
        have hlk := hI.mlen' hg
        -- come
        have hcome : ∃ J3, call (d + 7) 204 [vR 70, vI (mst (outc g (qc Q k) a)), vI (qd Q k + 1)] J2 = some (none, J3) ∧ MF J2 J3 ∧ MQu J3 g (stq g k Q a) := by
          by_cases hq : inQ Q (outc g (qc Q k) a)
          · exact ⟨J2, m_come_in hM2 hD hg hI hq, MF.refl _, by unfold stq; rw [if_neg (fun q => q.2 hq)]; exact hM2⟩
          · obtain ⟨J3, c1, c2, c3, -⟩ := m_come_new (d := d + 6) (e := (outc g (qc Q k) a, qd Q k + 1, (k : Int), a)) hM2 hg hI hVo hq ⟨rfl, rfl⟩
            exact ⟨J3, c1, c2, by unfold stq; rw [if_pos ⟨by omega, hq⟩]; exact c3⟩
        obtain ⟨J3, c1, c2, c3⟩ := hcome
        have hR3 := c2.RG hR2
        obtain ⟨J4, a', n1, n2, n3⟩ := m_nextAct (d := d + 3) (a := a) hg hR3 (by omega)
        have hM4 : MQu J4 g (stq g k Q a) := c3.cong (n2 70 18 (by omega)) (fun i => n2 82 i (by omega)) (fun i => n2 81 i (by omega))
        obtain ⟨s1, s2, s3⟩ := stq_qd (g := g) (a := a) hk
        obtain ⟨K, v, k1, k2, k3⟩ := ih (a + 1) a' J4 (stq g k Q a) (by omega) (by omega) (by omega) n3 (n2.mf.RG hR3) hM4 (hI.add1 hg hk) (hD.add1 hk) s3
        rw [s2] at k1
        refine ⟨K, v, Eq.trans ?_ k1, f2.trans (c2.trans (n2.mf.trans k2)), k3⟩
        rw [r203_48]
        clear hno hs
        simp (disch := omega) only [r203_0, r203_1, r203_2, r203_5, r203_6, r203_7, r203_8, r203_9, r203_12, r203_15, r203_16, r203_19, r203_20, r203_21, r203_22, r203_23, r203_24, r203_27, r203_28, r203_31, r203_34, r203_35, r203_38, r203_39, r203_40, r203_41, r203_42, r203_43, r203_46, r203_50, r203_53, r203_56, r203_57, r203_58, r203_61, r203_62, r203_64, r203_67, r203_68, r203_71, r203_74, r203_75, r203_76, r203_79, r203_80, r203_83, r203_84, r203_85, r203_86, r203_87, r203_90, r203_91, r203_93, r203_96, r203_98, r203_104, r203_107, r203_108, ↓if_pos, ↓if_neg, m_takeState, m_split, t1, hst, e81, iadd_eq, c1, n1, Option.bind_some, pushR_s, pushR_n]
def EndM (g : G) (c : Int) (K : MM) (r : Int) : Prop := ∃ kk : Nat, MQu K g (fq g kk (Q0 c)) ∧ QI g (fq g kk (Q0 c)) ∧ DQ (fq g kk (Q0 c)) ∧ (∀ j, j < kk → j < (fq g j (Q0 c)).length ∧ ¬ overs g (qc (fq g kk (Q0 c)) j)) ∧ ((r = -1 ∧ kk = (fq g kk (Q0 c)).length) ∨ (kk < (fq g kk (Q0 c)).length ∧ overs g (qc (fq g kk (Q0 c)) kk) ∧ r = qd (fq g kk (Q0 c)) kk))
theorem few_loop (hg : WG g) : ∀ (n k : Nat) (v3 v4 : AV) (J : MM) (Q : List QE), k + n = 131073 → Q = fq g k (Q0 c) → RG J g → MQu J g Q → QI g Q → DQ Q → (∀ j, j < k → j < (fq g j (Q0 c)).length ∧ ¬ overs g (qc Q j)) → ∃ K, runs (call (d + 7)) 203 7 [vR 70, vI x, vI k, v3, v4] [] J = some (some (vI (fwr g n k Q)), K) ∧ MF J K ∧ EndM g c K (fwr g n k Q) := by
  intro n
  induction n with
  | zero =>
    intro k v3 v4 J Q hk hQ hR hM hI hD hN
    have hlen := hI.len
    have h0 := (hN 131072 (by omega)).1
    have h1 := fq_len g (Q0 c) (show 131072 ≤ k by omega)
    rw [← hQ] at h1
    omega
  | succ n ih =>
    intro k v3 v4 J Q hk hQ hR hM hI hD hN
    have hlen := hI.mlen' hg
    have e18 := hM.1
    rw [fwr]
    by_cases hkl : k < Q.length
    · rw [if_pos hkl]
      have hVk := hI.1 k hkl
      have hmk := mst_b hg hVk
      obtain ⟨e82, e81⟩ := hM.2.1 k hkl
      have f1 := (memTS_fr J (mst (qc Q k))).to8
      have hR1 := f1.mf.RG hR
      have hM1 : MQu (memTS J (mst (qc Q k))) g Q := hM.cong (f1 70 18 (by omega) (by omega) (by omega) (by omega) (by omega)) (f1.oth (by omega)) (f1.oth (by omega))
      have hov := m_isOveri (d := d + 4) hR1 (memTS_MS hg hVk) hg
      rcases ovi_c g (qc Q k) with hv | hv
      · have ho : overs g (qc Q k) := by unfold ovi at hv; split at hv; assumption; omega
        rw [if_pos ho]
        have e81' := (hM1.2.1 k hkl).2
        refine ⟨memTS J (mst (qc Q k)), ?_, f1.mf, k, by rw [← hQ]; exact hM1, by rw [← hQ]; exact hI, by rw [← hQ]; exact hD, by rw [← hQ]; exact hN, Or.inr ⟨by rw [← hQ]; exact hkl, by rw [← hQ]; exact ho, by rw [← hQ]⟩⟩
        clear ho hN
        simp (disch := omega) only [r203_0, r203_1, r203_2, r203_5, r203_6, r203_7, r203_8, r203_9, r203_12, r203_15, r203_16, r203_19, r203_20, r203_21, r203_22, r203_23, r203_24, r203_27, r203_28, r203_31, r203_34, r203_35, r203_38, r203_39, r203_40, r203_41, r203_42, r203_43, r203_46, r203_48, r203_50, r203_53, r203_56, r203_57, r203_58, r203_61, r203_62, r203_64, r203_67, r203_68, r203_71, r203_74, r203_75, r203_76, r203_79, r203_80, r203_83, r203_84, r203_85, r203_86, r203_87, r203_90, r203_91, r203_93, r203_96, r203_98, r203_101, r203_104, r203_107, r203_108, ↓if_pos, ↓if_neg, e82, m_takeState, hov, hv, e81', Option.bind_some, pushR_s, pushR_n]
      · have ho : ¬ overs g (qc Q k) := by unfold ovi at hv; split at hv; omega; assumption
        rw [if_neg ho]
        obtain ⟨J2, a, n1, n2, n3⟩ := m_nextAct (d := d + 3) (a := -1) hg hR1 (by omega)
        have hM2 : MQu J2 g Q := hM1.cong (n2 70 18 (by omega)) (fun i => n2 82 i (by omega)) (fun i => n2 81 i (by omega))
        obtain ⟨K, v, k1, k2, k3⟩ := exp_loop (d := d) (x := x) (k := k) hg 1024 0 a J2 Q (by omega) (by omega) (by omega) n3 (n2.mf.RG hR1) hM2 hI hD hkl
        have hf := f1.mf.trans (n2.mf.trans k2)
        obtain ⟨L, l1, l2, l3⟩ := ih (k + 1) (vI (mst (qc Q k))) (vI v) K (ex g k 1024 0 Q) (by omega) (by rw [hQ]; rfl) (hf.RG hR) k3 (QI.ex hg 1024 0 Q hI hkl) (DQ.ex 1024 0 Q hD hkl) (fun j hj => by
          obtain ⟨T, hT⟩ := ex_pre g k 1024 0 Q
          rw [hT]
          rcases Nat.lt_or_ge j k with h | h
          · have := hN j h
            have h1 := fq_len g (Q0 c) (show j ≤ k by omega)
            rw [← hQ] at h1
            exact ⟨this.1, by rw [qc_app (by omega)]; exact this.2⟩
          · have : j = k := by omega
            subst this
            exact ⟨by rw [← hQ]; exact hkl, by rw [qc_app hkl]; exact ho⟩)
        refine ⟨L, ?_, hf.trans l2, l3⟩
        rw [← l1]
        have hpre : runs (call (d + 7)) 203 7 [vR 70, vI x, vI k, v3, v4] [] J = runs (call (d + 7)) 203 48 [vR 70, vI x, vI k, vI (mst (qc Q k)), vI a] [] J2 := by
          clear ho hN
          simp (disch := omega) only [r203_0, r203_1, r203_2, r203_5, r203_6, r203_7, r203_8, r203_9, r203_12, r203_15, r203_16, r203_19, r203_20, r203_21, r203_22, r203_23, r203_24, r203_27, r203_28, r203_31, r203_34, r203_35, r203_38, r203_39, r203_40, r203_41, r203_42, r203_43, r203_46, r203_50, r203_53, r203_56, r203_57, r203_58, r203_61, r203_62, r203_64, r203_67, r203_68, r203_71, r203_74, r203_75, r203_76, r203_79, r203_80, r203_83, r203_84, r203_85, r203_86, r203_87, r203_90, r203_91, r203_93, r203_96, r203_98, r203_101, r203_104, r203_107, r203_108, ↓if_pos, ↓if_neg, e82, m_takeState, hov, hv, n1, Option.bind_some, pushR_s, pushR_n]
        rw [hpre, k1]
        push_cast
        clear ho hN
        simp (disch := omega) only [r203_0, r203_1, r203_2, r203_5, r203_6, r203_8, r203_9, r203_12, r203_15, r203_16, r203_19, r203_20, r203_21, r203_22, r203_23, r203_24, r203_27, r203_28, r203_31, r203_34, r203_35, r203_38, r203_39, r203_40, r203_41, r203_42, r203_43, r203_46, r203_48, r203_50, r203_53, r203_56, r203_57, r203_58, r203_61, r203_62, r203_64, r203_67, r203_68, r203_71, r203_74, r203_75, r203_76, r203_79, r203_80, r203_83, r203_84, r203_85, r203_86, r203_87, r203_90, r203_91, r203_93, r203_96, r203_98, r203_101, r203_104, r203_107, r203_108, iadd_eq]
    · rw [if_neg hkl]
      have hkk : k = Q.length := by
        rcases Nat.eq_zero_or_pos k with h | h
        · omega
        · have := (hN (k - 1) (by omega)).1
          have h1 := fq_len g (Q0 c) (show k - 1 ≤ k by omega)
          rw [← hQ] at h1
          omega
      refine ⟨J, ?_, MF.refl J, k, by rw [← hQ]; exact hM, by rw [← hQ]; exact hI, by rw [← hQ]; exact hD, by rw [← hQ]; exact hN, Or.inl ⟨rfl, by rw [← hQ]; exact hkk⟩⟩
      clear hN
      simp (disch := omega) only [r203_0, r203_1, r203_2, r203_5, r203_6, r203_7, r203_8, r203_9, r203_12, r203_15, r203_16, r203_19, r203_20, r203_21, r203_22, r203_23, r203_24, r203_27, r203_28, r203_31, r203_34, r203_35, r203_38, r203_39, r203_40, r203_41, r203_42, r203_43, r203_46, r203_48, r203_50, r203_53, r203_56, r203_57, r203_58, r203_61, r203_62, r203_64, r203_67, r203_68, r203_71, r203_74, r203_75, r203_76, r203_79, r203_80, r203_83, r203_84, r203_85, r203_86, r203_87, r203_90, r203_91, r203_93, r203_96, r203_98, r203_101, r203_104, r203_107, r203_108, ↓if_pos, ↓if_neg]
theorem m_findFewest (hg : WG g) (hR : RG I g) (hV : VC g c) : ∃ K, call (d + 8) 203 [vR 70, vI (mst c)] I = some (some (vI (fw g c)), K) ∧ MF I K ∧ EndM g c K (fw g c) := by
  obtain ⟨J, b1, b2, b3⟩ := m_begin (d := d + 6) (I := I) hg hV
  obtain ⟨K, k1, k2, k3⟩ := few_loop (d := d) (c := c) (x := mst c) hg 131073 0 (vR 0) (vR 0) J (Q0 c) (by omega) rfl (b2.RG hR) b3 ⟨fun i hi => by
    have : i = 0 := by have : i < 1 := hi; omega
    subst this; exact hV, by simp [Q0]⟩ (fun i hi => by
    have : i = 0 := by have : i < 1 := hi; omega
    subst this; simp [qd, nth, Q0]) (fun j hj => by omega)
  refine ⟨K, ?_, b2.trans k2, k3⟩
  rw [en203, fw, ← k1]
  simp (disch := omega) only [r203_0, r203_1, r203_2, r203_5, r203_6, r203_8, r203_9, r203_12, r203_15, r203_16, r203_19, r203_20, r203_21, r203_22, r203_23, r203_24, r203_27, r203_28, r203_31, r203_34, r203_35, r203_38, r203_39, r203_40, r203_41, r203_42, r203_43, r203_46, r203_48, r203_50, r203_53, r203_56, r203_57, r203_58, r203_61, r203_62, r203_64, r203_67, r203_68, r203_71, r203_74, r203_75, r203_76, r203_79, r203_80, r203_83, r203_84, r203_85, r203_86, r203_87, r203_90, r203_91, r203_93, r203_96, r203_98, r203_101, r203_104, r203_107, r203_108, b1, Option.bind_some, pushR_n, Int.natCast_zero]
end
