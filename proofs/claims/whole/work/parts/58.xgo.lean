/-! The class's search: begin, enter, listActs, goOn. -/
def SQ (I : MM) (m : Int) (Q : List QE) : Prop := I 27 5 = m ∧ I 27 6 = (Q.length : Int) ∧ (∀ i : Nat, i < Q.length → I 29 (i : Int) = qc Q i) ∧ (∀ c, 0 ≤ c → c < 131072 → (I 28 c = m ↔ inQ Q c)) ∧ (∀ c, 0 ≤ c → c < 131072 → I 28 c ≤ m)
def CF (I : MM) (Q : List QE) : Prop := ∀ i : Nat, 0 < i → i < Q.length → I 30 (qc Q i) = qc Q (qp Q i).toNat * 1024 + qa Q i
def NO (g : G) (Q : List QE) : Prop := ∀ i, i < Q.length → ¬ overs g (qc Q i)
/-- parents stand before, acts are plain -/
def PQ (Q : List QE) : Prop := ∀ i, 0 < i → i < Q.length → 0 ≤ qp Q i ∧ qp Q i < i
abbrev sucha (g : G) (a : Int) : Prop := such g (a / 256) (a / 64 % 4) (a / 8 % 8) (a % 8)
def AL (I : MM) (g : G) (lo hi : Int) : Prop := (0 ≤ I 27 4 ∧ I 27 4 ≤ 64) ∧ (∀ i, 0 ≤ i → i < I 27 4 → lo ≤ I 31 i ∧ I 31 i < hi) ∧ (∀ i j, 0 ≤ i → i < j → j < I 27 4 → I 31 i < I 31 j) ∧ (∀ a, lo ≤ a → a < hi → sucha g a → ∃ i, 0 ≤ i ∧ i < I 27 4 ∧ I 31 i = a)
theorem outc_no {g : G} {c a : Int} (h : ¬ sucha g a) : outc g c a = -1 := by
  unfold outc; split
  · exact outk_n h
  · rfl
theorem ex_end {g : G} {k : Nat} {Q : List QE} {b hi : Int} (hn : ∀ e, b ≤ e → e < hi → ¬ sucha g e) : ex g k (hi - b).toNat b Q = Q :=
  ex_no _ _ (fun e e0 e1 => by rw [outc_no (hn e e0 (by omega))]; omega)
theorem ex_skip {g : G} {k : Nat} {Q : List QE} {b a hi : Int} (h1 : b ≤ a) (h2 : a < hi) (hn : ∀ e, b ≤ e → e < a → ¬ sucha g e) : ex g k (hi - b).toNat b Q = ex g k (hi - (a + 1)).toNat (a + 1) (stq g k Q a) := by
  have e1 : (hi - b).toNat = (a - b).toNat + ((hi - (a + 1)).toNat + 1) := by omega
  rw [e1, ex_add, ex_end hn, show b + ((a - b).toNat : Int) = a by omega, ex]
theorem row_code {c a : Int} (hc : 0 ≤ c ∧ c < 131072) (ha : 0 ≤ a ∧ a < 1024) : ior (ishl c 10) a = c * 1024 + a := by
  obtain ⟨n, rfl⟩ : ∃ k : Nat, c = k := ⟨c.toNat, (Int.toNat_of_nonneg hc.1).symm⟩
  obtain ⟨b, rfl⟩ : ∃ k : Nat, a = k := ⟨a.toNat, (Int.toNat_of_nonneg ha.1).symm⟩
  have e1 : ishl (n : Int) 10 = ((n * 2 ^ 10 : Nat) : Int) := ishl_n (k := 10) (by omega) (by omega)
  rw [e1, ior_c (by omega) (by omega)]
  have e2 : n * 2 ^ 10 ||| b = n * 2 ^ 10 + b := by
    rw [← Nat.shiftLeft_eq, ← Nat.shiftLeft_add_eq_or_of_lt (by omega)]
  rw [e2]
  have e3 : n * 2 ^ 10 = n * 1024 := rfl
  omega
theorem SQ.m {I : MM} {m : Int} {Q : List QE} (h : SQ I m Q) : I 27 5 = m := h.1
theorem SQ.n {I : MM} {m : Int} {Q : List QE} (h : SQ I m Q) : I 27 6 = (Q.length : Int) := h.2.1
theorem SQ.cong {I J : MM} {m : Int} {Q : List QE} (h : SQ I m Q) (e5 : J 27 5 = I 27 5) (e6 : J 27 6 = I 27 6) (e28 : ∀ i, J 28 i = I 28 i) (e29 : ∀ i, J 29 i = I 29 i) : SQ J m Q :=
  ⟨e5.trans h.1, e6.trans h.2.1, fun i hi => (e29 _).trans (h.2.2.1 i hi), fun c c0 c1 => by rw [e28]; exact h.2.2.2.1 c c0 c1, fun c c0 c1 => by rw [e28]; exact h.2.2.2.2 c c0 c1⟩
def memE (I : MM) (m : Int) (n c : Int) : MM := mset (mset (mset I 28 c m) 29 n c) 27 6 (n + 1)
theorem memE_SQ {I : MM} {m c : Int} {Q : List QE} {e : QE} (h : SQ I m Q) (he : e.1 = c) (hn : ¬ inQ Q c) : SQ (memE I m Q.length c) m (Q ++ [e]) := by
  refine ⟨?_, ?_, ?_, ?_, ?_⟩
  · rw [memE, mset_at, if_neg (by omega), mset_at, if_neg (by omega), mset_at, if_neg (by omega)]; exact h.1
  · rw [memE, mset_at, if_pos ⟨rfl, rfl⟩, List.length_append]; simp
  · intro i hi
    rw [List.length_append, List.length_singleton] at hi
    rw [memE, mset_at, if_neg (by omega), mset_at]
    rcases Nat.lt_or_ge i Q.length with h1 | h1
    · rw [if_neg (by omega), mset_at, if_neg (by omega), qc_app h1]; exact h.2.2.1 i h1
    · have : i = Q.length := by omega
      subst this
      rw [if_pos ⟨rfl, rfl⟩, qc, nth_last]; exact he.symm
  · intro b b0 b1
    rw [memE, mset_at, if_neg (by omega), mset_at, if_neg (by omega), mset_at]
    have e1 : inQ (Q ++ [e]) b ↔ inQ Q b ∨ b = c := by
      unfold inQ; rw [List.map_append, List.mem_append]; simp [he]
    rw [e1]
    by_cases hb : b = c
    · rw [if_pos ⟨rfl, hb⟩]; simp [hb]
    · rw [if_neg (fun q => hb q.2), h.2.2.2.1 b b0 b1]; simp [hb]
  · intro b b0 b1
    rw [memE, mset_at, if_neg (by omega), mset_at, if_neg (by omega), mset_at]
    split
    · omega
    · exact h.2.2.2.2 b b0 b1
theorem memE_o {I : MM} {m n c : Int} {a : Nat} {i : Int} (h : a ≠ 28 ∧ a ≠ 29 ∧ ¬ (a = 27 ∧ i = 6)) : memE I m n c a i = I a i := by
  rw [memE, mset_at, if_neg (by omega), mset_at, if_neg (by omega), mset_at, if_neg (by omega)]
section
variable {d : Nat} {I J K : MM} {s : ST} {g : G} {a c w x y b p v i m f : Int} {Q : List QE}
theorem x_enter_in (h : SQ I m Q) (hc : 0 ≤ c ∧ c < 131072) (hl : Q.length < 131072) (hn : inQ Q c) : call (d + 1) 94 [vR 27, vI c] I = some (some (vI 0), I) := by
  rw [en94]
  have e1 := h.m; have e2 := h.n; have e3 := (h.2.2.2.1 c hc.1 hc.2).mpr hn
  simp (disch := omega) only [r94_0, r94_1, r94_4, r94_5, r94_7, r94_10, r94_11, r94_14, r94_16, r94_19, r94_20, r94_23, r94_24, r94_25, r94_26, r94_29, r94_32, r94_33, r94_34, r94_35, r94_38, r94_39, r94_40, r94_43, r94_44, r94_45, r94_48, r94_49, r94_52, r94_53, r94_54, r94_55, r94_56, r94_59, r94_60, r94_61, r94_64, r94_65, ↓if_pos, ↓if_neg]
theorem x_enter_full (h : SQ I m Q) (hc : 0 ≤ c ∧ c < 131072) (hl : 131072 ≤ Q.length) : call (d + 1) 94 [vR 27, vI c] I = some (some (vI 0), I) := by
  rw [en94]
  have e1 := h.m; have e2 := h.n
  simp (disch := omega) only [r94_0, r94_1, r94_4, r94_5, r94_7, r94_10, r94_11, r94_14, r94_16, r94_19, r94_20, r94_23, r94_24, r94_25, r94_26, r94_29, r94_32, r94_33, r94_34, r94_35, r94_38, r94_39, r94_40, r94_43, r94_44, r94_45, r94_48, r94_49, r94_52, r94_53, r94_54, r94_55, r94_56, r94_59, r94_60, r94_61, r94_64, r94_65, ↓if_pos, ↓if_neg]
theorem x_enter_new (h : SQ I m Q) (hc : 0 ≤ c ∧ c < 131072) (hl : Q.length < 131072) (hn : ¬ inQ Q c) : call (d + 1) 94 [vR 27, vI c] I = some (some (vI 1), memE I m Q.length c) := by
  rw [en94]
  have e1 := h.m; have e2 := h.n; have e3 := fun q => hn ((h.2.2.2.1 c hc.1 hc.2).mp q)
  have e4 : ¬ I 28 c = I 27 5 := by rw [e1]; exact e3
  simp (disch := omega) only [r94_0, r94_1, r94_4, r94_5, r94_7, r94_10, r94_11, r94_14, r94_16, r94_19, r94_20, r94_23, r94_24, r94_25, r94_26, r94_29, r94_32, r94_33, r94_34, r94_35, r94_38, r94_39, r94_40, r94_43, r94_44, r94_45, r94_48, r94_49, r94_52, r94_53, r94_54, r94_55, r94_56, r94_59, r94_60, r94_61, r94_64, r94_65, ↓if_pos, ↓if_neg, e1, e2, iadd_eq, mset_at]
  rfl
/-- goOn: what it leaves alone -/
def GF (I J : MM) : Prop := (∀ a i, a ≠ 27 → a ≠ 28 → a ≠ 29 → a ≠ 30 → J a i = I a i) ∧ (∀ i, i ≠ 6 → i ≠ 8 → J 27 i = I 27 i) ∧ (I 27 7 = 0 → ∀ i, J 30 i = I 30 i)
theorem GF.refl (I : MM) : GF I I := ⟨fun _ _ _ _ _ _ => rfl, fun _ _ _ => rfl, fun _ _ => rfl⟩
theorem GF.trans (h1 : GF I J) (h2 : GF J K) : GF I K := ⟨fun a i q1 q2 q3 q4 => (h2.1 a i q1 q2 q3 q4).trans (h1.1 a i q1 q2 q3 q4), fun i q1 q2 => (h2.2.1 i q1 q2).trans (h1.2.1 i q1 q2), fun q i => (h2.2.2 ((h1.2.1 7 (by omega) (by omega)).trans q) i).trans (h1.2.2 q i)⟩
theorem GF.At (h : GF I J) (hA : At 2 I g) : At 2 J g := hA.cong (fun a a1 a2 i => h.1 a i (by omega) (by omega) (by omega) (by omega))
theorem GF.AL {lo hi : Int} (h : GF I J) (hA : AL I g lo hi) : AL J g lo hi := by
  have e4 : J 27 4 = I 27 4 := h.2.1 4 (by omega) (by omega)
  have e31 : ∀ i, J 31 i = I 31 i := fun i => h.1 31 i (by omega) (by omega) (by omega) (by omega)
  obtain ⟨q1, q2, q3, q4⟩ := hA
  refine ⟨by rw [e4]; exact q1, fun i i0 i1 => by rw [e31]; exact q2 i i0 (by rw [← e4]; exact i1), fun i j i0 ij j1 => by rw [e31, e31]; exact q3 i j i0 ij (by rw [← e4]; exact j1), fun a a0 a1 hs => ?_⟩
  obtain ⟨i, i0, i1, i2⟩ := q4 a a0 a1 hs
  exact ⟨i, i0, by rw [e4]; exact i1, by rw [e31]; exact i2⟩
end
def KR (K : MM) (Q : List QE) (hi : Int) : Prop := K 27 7 = 0 ∨ (K 27 7 = 1 ∧ CF K Q ∧ hi ≤ 1024)
def goR (g : G) (k : Nat) (hi b m : Int) (Q : List QE) (J : MM) (run : Option RES) : Prop := ∃ K, GF J K ∧ ((run = some (some (vI 0), K) ∧ SQ K m (ex g k (hi - b).toNat b Q) ∧ QI g (ex g k (hi - b).toNat b Q) ∧ NO g (ex g k (hi - b).toNat b Q) ∧ PQ (ex g k (hi - b).toNat b Q) ∧ KR K (ex g k (hi - b).toNat b Q) hi) ∨ (∃ (n : Nat) (Q' : List QE) (e : QE), run = some (some (vI 1), K) ∧ n ≤ (hi - b).toNat ∧ ex g k n b Q = Q' ++ [e] ∧ SQ K m (Q' ++ [e]) ∧ QI g (Q' ++ [e]) ∧ NO g Q' ∧ PQ (Q' ++ [e]) ∧ overs g e.1 ∧ K 27 8 = e.1 ∧ e.2.1 = qd Q k + 1 ∧ KR K (Q' ++ [e]) hi))
theorem stq_qd {g : G} {k : Nat} {Q : List QE} {a : Int} (hk : k < Q.length) : qd (stq g k Q a) k = qd Q k ∧ qc (stq g k Q a) k = qc Q k ∧ k < (stq g k Q a).length := by
  obtain ⟨T, hT⟩ := stq_pre g k Q a
  rw [hT]
  exact ⟨qd_app hk, qc_app hk, by rw [List.length_append]; omega⟩
theorem goR.step {g : G} {k : Nat} {hi b a m : Int} {Q : List QE} {J J' : MM} {run : Option RES} (hk : k < Q.length) (h : goR g k hi (a + 1) m (stq g k Q a) J' run) (hJ : GF J J') (h1 : b ≤ a) (h2 : a < hi) (hn : ∀ e, b ≤ e → e < a → ¬ sucha g e) : goR g k hi b m Q J run := by
  obtain ⟨K, gf, h | ⟨n, Q', e, r1, r2, r3, r4, r5, r6, r7, r8, r9, r10, r11⟩⟩ := h
  · refine ⟨K, hJ.trans gf, Or.inl ?_⟩
    rw [ex_skip h1 h2 hn]; exact h
  · refine ⟨K, hJ.trans gf, Or.inr ⟨(a - b).toNat + (n + 1), Q', e, r1, by omega, ?_, r4, r5, r6, r7, r8, r9, r10.trans (by rw [(stq_qd hk).1]), r11⟩⟩
    rw [ex_add, ex_end hn, show b + ((a - b).toNat : Int) = a by omega, ex]
    exact r3
theorem PQ.app {Q : List QE} {e : QE} (h : PQ Q) (he : 0 ≤ e.2.2.1 ∧ e.2.2.1 < Q.length) : PQ (Q ++ [e]) := by
  intro i i0 i1
  rw [List.length_append, List.length_singleton] at i1
  rcases Nat.lt_or_ge i Q.length with h1 | h1
  · rw [qp_app h1]; exact h i i0 h1
  · have : i = Q.length := by omega
    subst this
    rw [qp, nth_last]; exact he
theorem NO.app {g : G} {Q : List QE} {e : QE} (h : NO g Q) (he : ¬ overs g e.1) : NO g (Q ++ [e]) := by
  intro i i1
  rw [List.length_append, List.length_singleton] at i1
  rcases Nat.lt_or_ge i Q.length with h1 | h1
  · rw [qc_app h1]; exact h i h1
  · have : i = Q.length := by omega
    subst this
    rw [qc, nth_last]; exact he
theorem CF.app {I : MM} {g : G} {Q : List QE} {e : QE} {v : Int} (h : CF I Q) (hP : PQ Q) (hI : QI g (Q ++ [e])) (hv : v = qc Q e.2.2.1.toNat * 1024 + e.2.2.2) (he : 0 ≤ e.2.2.1 ∧ e.2.2.1 < Q.length) : CF (mset I 30 e.1 v) (Q ++ [e]) := by
  intro i i0 i1
  rw [List.length_append, List.length_singleton] at i1
  have hnd := hI.2
  rw [List.map_append, List.nodup_append] at hnd
  rcases Nat.lt_or_ge i Q.length with h1 | h1
  · have hp := hP i i0 h1
    have hne : qc Q i ≠ e.1 := fun q => hnd.2.2 (qc Q i) (inQ_iff.mpr ⟨i, h1, rfl⟩) e.1 (by simp) q
    rw [qc_app h1, qp_app h1, qa_app h1, qc_app (by omega), mset_at, if_neg (fun q => hne q.2)]
    exact h i i0 h1
  · have : i = Q.length := by omega
    subst this
    have e1 : qc (Q ++ [e]) Q.length = e.1 := by rw [qc, nth_last]
    have e2 : qp (Q ++ [e]) Q.length = e.2.2.1 := by rw [qp, nth_last]
    have e3 : qa (Q ++ [e]) Q.length = e.2.2.2 := by rw [qa, nth_last]
    rw [e1, e2, e3, qc_app (by omega), mset_at, if_pos ⟨rfl, rfl⟩]; exact hv
section
variable {d : Nat} {I J K : MM} {s : ST} {g : G} {a c w x y b p v i m f : Int} {Q : List QE}
theorem KR.cong (h : KR I Q f) (e7 : J 27 7 = I 27 7) (e30 : ∀ i, J 30 i = I 30 i) : KR J Q f := by
  rcases h with h | ⟨h1, h2, h3⟩
  · exact Or.inl (e7.trans h)
  · exact Or.inr ⟨e7.trans h1, fun i i0 i1 => by rw [e30]; exact h2 i i0 i1, h3⟩
/-- the loop of goOn from its i-th act on; b: all acts under b are done -/
theorem x_goOn_loop {k : Nat} {lo hi : Int} (hg : WG g) (hlo : 0 ≤ lo) (hhi : hi ≤ 1280) : ∀ (r : Nat) (i b : Int) (v4 : AV) (J : MM) (Q : List QE), i + r = J 27 4 → 0 ≤ i → lo ≤ b → b ≤ hi → (∀ j, 0 ≤ j → j < i → J 31 j < b) → (∀ j, i ≤ j → j < J 27 4 → b ≤ J 31 j) → At 2 J g → AL J g lo hi → SQ J m Q → QI g Q → NO g Q → PQ Q → k < Q.length → KR J Q hi → goR g k hi b m Q J (runs (call (d + 4)) 93 2 [vR 27, vR 2, vI (qc Q k), vI i, v4] [] J) := by
  intro r
  induction r with
  | zero =>
    intro i b v4 J Q hr i0 hb1 hb2 hdone hnext hA hL hS hI hN hP hk hK
    have hno : ∀ e, b ≤ e → e < hi → ¬ sucha g e := fun e e0 e1 hs => by
      obtain ⟨j, j0, j1, j2⟩ := hL.2.2.2 e (by omega) e1 hs
      have := hdone j j0 (by omega)
      omega
    refine ⟨J, GF.refl J, Or.inl ⟨?_, ?_⟩⟩
    · simp (disch := omega) only [r93_0, r93_1, r93_2, r93_3, r93_4, r93_7, r93_10, r93_11, r93_13, r93_16, r93_17, r93_18, r93_19, r93_22, r93_23, r93_24, r93_27, r93_29, r93_31, r93_34, r93_35, r93_37, r93_40, r93_43, r93_44, r93_47, r93_50, r93_51, r93_54, r93_56, r93_57, r93_59, r93_60, r93_61, r93_64, r93_65, r93_66, r93_67, r93_68, r93_69, r93_71, r93_74, r93_77, r93_78, r93_80, r93_83, r93_84, r93_85, r93_88, r93_91, r93_92, ↓if_pos, ↓if_neg]
    · rw [ex_end hno]; exact ⟨hS, hI, hN, hP, hK⟩
  | succ r ih =>
    intro i b v4 J Q hr i0 hb1 hb2 hdone hnext hA hL hS hI hN hP hk hK
    push_cast at hr
    have hcnt := hL.1
    obtain ⟨ha0, ha1⟩ := hL.2.1 i i0 (by omega)
    have hba := hnext i (by omega) (by omega)
    have hno : ∀ e, b ≤ e → e < J 31 i → ¬ sucha g e := fun e e0 e1 hs => by
      obtain ⟨j, j0, j1, j2⟩ := hL.2.2.2 e (by omega) (by omega) hs
      rcases Int.lt_or_le j i with h | h
      · have := hdone j j0 h; omega
      · rcases Int.lt_or_le i j with h2 | h2
        · have := hL.2.2.1 i j i0 h2 j1; omega
        · have : j = i := by omega
          subst this; omega
    have hVk := hI.1 k hk
    have hVc := hVk.c
    have hdone' : ∀ K, GF J K → ∀ j, 0 ≤ j → j < i + 1 → K 31 j < J 31 i + 1 := fun K hK j j0 j1 => by
      rw [hK.1 31 j (by omega) (by omega) (by omega) (by omega)]
      rcases Int.lt_or_le j i with h | h
      · have := hL.2.2.1 j i j0 h (by omega); omega
      · have : j = i := by omega
        subst this; omega
    have hnext' : ∀ K, GF J K → ∀ j, i + 1 ≤ j → j < K 27 4 → J 31 i + 1 ≤ K 31 j := fun K hK j j0 j1 => by
      rw [hK.1 31 j (by omega) (by omega) (by omega) (by omega)]
      rw [hK.2.1 4 (by omega) (by omega)] at j1
      have := hL.2.2.1 i j i0 (by omega) j1; omega
    -- nothing new: on to the next act with the same queue
    have next : ∀ (w4 : AV), stq g k Q (J 31 i) = Q → runs (call (d + 4)) 93 2 [vR 27, vR 2, vI (qc Q k), vI i, v4] [] J = runs (call (d + 4)) 93 2 [vR 27, vR 2, vI (qc Q k), vI (i + 1), w4] [] J → goR g k hi b m Q J (runs (call (d + 4)) 93 2 [vR 27, vR 2, vI (qc Q k), vI i, v4] [] J) := fun w4 hst hrun => by
      rw [hrun]
      refine goR.step hk ?_ (GF.refl J) hba ha1 hno
      rw [hst]
      exact ih (i + 1) (J 31 i + 1) w4 J Q (by omega) (by omega) (by omega) (by omega) (hdone' J (GF.refl J)) (hnext' J (GF.refl J)) hA hL hS hI hN hP hk hK
    by_cases ho : outc g (qc Q k) (J 31 i) < 0
    · refine next (vI (outc g (qc Q k) (J 31 i))) (stq_no ho) ?_
      rw [r93_2]
      simp (disch := omega) only [r93_0, r93_1, r93_3, r93_4, r93_7, r93_10, r93_11, r93_13, r93_16, r93_17, r93_18, r93_19, r93_22, r93_23, r93_24, r93_27, r93_29, r93_31, r93_34, r93_35, r93_37, r93_40, r93_43, r93_44, r93_47, r93_50, r93_51, r93_54, r93_56, r93_57, r93_59, r93_60, r93_61, r93_64, r93_65, r93_66, r93_67, r93_68, r93_69, r93_71, r93_74, r93_77, r93_78, r93_80, r93_83, r93_84, r93_85, r93_88, r93_91, r93_92, ↓if_pos, ↓if_neg, x_outcome hA hg hVc, iadd_eq, Option.bind_some, pushR_s]
    · have hVo := vc_outc hg hVk (a := J 31 i) (by omega)
      have hVoc := hVo.c
      by_cases hq : inQ Q (outc g (qc Q k) (J 31 i))
      · refine next (vI (outc g (qc Q k) (J 31 i))) (by unfold stq; rw [if_neg (fun q => q.2 hq)]) ?_
        have hE : call (d + 4) 94 [vR 27, vI (outc g (qc Q k) (J 31 i))] J = some (some (vI 0), J) := by
          rcases Nat.lt_or_ge Q.length 131072 with hl | hl
          · exact x_enter_in hS hVoc hl hq
          · exact x_enter_full hS hVoc hl
        rw [r93_2]
        simp (disch := omega) only [r93_0, r93_1, r93_3, r93_4, r93_7, r93_10, r93_11, r93_13, r93_16, r93_17, r93_18, r93_19, r93_22, r93_23, r93_24, r93_27, r93_29, r93_31, r93_34, r93_35, r93_37, r93_40, r93_43, r93_44, r93_47, r93_50, r93_51, r93_54, r93_56, r93_57, r93_59, r93_60, r93_61, r93_64, r93_65, r93_66, r93_67, r93_68, r93_69, r93_71, r93_74, r93_77, r93_78, r93_80, r93_83, r93_84, r93_85, r93_88, r93_91, r93_92, ↓if_pos, ↓if_neg, x_outcome hA hg hVc, hE, iadd_eq, Option.bind_some, pushR_s]
      · have hl := hI.len' hVo hq
        generalize hgo : outc g (qc Q k) (J 31 i) = o at *
        have hst : stq g k Q (J 31 i) = Q ++ [(o, qd Q k + 1, (k : Int), J 31 i)] := by
          unfold stq; rw [hgo, if_pos ⟨by omega, hq⟩]
        have hSE := memE_SQ (e := (o, qd Q k + 1, (k : Int), J 31 i)) hS rfl hq
        have hIE := hI.add1 (a := J 31 i) hg hk; rw [hst] at hIE
        have hPE : PQ (Q ++ [(o, qd Q k + 1, (k : Int), J 31 i)]) := hP.app ⟨by simp, by simpa using hk⟩
        have hE : call (d + 4) 94 [vR 27, vI o] J = some (some (vI 1), memE J m Q.length o) := x_enter_new hS hVoc hl hq
        -- the memory behind enter and cameFrom
        have hmem : ∃ J2, GF J J2 ∧ SQ J2 m (Q ++ [(o, qd Q k + 1, (k : Int), J 31 i)]) ∧ KR J2 (Q ++ [(o, qd Q k + 1, (k : Int), J 31 i)]) hi ∧ runs (call (d + 4)) 93 2 [vR 27, vR 2, vI (qc Q k), vI i, v4] [] J = runs (call (d + 4)) 93 68 [vR 27, vR 2, vI (qc Q k), vI i, vI o] [] J2 := by
          rcases hK with h7 | ⟨h7, hCF, hh⟩
          · have h7' : memE J m Q.length o 27 7 = 0 := by rw [memE_o (by omega)]; exact h7
            refine ⟨memE J m Q.length o, ⟨fun a i h1 h2 h3 h4 => memE_o (by omega), fun i h1 h2 => memE_o (by omega), fun _ i => memE_o (by omega)⟩, hSE, Or.inl h7', ?_⟩
            rw [r93_2]
            simp (disch := omega) only [r93_0, r93_1, r93_3, r93_4, r93_7, r93_10, r93_11, r93_13, r93_16, r93_17, r93_18, r93_19, r93_22, r93_23, r93_24, r93_27, r93_29, r93_31, r93_34, r93_35, r93_37, r93_40, r93_43, r93_44, r93_47, r93_50, r93_51, r93_54, r93_56, r93_57, r93_59, r93_60, r93_61, r93_64, r93_65, r93_66, r93_67, r93_69, r93_71, r93_74, r93_77, r93_78, r93_80, r93_83, r93_84, r93_85, r93_88, r93_91, r93_92, ↓if_pos, ↓if_neg, x_outcome hA hg hVc, hgo, hE, Option.bind_some, pushR_s]
          · have h7' : memE J m Q.length o 27 7 = 1 := by rw [memE_o (by omega)]; exact h7
            have h31 : memE J m Q.length o 31 i = J 31 i := memE_o (by omega)
            refine ⟨mset (memE J m Q.length o) 30 o (qc Q k * 1024 + J 31 i), ⟨fun a i h1 h2 h3 h4 => by rw [mset_at, if_neg (fun q => h4 q.1)]; exact memE_o (by omega), fun i h1 h2 => by rw [mset_at, if_neg (by omega)]; exact memE_o (by omega), fun q => by omega⟩, hSE.cong (by rw [mset_at, if_neg (by omega)]) (by rw [mset_at, if_neg (by omega)]) (fun i => by rw [mset_at, if_neg (by omega)]) (fun i => by rw [mset_at, if_neg (by omega)]), Or.inr ⟨by rw [mset_at, if_neg (by omega)]; exact h7', ?_, hh⟩, ?_⟩
            · refine CF.app (g := g) (fun i i0 i1 => ?_) hP hIE (by simp) ⟨by simp, by simpa using hk⟩
              rw [memE_o (by omega)]; exact hCF i i0 i1
            · rw [r93_2]
              simp (disch := omega) only [r93_0, r93_1, r93_3, r93_4, r93_7, r93_10, r93_11, r93_13, r93_16, r93_17, r93_18, r93_19, r93_22, r93_23, r93_24, r93_27, r93_29, r93_31, r93_34, r93_35, r93_37, r93_40, r93_43, r93_44, r93_47, r93_50, r93_51, r93_54, r93_56, r93_57, r93_59, r93_60, r93_61, r93_64, r93_65, r93_66, r93_67, r93_69, r93_71, r93_74, r93_77, r93_78, r93_80, r93_83, r93_84, r93_85, r93_88, r93_91, r93_92, ↓if_pos, ↓if_neg, x_outcome hA hg hVc, hgo, hE, h31, row_code, Option.bind_some, pushR_s]
        obtain ⟨J2, gf2, hS2, hK2, hrun⟩ := hmem
        rw [hrun]
        have hA2 := gf2.At hA
        rcases ovi_c g o with hv | hv
        · refine ⟨mset J2 27 8 o, gf2.trans ⟨fun a i h1 h2 h3 h4 => by rw [mset_at, if_neg (by omega)], fun i h1 h2 => by rw [mset_at, if_neg (by omega)], fun _ i => by rw [mset_at, if_neg (by omega)]⟩, Or.inr ⟨(J 31 i - b).toNat + 1, Q, (o, qd Q k + 1, (k : Int), J 31 i), ?_, by omega, ?_, hS2.cong (by rw [mset_at, if_neg (by omega)]) (by rw [mset_at, if_neg (by omega)]) (fun i => by rw [mset_at, if_neg (by omega)]) (fun i => by rw [mset_at, if_neg (by omega)]), hIE, hN, hPE, ?_, by rw [mset_at, if_pos ⟨rfl, rfl⟩], rfl, hK2.cong (by rw [mset_at, if_neg (by omega)]) (fun i => by rw [mset_at, if_neg (by omega)])⟩⟩
          · simp (disch := omega) only [r93_0, r93_1, r93_2, r93_3, r93_4, r93_7, r93_10, r93_11, r93_13, r93_16, r93_17, r93_18, r93_19, r93_22, r93_23, r93_24, r93_27, r93_29, r93_31, r93_34, r93_35, r93_37, r93_40, r93_43, r93_44, r93_47, r93_50, r93_51, r93_54, r93_56, r93_57, r93_59, r93_60, r93_61, r93_64, r93_65, r93_66, r93_67, r93_68, r93_69, r93_71, r93_74, r93_77, r93_78, r93_80, r93_83, r93_84, r93_85, r93_88, r93_91, r93_92, ↓if_pos, ↓if_neg, x_isOveri hA2 hg hVoc, hv, Option.bind_some, pushR_s]
          · rw [ex_add, ex_end hno, show b + ((J 31 i - b).toNat : Int) = J 31 i by omega, ex, ex, hst]
          · unfold ovi at hv; split at hv
            · assumption
            · omega
        · have hno2 : ¬ overs g o := by
            unfold ovi at hv; split at hv
            · omega
            · assumption
          refine goR.step hk ?_ gf2 hba ha1 hno
          rw [hst]
          have hk2 : k < (Q ++ [(o, qd Q k + 1, (k : Int), J 31 i)]).length := by rw [List.length_append]; omega
          have hih := ih (i + 1) (J 31 i + 1) (vI o) J2 (Q ++ [(o, qd Q k + 1, (k : Int), J 31 i)]) (by rw [gf2.2.1 4 (by omega) (by omega)]; omega) (by omega) (by omega) (by omega) (hdone' J2 gf2) (hnext' J2 gf2) hA2 (gf2.AL hL) hS2 hIE (hN.app hno2) hPE hk2 hK2
          rw [qc_app hk] at hih
          have hrun2 : runs (call (d + 4)) 93 68 [vR 27, vR 2, vI (qc Q k), vI i, vI o] [] J2 = runs (call (d + 4)) 93 2 [vR 27, vR 2, vI (qc Q k), vI (i + 1), vI o] [] J2 := by
            simp (disch := omega) only [r93_0, r93_1, r93_3, r93_4, r93_7, r93_10, r93_11, r93_13, r93_16, r93_17, r93_18, r93_19, r93_22, r93_23, r93_24, r93_27, r93_29, r93_31, r93_34, r93_35, r93_37, r93_40, r93_43, r93_44, r93_47, r93_50, r93_51, r93_54, r93_56, r93_57, r93_59, r93_60, r93_61, r93_64, r93_65, r93_66, r93_67, r93_68, r93_69, r93_71, r93_74, r93_77, r93_78, r93_80, r93_83, r93_84, r93_85, r93_88, r93_91, r93_92, ↓if_pos, ↓if_neg, x_isOveri hA2 hg hVoc, hv, iadd_eq, Option.bind_some, pushR_s]
          rw [hrun2]; exact hih
theorem x_goOn {k : Nat} {lo hi : Int} (hg : WG g) (hlo : 0 ≤ lo) (hlh : lo ≤ hi) (hhi : hi ≤ 1280) (hA : At 2 I g) (hL : AL I g lo hi) (hS : SQ I m Q) (hI : QI g Q) (hN : NO g Q) (hP : PQ Q) (hk : k < Q.length) (hK : KR I Q hi) : goR g k hi lo m Q I (call (d + 5) 93 [vR 27, vR 2, vI (qc Q k)] I) := by
  have hc := hL.1
  have h := x_goOn_loop (d := d) (k := k) hg hlo hhi (I 27 4).toNat 0 lo (vR 0) I Q (by omega) (by omega) (by omega) hlh (fun j j0 j1 => by omega) (fun j j0 j1 => (hL.2.1 j j0 j1).1) hA hL hS hI hN hP hk hK
  have e : call (d + 5) 93 [vR 27, vR 2, vI (qc Q k)] I = runs (call (d + 4)) 93 2 [vR 27, vR 2, vI (qc Q k), vI 0, vR 0] [] I := by
    rw [en93]
    simp (disch := omega) only [r93_0, r93_1, r93_3, r93_4, r93_7, r93_10, r93_11, r93_13, r93_16, r93_17, r93_18, r93_19, r93_22, r93_23, r93_24, r93_27, r93_29, r93_31, r93_34, r93_35, r93_37, r93_40, r93_43, r93_44, r93_47, r93_50, r93_51, r93_54, r93_56, r93_57, r93_59, r93_60, r93_61, r93_64, r93_65, r93_66, r93_67, r93_68, r93_69, r93_71, r93_74, r93_77, r93_78, r93_80, r93_83, r93_84, r93_85, r93_88, r93_91, r93_92]
  rw [e]; exact h
end
