/-! The class's search for the fewest acts. -/
abbrev suchn (nw nb a : Int) : Prop := a / 64 % 4 < nw ∧ (if a / 256 = 0 ∨ a / 256 = 4 then a / 8 % 8 < 2 ∧ a % 8 = 0 else a / 8 % 8 < nb ∧ (if a / 256 = 1 then a % 8 < 2 else if a / 256 = 2 then a % 8 = 0 else a % 8 < nw))
def csn (nw nb lo : Int) : Nat → Nat
  | 0 => 0
  | n + 1 => csn nw nb lo n + (if suchn nw nb (lo + n) then 1 else 0)
theorem csn_mono (nw nb lo : Int) (n : Nat) : ∀ m, csn nw nb lo n ≤ csn nw nb lo (n + m) := by
  intro m
  induction m with
  | zero => exact Nat.le_refl _
  | succ m ih => rw [← Nat.add_assoc, csn]; omega
theorem csn_b {g : G} (hg : WG g) {n : Nat} : (n ≤ 1024 → csn g.nW g.nB 0 n < 64) ∧ (n ≤ 256 → csn g.nW g.nB 1024 n < 64) := by
  have h1 : csn g.nW g.nB 0 1024 < 64 ∧ csn g.nW g.nB 1024 256 < 64 := by
    rcases hg.nWc with hw | hw | hw | hw <;> rcases hg.nBc with hb | hb | hb <;> rw [hw, hb] <;> decide +kernel
  constructor
  · intro h
    have := csn_mono g.nW g.nB 0 n (1024 - n)
    rw [show n + (1024 - n) = 1024 by omega] at this
    omega
  · intro h
    have := csn_mono g.nW g.nB 1024 n (256 - n)
    rw [show n + (256 - n) = 256 by omega] at this
    omega
/-- the state of the queue behind k whole entries -/
def fq (g : G) : Nat → List QE → List QE
  | 0, Q => Q
  | k + 1, Q => ex g k 1024 0 (fq g k Q)
theorem fq_pre (g : G) (Q : List QE) (k : Nat) : ∀ m, ∃ T, fq g (k + m) Q = fq g k Q ++ T := by
  intro m
  induction m with
  | zero => exact ⟨[], by simp⟩
  | succ m ih =>
    obtain ⟨T1, h1⟩ := ih
    obtain ⟨T2, h2⟩ := ex_pre g (k + m) 1024 0 (fq g (k + m) Q)
    exact ⟨T1 ++ T2, by rw [← Nat.add_assoc, fq, h2, h1, List.append_assoc]⟩
theorem fq_len (g : G) (Q : List QE) {j k : Nat} (h : j ≤ k) : (fq g j Q).length ≤ (fq g k Q).length := by
  obtain ⟨T, hT⟩ := fq_pre g Q j (k - j)
  rw [show j + (k - j) = k by omega] at hT
  rw [hT, List.length_append]; omega
theorem QI.ex {g : G} {k : Nat} (hg : WG g) : ∀ (n : Nat) (a : Int) (Q : List QE), QI g Q → k < Q.length → QI g (ex g k n a Q) := by
  intro n
  induction n with
  | zero => intro a Q h _; exact h
  | succ n ih =>
    intro a Q h hk
    exact ih (a + 1) _ (h.add1 hg hk) (stq_qd hk).2.2
/-- depths by levels, as the class counts them -/
def LV (Q : List QE) (k : Nat) (len lev : Int) : Prop := (k : Int) ≤ lev ∧ lev ≤ Q.length ∧ (∀ i : Nat, k ≤ i → i < Q.length → qd Q i = if (i : Int) < lev then len - 1 else len)
theorem LV.ex {g : G} {k : Nat} {len lev : Int} : ∀ (n : Nat) (a : Int) (Q : List QE), k < Q.length → LV Q k len lev → (k : Int) < lev → LV (ex g k n a Q) k len lev := by
  intro n
  induction n with
  | zero => intro a Q _ h _; exact h
  | succ n ih =>
    intro a Q hk h hl
    refine ih (a + 1) _ (stq_qd hk).2.2 ?_ hl
    unfold stq; split
    · obtain ⟨h1, h2, h3⟩ := h
      refine ⟨h1, by rw [List.length_append]; simp; omega, fun i i0 i1 => ?_⟩
      rw [List.length_append, List.length_singleton] at i1
      rcases Nat.lt_or_ge i Q.length with h4 | h4
      · rw [qd_app h4]; exact h3 i i0 h4
      · have : i = Q.length := by omega
        subst this
        rw [qd, nth_last, if_neg (by omega)]
        have := h3 k (Nat.le_refl k) hk
        rw [if_pos hl] at this
        show qd Q k + 1 = len
        omega
    · exact h
section
variable {d : Nat} {I J K : MM} {s : ST} {g : G} {a c w x y b p v i m f : Int} {Q : List QE}
def SF (I J : MM) : Prop := (∀ a i, a ≠ 27 → a ≠ 28 → a ≠ 29 → a ≠ 30 → a ≠ 31 → J a i = I a i) ∧ (∀ i, i ≠ 4 → i ≠ 5 → i ≠ 6 → i ≠ 8 → J 27 i = I 27 i) ∧ (I 27 7 = 0 → ∀ i, J 30 i = I 30 i)
theorem SF.refl (I : MM) : SF I I := ⟨fun _ _ _ _ _ _ _ => rfl, fun _ _ _ _ _ => rfl, fun _ _ => rfl⟩
theorem SF.trans (h1 : SF I J) (h2 : SF J K) : SF I K := ⟨fun a i q1 q2 q3 q4 q5 => (h2.1 a i q1 q2 q3 q4 q5).trans (h1.1 a i q1 q2 q3 q4 q5), fun i q1 q2 q3 q4 => (h2.2.1 i q1 q2 q3 q4).trans (h1.2.1 i q1 q2 q3 q4), fun q i => (h2.2.2 ((h1.2.1 7 (by omega) (by omega) (by omega) (by omega)).trans q) i).trans (h1.2.2 q i)⟩
theorem GF.sf (h : GF I J) : SF I J := ⟨fun a i q1 q2 q3 q4 _ => h.1 a i q1 q2 q3 q4, fun i _ _ q3 q4 => h.2.1 i q3 q4, h.2.2⟩
theorem SF.At (h : SF I J) (hA : At 2 I g) : At 2 J g := hA.cong (fun a a1 a2 i => h.1 a i (by omega) (by omega) (by omega) (by omega) (by omega))
theorem x_begin (hm : 0 ≤ m ∧ m < 2147483646) (h5 : I 27 5 = m) (h28 : ∀ c, 0 ≤ c → c < 131072 → I 28 c ≤ m) (hc : 0 ≤ c ∧ c < 131072) : ∃ J, call (d + 2) 91 [vR 27, vI c] I = some (none, J) ∧ SF I J ∧ SQ J (m + 1) (Q0 c) ∧ (∀ i, J 30 i = I 30 i) ∧ J 27 8 = c := by
  have hS : SQ (mset (mset (mset I 27 5 (m + 1)) 27 6 0) 27 8 c) (m + 1) [] := by
    refine ⟨by simp [mset_at], by simp [mset_at], fun i hi => by simp at hi, fun e e0 e1 => ?_, fun e e0 e1 => ?_⟩
    · have := h28 e e0 e1
      simp only [mset_at]
      rw [if_neg (by omega), if_neg (by omega), if_neg (by omega)]
      refine iff_of_false (by omega) (by simp)
    · have := h28 e e0 e1
      simp only [mset_at]
      rw [if_neg (by omega), if_neg (by omega), if_neg (by omega)]
      omega
  refine ⟨memE (mset (mset (mset I 27 5 (m + 1)) 27 6 0) 27 8 c) (m + 1) 0 c, ?_, ⟨fun a i q1 q2 q3 q4 q5 => ?_, fun i q1 q2 q3 q4 => ?_, fun _ i => ?_⟩, ?_, fun i => ?_, ?_⟩
  · rw [en91]
    have hE := x_enter_new (d := d) (c := c) hS hc (by simp) (by simp)
    simp (disch := omega) only [r91_0, r91_1, r91_2, r91_5, r91_6, r91_7, r91_10, r91_11, r91_12, r91_15, r91_16, r91_17, r91_20, r91_21, r91_22, r91_25, r91_26, ↓if_pos, ↓if_neg, h5, iadd_eq, hE, Option.bind_some, pushR_s]
    rfl
  · rw [memE_o (by omega), mset_at, if_neg (by omega), mset_at, if_neg (by omega), mset_at, if_neg (by omega)]
  · rw [memE_o (by omega), mset_at, if_neg (by omega), mset_at, if_neg (by omega), mset_at, if_neg (by omega)]
  · rw [memE_o (by omega), mset_at, if_neg (by omega), mset_at, if_neg (by omega), mset_at, if_neg (by omega)]
  · exact memE_SQ (e := (c, 0, 0, 0)) hS rfl (by simp)
  · rw [memE_o (by omega), mset_at, if_neg (by omega), mset_at, if_neg (by omega), mset_at, if_neg (by omega)]
  · rw [memE_o (by omega), mset_at, if_pos ⟨rfl, rfl⟩]
def LF (I J : MM) : Prop := (∀ a i, a ≠ 27 → a ≠ 31 → J a i = I a i) ∧ (∀ i, i ≠ 4 → J 27 i = I 27 i)
theorem LF.sf (h : LF I J) : SF I J := ⟨fun a i q1 _ _ _ q5 => h.1 a i q1 q5, fun i q1 _ _ _ => h.2 i q1, fun _ i => h.1 30 i (by omega) (by omega)⟩
theorem list_loop {lo hi : Int} (hlo : 0 ≤ lo) (hhi : hi ≤ 1280) (hb : ∀ n : Nat, lo + n ≤ hi → csn g.nW g.nB lo n < 64) : ∀ (r : Nat) (n : Nat) (J : MM), lo + n + r = hi → At 2 J g → AL J g lo (lo + n) → J 27 4 = csn g.nW g.nB lo n → ∃ K, runs (call (d + 1)) 92 8 [vR 27, vR 2, vI lo, vI hi, vI (lo + n)] [] J = some (none, K) ∧ AL K g lo hi ∧ LF J K := by
  intro r
  induction r with
  | zero =>
    intro n J hr hA hL hc
    have e : lo + n = hi := by omega
    rw [e] at hL
    refine ⟨J, ?_, hL, fun _ _ _ _ => rfl, fun _ _ => rfl⟩
    simp (disch := omega) only [r92_0, r92_1, r92_2, r92_5, r92_6, r92_8, r92_10, r92_11, r92_14, r92_15, r92_17, r92_20, r92_23, r92_24, r92_27, r92_29, r92_32, r92_33, r92_36, r92_37, r92_40, r92_42, r92_43, r92_44, r92_45, r92_48, r92_49, r92_50, r92_53, r92_56, r92_59, ↓if_pos, ↓if_neg]
  | succ r ih =>
    intro n J hr hA hL hc
    push_cast at hr
    have hb0 := hb n (by omega)
    obtain ⟨q1, q2, q3, q4⟩ := hL
    by_cases hs : sucha g (lo + n)
    · have hs' : suchn g.nW g.nB (lo + n) := hs
      have hc' : csn g.nW g.nB lo (n + 1) = csn g.nW g.nB lo n + 1 := by rw [csn, if_pos hs']
      have hb1 := hb (n + 1) (by push_cast; omega)
      have e4 : mset (mset J 31 (J 27 4) (lo + n)) 27 4 (J 27 4 + 1) 27 4 = J 27 4 + 1 := by rw [mset_at, if_pos ⟨rfl, rfl⟩]
      have e31 : ∀ j, mset (mset J 31 (J 27 4) (lo + n)) 27 4 (J 27 4 + 1) 31 j = if j = J 27 4 then lo + n else J 31 j := fun j => by
        rw [mset_at, if_neg (by omega), mset_at]; by_cases h : j = J 27 4
        · rw [if_pos ⟨rfl, h⟩, if_pos h]
        · rw [if_neg (fun q => h q.2), if_neg h]
      obtain ⟨K, k1, k2, k3⟩ := ih (n + 1) (mset (mset J 31 (J 27 4) (lo + n)) 27 4 (J 27 4 + 1)) (by push_cast; omega) (hA.cong (fun a a1 a2 i => by rw [mset_at, if_neg (by omega), mset_at, if_neg (by omega)])) (by
        refine ⟨by rw [e4]; omega, fun j j0 j1 => ?_, fun i j i0 ij j1 => ?_, fun a a0 a1 ha => ?_⟩
        · rw [e4] at j1; rw [e31]; push_cast
          split
          · omega
          · have := q2 j j0 (by omega); omega
        · rw [e4] at j1; rw [e31, e31, if_neg (by omega)]
          split
          · have := q2 i i0 (by omega); omega
          · exact q3 i j i0 ij (by omega)
        · push_cast at a1
          by_cases h : a = lo + n
          · exact ⟨J 27 4, by omega, by rw [e4]; omega, by rw [e31, if_pos rfl]; exact h.symm⟩
          · obtain ⟨i, i0, i1, i2⟩ := q4 a a0 (by omega) ha
            exact ⟨i, i0, by rw [e4]; omega, by rw [e31, if_neg (by omega)]; exact i2⟩) (by rw [e4, hc, hc']; push_cast; rfl)
      refine ⟨K, Eq.trans ?_ k1, k2, fun a i h1 h2 => by rw [k3.1 a i h1 h2, mset_at, if_neg (by omega), mset_at, if_neg (by omega)], fun i h1 => by rw [k3.2 i h1, mset_at, if_neg (by omega), mset_at, if_neg (by omega)]⟩
      rw [r92_8]
      have hI : call (d + 1) 31 [vR 2, vI (lo + n)] J = some (some (vI 1), J) := by
        rw [x_isSuch hA, if_pos ⟨by omega, hs⟩]
      push_cast
      simp (disch := omega) only [r92_0, r92_1, r92_2, r92_5, r92_6, r92_10, r92_11, r92_14, r92_15, r92_17, r92_20, r92_23, r92_24, r92_27, r92_29, r92_32, r92_33, r92_36, r92_37, r92_40, r92_42, r92_43, r92_44, r92_45, r92_48, r92_49, r92_50, r92_53, r92_56, r92_59, ↓if_pos, ↓if_neg, hI, iadd_eq, mset_at, Int.add_assoc, Option.bind_some, pushR_s]
    · have hs' : ¬ suchn g.nW g.nB (lo + n) := hs
      have hc' : csn g.nW g.nB lo (n + 1) = csn g.nW g.nB lo n := by rw [csn, if_neg hs']; rfl
      obtain ⟨K, k1, k2, k3⟩ := ih (n + 1) J (by push_cast; omega) hA ⟨q1, fun j j0 j1 => by have := q2 j j0 j1; push_cast; omega, q3, fun a a0 a1 ha => by
        push_cast at a1
        by_cases h : a = lo + n
        · subst h; exact (hs ha).elim
        · exact q4 a a0 (by omega) ha⟩ (by rw [hc, hc'])
      refine ⟨K, Eq.trans ?_ k1, k2, k3⟩
      rw [r92_8]
      have hI : call (d + 1) 31 [vR 2, vI (lo + n)] J = some (some (vI 0), J) := by
        rw [x_isSuch hA, if_neg (fun q => hs q.2)]
      push_cast
      simp (disch := omega) only [r92_0, r92_1, r92_2, r92_5, r92_6, r92_10, r92_11, r92_14, r92_15, r92_17, r92_20, r92_23, r92_24, r92_27, r92_29, r92_32, r92_33, r92_36, r92_37, r92_40, r92_42, r92_43, r92_44, r92_45, r92_48, r92_49, r92_50, r92_53, r92_56, r92_59, ↓if_pos, ↓if_neg, hI, iadd_eq, Int.add_assoc, Option.bind_some, pushR_s]
theorem x_listActs {lo hi : Int} (hlo : 0 ≤ lo) (hlh : lo ≤ hi) (hhi : hi ≤ 1280) (hA : At 2 I g) (hb : ∀ n : Nat, lo + n ≤ hi → csn g.nW g.nB lo n < 64) : ∃ K, call (d + 2) 92 [vR 27, vR 2, vI lo, vI hi] I = some (none, K) ∧ AL K g lo hi ∧ LF I K := by
  obtain ⟨K, k1, k2, k3⟩ := list_loop (d := d) (g := g) hlo hhi hb (hi - lo).toNat 0 (mset I 27 4 0) (by push_cast; omega) (hA.cong (fun a a1 a2 i => by rw [mset_at, if_neg (by omega)])) (by
    have e4 : mset I 27 4 0 27 4 = 0 := by rw [mset_at, if_pos ⟨rfl, rfl⟩]
    exact ⟨by rw [e4]; omega, fun j j0 j1 => by rw [e4] at j1; omega, fun i j i0 ij j1 => by rw [e4] at j1; omega, fun a a0 a1 _ => by push_cast at a1; omega⟩) (by rw [mset_at, if_pos ⟨rfl, rfl⟩]; rfl)
  refine ⟨K, ?_, k2, fun a i h1 h2 => by rw [k3.1 a i h1 h2, mset_at, if_neg (by omega)], fun i h1 => by rw [k3.2 i h1, mset_at, if_neg (by omega)]⟩
  rw [en92, ← k1]
  simp (disch := omega) only [r92_0, r92_1, r92_2, r92_5, r92_6, r92_10, r92_11, r92_14, r92_15, r92_17, r92_20, r92_23, r92_24, r92_27, r92_29, r92_32, r92_33, r92_36, r92_37, r92_40, r92_42, r92_43, r92_44, r92_45, r92_48, r92_49, r92_50, r92_53, r92_56, r92_59, Int.add_zero, Int.natCast_zero]
/-- what the search for the fewest leaves behind -/
def EndQ (g : G) (c m : Int) (K : MM) (r : Int) : Prop := ∃ Qf : List QE, SQ K m Qf ∧ QI g Qf ∧ PQ Qf ∧ KR K Qf 1024 ∧ ((r = -1 ∧ NO g Qf) ∨ (∃ (Q' : List QE) (e : QE) (k n : Nat), Qf = Q' ++ [e] ∧ NO g Q' ∧ overs g e.1 ∧ K 27 8 = e.1 ∧ r = e.2.1 ∧ ((k = 0 ∧ n = 0 ∧ Qf = Q0 c) ∨ ((∀ j, j ≤ k → j < (fq g j (Q0 c)).length) ∧ n ≤ 1024 ∧ Qf = ex g k n 0 (fq g k (Q0 c))))))
theorem short_loop (hg : WG g) (hc : 0 ≤ c ∧ c < 131072) : ∀ (n k : Nat) (len lev : Int) (J : MM) (Q : List QE), k + n = 131073 → Q = fq g k (Q0 c) → (∀ j, j < k → j < (fq g j (Q0 c)).length) → LV Q k len lev → (0 ≤ len ∧ len ≤ k) → At 2 J g → AL J g 0 1024 → SQ J m Q → QI g Q → NO g Q → PQ Q → KR J Q 1024 → ∃ K, GF J K ∧ runs (call (d + 5)) 89 32 [vR 27, vR 2, vI c, vI len, vI lev, vI k] [] J = some (some (vI (fwr g n k Q)), K) ∧ EndQ g c m K (fwr g n k Q) := by
  intro n
  induction n with
  | zero =>
    intro k len lev J Q hk hQ hJ hLV hl hA hL hS hI hN hP hK
    have hlen := hI.len
    have e6 := hS.n
    refine ⟨J, GF.refl J, ?_, Q, hS, hI, hP, hK, Or.inl ⟨rfl, hN⟩⟩
    rw [fwr]
    simp (disch := omega) only [r89_0, r89_1, r89_2, r89_5, r89_6, r89_7, r89_10, r89_13, r89_14, r89_15, r89_16, r89_17, r89_18, r89_21, r89_24, r89_25, r89_26, r89_27, r89_29, r89_30, r89_32, r89_34, r89_35, r89_38, r89_41, r89_43, r89_44, r89_47, r89_48, r89_51, r89_53, r89_55, r89_58, r89_61, r89_62, r89_65, r89_67, r89_68, r89_69, r89_70, r89_73, r89_75, r89_76, r89_79, r89_82, r89_83, r89_84, r89_87, r89_90, r89_91, ↓if_pos, ↓if_neg]
  | succ n ih =>
    intro k len lev J Q hk hQ hJ hLV hl hA hL hS hI hN hP hK
    have hlen := hI.len
    have e6 := hS.n
    rw [fwr]
    by_cases hkl : k < Q.length
    · rw [if_pos hkl, if_neg (hN k hkl)]
      have e29 := hS.2.2.1 k hkl
      have hjk : ∀ j, j ≤ k → j < (fq g j (Q0 c)).length := by
        intro j hj
        rcases Nat.lt_or_ge j k with h | h
        · exact hJ j h
        · have : j = k := by omega
          subst this
          rw [← hQ]; exact hkl
      obtain ⟨l1, l2, l3⟩ := hLV
      -- the level's end
      obtain ⟨len2, lev2, hLV2, hlt, hl2, hrun⟩ : ∃ len2 lev2, LV Q k len2 lev2 ∧ (k : Int) < lev2 ∧ (0 ≤ len2 ∧ len2 ≤ k + 1) ∧ runs (call (d + 5)) 89 32 [vR 27, vR 2, vI c, vI len, vI lev, vI k] [] J = runs (call (d + 5)) 89 67 [vR 27, vR 2, vI c, vI len2, vI lev2, vI k] [] J := by
        by_cases hkv : (k : Int) = lev
        · refine ⟨len + 1, Q.length, ⟨by omega, by omega, fun i i0 i1 => ?_⟩, by omega, by omega, ?_⟩
          · rw [if_pos (by omega), l3 i i0 i1, if_neg (by omega)]; omega
          · rw [r89_32]
            simp (disch := omega) only [r89_0, r89_1, r89_2, r89_5, r89_6, r89_7, r89_10, r89_13, r89_14, r89_15, r89_16, r89_17, r89_18, r89_21, r89_24, r89_25, r89_26, r89_27, r89_29, r89_30, r89_34, r89_35, r89_38, r89_41, r89_43, r89_44, r89_47, r89_48, r89_51, r89_53, r89_55, r89_58, r89_61, r89_62, r89_65, r89_68, r89_69, r89_70, r89_73, r89_75, r89_76, r89_79, r89_82, r89_83, r89_84, r89_87, r89_90, r89_91, ↓if_pos, ↓if_neg, e6, iadd_eq]
        · refine ⟨len, lev, ⟨l1, l2, l3⟩, by omega, by omega, ?_⟩
          rw [r89_32]
          simp (disch := omega) only [r89_0, r89_1, r89_2, r89_5, r89_6, r89_7, r89_10, r89_13, r89_14, r89_15, r89_16, r89_17, r89_18, r89_21, r89_24, r89_25, r89_26, r89_27, r89_29, r89_30, r89_34, r89_35, r89_38, r89_41, r89_43, r89_44, r89_47, r89_48, r89_51, r89_53, r89_55, r89_58, r89_61, r89_62, r89_65, r89_68, r89_69, r89_70, r89_73, r89_75, r89_76, r89_79, r89_82, r89_83, r89_84, r89_87, r89_90, r89_91, ↓if_pos, ↓if_neg, e6]
      have hgo := x_goOn (d := d) hg (by omega) (by omega) (by omega) hA hL hS hI hN hP hkl hK
      obtain ⟨K, gf, ⟨r1, r2, r3, r4, r5, r6⟩ | ⟨n1, Q', e, r1, r2, r3, r4, r5, r6, r7, r8, r9, r10, r11⟩⟩ := hgo
      · have hLV3 : LV (ex g k 1024 0 Q) (k + 1) len2 lev2 := by
          obtain ⟨a1, a2, a3⟩ := LV.ex (g := g) 1024 0 Q hkl hLV2 hlt
          exact ⟨by push_cast; omega, a2, fun i i0 i1 => a3 i (by omega) i1⟩
        obtain ⟨K2, gf2, q1, q2⟩ := ih (k + 1) len2 lev2 K (ex g k 1024 0 Q) (by omega) (by rw [hQ]; rfl) (fun j hj => hjk j (by omega)) hLV3 (by push_cast; omega) (gf.At hA) (gf.AL hL) r2 r3 r4 r5 r6
        refine ⟨K2, gf.trans gf2, ?_, q2⟩
        rw [hrun, ← q1]
        push_cast
        simp (disch := omega) only [r89_0, r89_1, r89_2, r89_5, r89_6, r89_7, r89_10, r89_13, r89_14, r89_15, r89_16, r89_17, r89_18, r89_21, r89_24, r89_25, r89_26, r89_27, r89_29, r89_30, r89_34, r89_35, r89_38, r89_41, r89_43, r89_44, r89_47, r89_48, r89_51, r89_53, r89_55, r89_58, r89_61, r89_62, r89_65, r89_67, r89_68, r89_69, r89_70, r89_73, r89_75, r89_76, r89_79, r89_82, r89_83, r89_84, r89_87, r89_90, r89_91, ↓if_pos, ↓if_neg, e29, r1, iadd_eq, Option.bind_some, pushR_s]
      · have hp : Q'.length < (Q' ++ [e]).length := by rw [List.length_append, List.length_singleton]; omega
        obtain ⟨T, hT⟩ := ex_pre g k (1024 - n1) n1 (ex g k n1 0 Q)
        have hfull : ex g k 1024 0 Q = (Q' ++ [e]) ++ T := by
          have := ex_add g k n1 (1024 - n1) 0 Q
          rw [show n1 + (1024 - n1) = 1024 by omega, Int.zero_add, hT, r3] at this
          exact this
        have hpk : k + 1 ≤ Q'.length := by
          obtain ⟨T3, hT3⟩ := ex_pre g k n1 0 Q
          rw [r3] at hT3
          have h3 := congrArg List.length hT3
          rw [List.length_append, List.length_append, List.length_singleton] at h3
          rcases Nat.lt_or_ge Q'.length Q.length with h4 | h4
          · -- then nothing was added, and e stands in Q
            exfalso
            have h5 : T3 = [] := by
              cases T3 with
              | nil => rfl
              | cons a l => simp at h3; omega
            rw [h5, List.append_nil] at hT3
            have h6 := hN Q'.length (by rw [← hT3]; exact hp)
            rw [← hT3, qc, nth_last] at h6
            exact h6 r8
          · omega
        have hlenf := r5.len
        rw [List.length_append, List.length_singleton] at hlenf
        have hres : fwr g n (k + 1) (ex g k 1024 0 Q) = e.2.1 := by
          have e1 : qc (Q' ++ [e]) Q'.length = e.1 := by rw [qc, nth_last]
          have e2 : qd (Q' ++ [e]) Q'.length = e.2.1 := by rw [qd, nth_last]
          rw [hfull, fwr_first n (k + 1) Q'.length _ hpk (by omega) (by rw [List.length_append]; omega) (by rw [qc_app hp, e1]; exact r8) (fun j hj => by rw [qc_app (by omega), qc_app hj]; exact r6 j hj), qd_app hp, e2]
        rw [hres]
        have hdep : e.2.1 = len2 := by
          have := hLV2.2.2 k (Nat.le_refl k) hkl
          rw [if_pos hlt] at this
          omega
        refine ⟨K, gf, ?_, Q' ++ [e], r4, r5, r7, r11, Or.inr ⟨Q', e, k, n1, rfl, r6, r8, r9, rfl, Or.inr ⟨hjk, by omega, by rw [← hQ]; exact r3.symm⟩⟩⟩
        rw [hrun, hdep]
        simp (disch := omega) only [r89_0, r89_1, r89_2, r89_5, r89_6, r89_7, r89_10, r89_13, r89_14, r89_15, r89_16, r89_17, r89_18, r89_21, r89_24, r89_25, r89_26, r89_27, r89_29, r89_30, r89_34, r89_35, r89_38, r89_41, r89_43, r89_44, r89_47, r89_48, r89_51, r89_53, r89_55, r89_58, r89_61, r89_62, r89_65, r89_67, r89_68, r89_69, r89_70, r89_73, r89_75, r89_76, r89_79, r89_82, r89_83, r89_84, r89_87, r89_90, r89_91, ↓if_pos, ↓if_neg, e29, r1, Option.bind_some, pushR_s]
    · rw [if_neg hkl]
      refine ⟨J, GF.refl J, ?_, Q, hS, hI, hP, hK, Or.inl ⟨rfl, hN⟩⟩
      simp (disch := omega) only [r89_0, r89_1, r89_2, r89_5, r89_6, r89_7, r89_10, r89_13, r89_14, r89_15, r89_16, r89_17, r89_18, r89_21, r89_24, r89_25, r89_26, r89_27, r89_29, r89_30, r89_32, r89_34, r89_35, r89_38, r89_41, r89_43, r89_44, r89_47, r89_48, r89_51, r89_53, r89_55, r89_58, r89_61, r89_62, r89_65, r89_67, r89_68, r89_69, r89_70, r89_73, r89_75, r89_76, r89_79, r89_82, r89_83, r89_84, r89_87, r89_90, r89_91, ↓if_pos, ↓if_neg]
theorem x_shortest (hg : WG g) (hA : At 2 I g) (hV : VC g c) (hm : 0 ≤ m ∧ m < 2147483646) (h5 : I 27 5 = m) (h28 : ∀ c, 0 ≤ c → c < 131072 → I 28 c ≤ m) (h7 : I 27 7 = 0 ∨ I 27 7 = 1) : ∃ K, call (d + 6) 89 [vR 27, vR 2, vI c] I = some (some (vI (fw g c)), K) ∧ SF I K ∧ EndQ g c (m + 1) K (fw g c) := by
  have hc := hV.c
  obtain ⟨J, b1, b2, b3, b4, b5⟩ := x_begin (d := d + 3) hm h5 h28 hc
  have hAJ := b2.At hA
  have e0 : qc (Q0 c) 0 = c := rfl
  have hQI : QI g (Q0 c) := ⟨fun i hi => by
    have : i = 0 := by have : i < 1 := hi; omega
    subst this; exact hV, by simp [Q0]⟩
  have hPQ : PQ (Q0 c) := fun i i0 i1 => by have : i < 1 := i1; omega
  have hKR : ∀ K : MM, K 27 7 = I 27 7 → KR K (Q0 c) 1024 := fun K e => by
    rcases h7 with h | h
    · exact Or.inl (e.trans h)
    · exact Or.inr ⟨e.trans h, fun i i0 i1 => by have : i < 1 := i1; omega, by omega⟩
  rcases ovi_c g c with hv | hv
  · have ho : overs g c := by unfold ovi at hv; split at hv; assumption; omega
    have hr : fw g c = 0 := by
      rw [fw, fwr_first 131073 0 0 (Q0 c) (by omega) (by omega) (by simp [Q0]) ho (fun j hj => by omega)]; rfl
    refine ⟨J, ?_, b2, Q0 c, b3, hQI, hPQ, hKR J (b2.2.1 7 (by omega) (by omega) (by omega) (by omega)), Or.inr ⟨[], (c, 0, 0, 0), 0, 0, rfl, fun i hi => by simp at hi, ho, b5, hr, Or.inl ⟨rfl, rfl, rfl⟩⟩⟩
    rw [hr, en89]
    simp (disch := omega) only [r89_0, r89_1, r89_2, r89_5, r89_6, r89_7, r89_10, r89_13, r89_14, r89_15, r89_16, r89_17, r89_18, r89_21, r89_24, r89_25, r89_26, r89_27, r89_29, r89_30, r89_32, r89_34, r89_35, r89_38, r89_41, r89_43, r89_44, r89_47, r89_48, r89_51, r89_53, r89_55, r89_58, r89_61, r89_62, r89_65, r89_67, r89_68, r89_69, r89_70, r89_73, r89_75, r89_76, r89_79, r89_82, r89_83, r89_84, r89_87, r89_90, r89_91, ↓if_pos, ↓if_neg, b1, x_isOveri hAJ hg hc, hv, Option.bind_some, pushR_s, pushR_n]
  · have ho : ¬ overs g c := by unfold ovi at hv; split at hv; omega; assumption
    obtain ⟨L, l1, l2, l3⟩ := x_listActs (d := d + 3) (g := g) (I := J) (lo := 0) (hi := 1024) (by omega) (by omega) (by omega) hAJ (fun n hn => (csn_b hg).1 (by omega))
    have hSL : SQ L (m + 1) (Q0 c) := b3.cong (l3.2 5 (by omega)) (l3.2 6 (by omega)) (fun i => l3.1 28 i (by omega) (by omega)) (fun i => l3.1 29 i (by omega) (by omega))
    have hAL := (l3.sf).At hAJ
    have e7 : L 27 7 = I 27 7 := (l3.2 7 (by omega)).trans (b2.2.1 7 (by omega) (by omega) (by omega) (by omega))
    obtain ⟨K, gf, k1, k2⟩ := short_loop (d := d) hg hc 131073 0 0 0 L (Q0 c) (by omega) rfl (fun j hj => by omega) ⟨by simp, by simp [Q0], fun i i0 i1 => by
      have : i = 0 := by have : i < 1 := i1; omega
      subst this; rfl⟩ (by omega) hAL l2 hSL hQI (fun i hi => by
      have : i = 0 := by have : i < 1 := hi; omega
      subst this; exact ho) hPQ (hKR L e7)
    refine ⟨K, ?_, b2.trans (l3.sf.trans gf.sf), k2⟩
    rw [en89, fw, ← k1]
    simp (disch := omega) only [r89_0, r89_1, r89_2, r89_5, r89_6, r89_7, r89_10, r89_13, r89_14, r89_15, r89_16, r89_17, r89_18, r89_21, r89_24, r89_25, r89_26, r89_27, r89_29, r89_30, r89_34, r89_35, r89_38, r89_41, r89_43, r89_44, r89_47, r89_48, r89_51, r89_53, r89_55, r89_58, r89_61, r89_62, r89_65, r89_67, r89_68, r89_69, r89_70, r89_73, r89_75, r89_76, r89_79, r89_82, r89_83, r89_84, r89_87, r89_90, r89_91, ↓if_pos, ↓if_neg, b1, x_isOveri hAJ hg hc, hv, l1, Option.bind_some, pushR_s, pushR_n, Int.natCast_zero]
end
