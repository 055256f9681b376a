/-! The reader of the model: its draft, the first item. -/
def NDF (I : MM) : Int → Int := fun i => if i = 67 then I 70 26 else if i = 68 then I 70 27 else I 85 i
def MN (I : MM) (g : G) (c : Int) : Prop := RGf (NDF I) g ∧ NSf (NDF I) g c
/-- the model's reader's cells, its draft with them -/
def FrN (I J : MM) : Prop := ∀ a i, a ≠ 85 → ¬ (a = 70 ∧ 21 ≤ i ∧ i ≤ 28) → J a i = I a i
theorem FrN.trans {I J K : MM} (f : FrN I J) (f' : FrN J K) : FrN I K := fun a i h h' => (f' a i h h').trans (f a i h h')
theorem FrN.refl {I : MM} : FrN I I := fun _ _ _ _ => rfl
theorem FrN.T {I J : MM} {t : Int → Int} (f : FrN I J) (h : TM I t) : TM J t := h.cong (f _ _ (by omega) (by omega)) (fun i => f _ _ (by omega) (by omega))
theorem FrM.N {I J : MM} (f : FrM I J) : FrN I J := fun a i _ h2 => f a i (by omega) (by omega)
theorem FrM.nf {I J : MM} (f : FrM I J) : NDF J = NDF I := by
  funext i; unfold NDF; rw [f 70 26 (by omega) (by omega), f 70 27 (by omega) (by omega), f 85 i (by omega) (by omega)]
theorem FrM.mn {I J : MM} {g : G} {c : Int} (f : FrM I J) (h : MN I g c) : MN J g c := by unfold MN at *; rw [f.nf]; exact h
theorem FrM.of {I J : MM} (f : ∀ a i, ¬ (a = 70 ∧ 21 ≤ i ∧ i ≤ 24) → J a i = I a i) : FrM I J := fun a i h _ => f a i h
def RDm (t : Int → Int) (J : MM) (b : Int) (r : DS) : Prop := (r.2.2 = -1 → b = 1 ∧ TKm J t r.2.1 ∧ MN J r.1.1 r.1.2) ∧ (r.2.2 ≠ -1 → b = 0 ∧ J 70 21 = r.2.2)
section
variable {d : Nat} {I J K : MM} {t : Int → Int} {k lo hi v l p b w e : Int} {g : G} {c : Int} {q : SG}
theorem nS_y (h : okN t k lo hi = true) : nS t lo hi (k, -1) = (tE t k, -1) := by unfold nS tE; rw [if_pos rfl, if_pos h]
theorem nS_n (h : ¬ okN t k lo hi = true) : nS t lo hi (k, -1) = (tE t k, sk t k) := by unfold nS tE; rw [if_pos rfl, if_neg h]
theorem nS_br (h : q.2 ≠ -1) : nS t lo hi q = q := by unfold nS; rw [if_neg h]
theorem nV_y (h : okN t k lo hi = true) : nV t lo hi (k, -1) = tkV t (sk t k) (tE t k) := by unfold nV tE; rw [if_pos ⟨rfl, h⟩]
theorem ok_in (h : okN t k lo hi = true) : lo ≤ tkV t (sk t k) (tE t k) ∧ tkV t (sk t k) (tE t k) ≤ hi := (of_decide_eq_true h).2
theorem TKm.at {I : MM} (h : TKm I t k) : I 70 21 = sk t k := h.1
theorem TKm.set {I : MM} {a : Nat} {i : Int} (v : Int) (h : TKm I t k) (ha : a ≠ 70 ∨ i < 21 ∨ 24 < i) : TKm (mset I a i v) t k := h.cong (fun j _ _ => by rw [mset_at, if_neg (by omega)])
theorem TM.set {I : MM} {a : Nat} {i : Int} (v : Int) (h : TM I t) (ha : a ≠ 84) (hb : a ≠ 70 ∨ i ≠ 20) : TM (mset I a i v) t := h.cong (by rw [mset_at, if_neg (by omega)]) (fun j => by rw [mset_at, if_neg (by omega)])
theorem FrN.set {I : MM} {a : Nat} {i : Int} (v : Int) (h : a = 85 ∨ (a = 70 ∧ 21 ≤ i ∧ i ≤ 28)) : FrN I (mset I a i v) := fun b j h1 h2 => by rw [mset_at, if_neg (by omega)]
/-- the ground of a bog begun anew -/
theorem ground_rst (hp : 0 ≤ p ∧ p ≤ l) : ground (rstG g l) p = if p = 0 ∨ l ≤ p then 0 else 2 := by
  have e1 : (rstG g l).last = l := by simp [rstG, G.last]
  have e2 : (rstG g l).isl = 0 := by simp [rstG, G.isl]
  unfold ground
  rw [e1, e2]
  by_cases h : p = 0 ∨ l ≤ p
  · rw [if_pos h, if_pos (by omega)]
  · rw [if_neg h, if_neg (by omega), if_neg]
    simp
theorem m_lastL (hv : 1 ≤ v ∧ v ≤ 7) : ∀ (f : Nat) (p : Int) (J : MM), 0 ≤ p → p + f = 8 → J 70 28 = v → ∃ K, runs (call d) 222 48 [vR 70, vI p] [] J = some (some (vI 1), K) ∧ (∀ i, p ≤ i → i < 8 → K 85 i = if i = 0 ∨ v ≤ i then 0 else 2) ∧ (∀ a i, ¬ (a = 85 ∧ p ≤ i ∧ i < 8) → K a i = J a i) := by
  intro f
  induction f with
  | zero =>
    intro p J p0 hp h28
    refine ⟨J, ?_, fun i i0 i1 => by omega, fun _ _ _ => rfl⟩
    simp (disch := omega) only [r222_0, r222_1, r222_3, r222_5, r222_7, r222_9, r222_10, r222_11, r222_14, r222_17, r222_18, r222_19, r222_20, r222_23, r222_24, r222_25, r222_27, r222_30, r222_33, r222_34, r222_35, r222_36, r222_39, r222_41, r222_42, r222_45, r222_46, r222_47, r222_48, r222_49, r222_51, r222_54, r222_55, r222_58, r222_59, r222_60, r222_61, r222_62, r222_65, r222_66, r222_67, r222_70, r222_73, r222_74, r222_77, r222_78, r222_79, r222_82, r222_85, r222_86, ↓if_pos, ↓if_neg]
  | succ f ih =>
    intro p J p0 hp h28
    obtain ⟨K, c1, g1, f1⟩ := ih (p + 1) (mset J 85 p (if p = 0 ∨ v ≤ p then 0 else 2)) (by omega) (by omega) (by rw [mset_at, if_neg (by omega)]; exact h28)
    refine ⟨K, ?_, fun i i0 i1 => ?_, fun a i h => ?_⟩
    · rw [← c1, r222_48]
      by_cases h0 : p = 0
      · rw [if_pos (Or.inl h0)]
        simp (disch := omega) only [r222_0, r222_1, r222_3, r222_5, r222_7, r222_9, r222_10, r222_11, r222_14, r222_17, r222_18, r222_19, r222_20, r222_23, r222_24, r222_25, r222_27, r222_30, r222_33, r222_34, r222_35, r222_36, r222_39, r222_41, r222_42, r222_45, r222_46, r222_47, r222_49, r222_51, r222_54, r222_55, r222_58, r222_59, r222_60, r222_61, r222_62, r222_65, r222_66, r222_67, r222_70, r222_73, r222_74, r222_77, r222_78, r222_79, r222_82, r222_85, r222_86, ↓if_pos, ↓if_neg, iadd_eq, Int.zero_add]
      · by_cases h1 : v ≤ p
        · rw [if_pos (Or.inr h1)]
          simp (disch := omega) only [r222_0, r222_1, r222_3, r222_5, r222_7, r222_9, r222_10, r222_11, r222_14, r222_17, r222_18, r222_19, r222_20, r222_23, r222_24, r222_25, r222_27, r222_30, r222_33, r222_34, r222_35, r222_36, r222_39, r222_41, r222_42, r222_45, r222_46, r222_47, r222_49, r222_51, r222_54, r222_55, r222_58, r222_59, r222_60, r222_61, r222_62, r222_65, r222_66, r222_67, r222_70, r222_73, r222_74, r222_77, r222_78, r222_79, r222_82, r222_85, r222_86, ↓if_pos, ↓if_neg, h28, iadd_eq, Int.zero_add]
        · rw [if_neg (by omega)]
          simp (disch := omega) only [r222_0, r222_1, r222_3, r222_5, r222_7, r222_9, r222_10, r222_11, r222_14, r222_17, r222_18, r222_19, r222_20, r222_23, r222_24, r222_25, r222_27, r222_30, r222_33, r222_34, r222_35, r222_36, r222_39, r222_41, r222_42, r222_45, r222_46, r222_47, r222_49, r222_51, r222_54, r222_55, r222_58, r222_59, r222_60, r222_61, r222_62, r222_65, r222_66, r222_67, r222_70, r222_73, r222_74, r222_77, r222_78, r222_79, r222_82, r222_85, r222_86, ↓if_pos, ↓if_neg, h28, iadd_eq, Int.zero_add]
    · by_cases hi : i = p
      · subst hi
        rw [f1 85 i (by omega), mset_at, if_pos ⟨rfl, rfl⟩]
      · exact g1 i (by omega) i1
    · rw [f1 a i (by omega), mset_at, if_neg (by omega)]
theorem m_readLast (hT : TM I t) (hn : 0 ≤ t (-1) ∧ t (-1) ≤ 200) (hk : 0 ≤ k ∧ k ≤ t (-1)) (hx : TKm I t k) (z6 : I 70 26 = 0) (z7 : I 70 27 = 0) : ∃ b J, call (d + 6) 222 [vR 70] I = some (some (vI b), J) ∧ RDm t J b (readI t g c true k) ∧ FrN I J := by
  have w := m_isWord89 (d := d + 4) hT hn hk hx
  have hs := sk_b hk
  unfold readI
  by_cases h : isW t k 89 = true
  · rw [if_pos h] at w
    rw [if_pos h.symm, if_pos rfl]
    obtain ⟨J1, c1, x1, f1⟩ := m_goOn (d := d + 1) hT hn hk hx
    have fm1 := FrM.of f1
    have hk1 := tE_b (t := t) hk
    have hs1 := sk_b hk1
    obtain ⟨y1, y2⟩ := m_takes (d := d) (lo := 1) (hi := 7) (fm1.T hT) hn hk1 x1 (by omega)
    by_cases h2 : okN t (tE t k) 1 7 = true
    · obtain ⟨J2, c2, x2, e2, f2⟩ := y1 h2
      have hv := ok_in h2
      rw [nS_y h2, nV_y h2]
      generalize tkV t (sk t (tE t k)) (tE t (tE t k)) = v at *
      obtain ⟨J3, c3, g3, f3⟩ := m_lastL (d := d + 5) hv 8 0 (mset J2 85 8 v) (by omega) (by omega) (by rw [mset_at, if_neg (by omega)]; exact e2)
      have fa := fm1.trans f2
      have q6 : J3 70 26 = 0 := (f3 _ _ (by omega)).trans (by rw [mset_at, if_neg (by omega)]; exact (fa _ _ (by omega) (by omega)).trans z6)
      have q7 : J3 70 27 = 0 := (f3 _ _ (by omega)).trans (by rw [mset_at, if_neg (by omega)]; exact (fa _ _ (by omega) (by omega)).trans z7)
      have n6 : (rstG g v).nW = 0 := by simp [rstG, G.nW]
      have n7 : (rstG g v).nB = 0 := by simp [rstG, G.nB]
      have n8 : (rstG g v).last = v := by simp [rstG, G.last]
      refine ⟨1, J3, ?_, ⟨fun _ => ⟨rfl, ?_, ⟨⟨?_, ?_, ?_⟩, ?_, ?_⟩⟩, fun z => absurd rfl z⟩, ?_⟩
      · rw [← c3, en222]
        simp (disch := omega) only [r222_0, r222_1, r222_3, r222_5, r222_7, r222_9, r222_10, r222_11, r222_14, r222_17, r222_18, r222_19, r222_20, r222_23, r222_24, r222_25, r222_27, r222_30, r222_33, r222_34, r222_35, r222_36, r222_39, r222_41, r222_42, r222_45, r222_46, r222_47, r222_49, r222_51, r222_54, r222_55, r222_58, r222_59, r222_60, r222_61, r222_62, r222_65, r222_66, r222_67, r222_70, r222_73, r222_74, r222_77, r222_78, r222_79, r222_82, r222_85, r222_86, w, c1, c2, e2, ↓if_pos, ↓if_neg, Option.bind_some, pushR_s, pushR_n]
      · exact x2.cong (fun i _ _ => (f3 _ _ (by omega)).trans (by rw [mset_at, if_neg (by omega)]))
      · rw [n6, n7, n8]
        refine ⟨?_, ?_, ?_⟩ <;> unfold NDF
        · rw [if_neg (by decide), if_neg (by decide), f3 _ _ (by omega), mset_at, if_pos ⟨rfl, rfl⟩]
        · rw [if_pos rfl, q6]
        · rw [if_neg (by decide), if_pos rfl, q7]
      · rw [n8]
        intro p p0 p1
        rw [ground_rst ⟨p0, p1⟩]
        unfold NDF
        rw [if_neg (by omega), if_neg (by omega)]
        exact g3 p p0 (by omega)
      · rw [n6, n7]
        exact ⟨fun w w0 w1 => by omega, fun b b0 b1 => by omega⟩
      · rw [n6]; intro w w0 w1; omega
      · rw [n7]; intro w w0 w1; omega
      · refine (fa.N.trans (FrN.set v (Or.inl rfl))).trans (fun a i h1 h2 => f3 a i (by omega))
    · rw [nS_n h2]
      refine ⟨0, J1, ?_, ⟨fun z => ?_, fun _ => ⟨rfl, x1.at⟩⟩, fm1.N⟩
      · rw [en222]
        simp (disch := omega) only [r222_0, r222_1, r222_3, r222_5, r222_7, r222_9, r222_10, r222_11, r222_14, r222_17, r222_18, r222_19, r222_20, r222_23, r222_24, r222_25, r222_27, r222_30, r222_33, r222_34, r222_35, r222_36, r222_39, r222_41, r222_42, r222_45, r222_46, r222_47, r222_49, r222_51, r222_54, r222_55, r222_58, r222_59, r222_60, r222_61, r222_62, r222_65, r222_66, r222_67, r222_70, r222_73, r222_74, r222_77, r222_78, r222_79, r222_82, r222_85, r222_86, w, c1, y2 h2, ↓if_pos, ↓if_neg, Option.bind_some, pushR_s, pushR_n]
      · have z' : sk t (tE t k) = -1 := z
        omega
  · rw [if_neg h] at w
    rw [if_neg (fun z => h z.symm)]
    refine ⟨0, I, ?_, ⟨fun z => ?_, fun _ => ⟨rfl, hx.at⟩⟩, FrN.refl⟩
    · rw [en222]
      simp (disch := omega) only [r222_0, r222_1, r222_3, r222_5, r222_7, r222_9, r222_10, r222_11, r222_14, r222_17, r222_18, r222_19, r222_20, r222_23, r222_24, r222_25, r222_27, r222_30, r222_33, r222_34, r222_35, r222_36, r222_39, r222_41, r222_42, r222_45, r222_46, r222_47, r222_49, r222_51, r222_54, r222_55, r222_58, r222_59, r222_60, r222_61, r222_62, r222_65, r222_66, r222_67, r222_70, r222_73, r222_74, r222_77, r222_78, r222_79, r222_82, r222_85, r222_86, w, ↓if_pos, ↓if_neg, Option.bind_some, pushR_s, pushR_n]
    · have z' : sk t k = -1 := z
      omega
end
