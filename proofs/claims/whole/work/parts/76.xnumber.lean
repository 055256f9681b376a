/-! The reader of the class: a number within bounds, a stop, where it breaks. -/
/-- where the reader stands, and where it broke (-1: it has not) -/
abbrev SG : Type := Int × Int
def okN (t : Int → Int) (k lo hi : Int) : Bool := decide (tkK t (t (-1)) (sk t k) = 2 ∧ lo ≤ tkV t (sk t k) (tkE t (t (-1)) (sk t k)) ∧ tkV t (sk t k) (tkE t (t (-1)) (sk t k)) ≤ hi)
def nV (t : Int → Int) (lo hi : Int) (q : SG) : Int := if q.2 = -1 ∧ okN t q.1 lo hi = true then tkV t (sk t q.1) (tkE t (t (-1)) (sk t q.1)) else lo
def nS (t : Int → Int) (lo hi : Int) (q : SG) : SG := if q.2 = -1 then (tkE t (t (-1)) (sk t q.1), if okN t q.1 lo hi = true then -1 else sk t q.1) else q
def sS (t : Int → Int) (q : SG) : SG := if q.2 = -1 then (tkE t (t (-1)) (sk t q.1), if tkK t (t (-1)) (sk t q.1) = 3 then -1 else sk t q.1) else q
def SB (t : Int → Int) (q : SG) : Prop := (0 ≤ q.1 ∧ q.1 ≤ t (-1)) ∧ -1 ≤ q.2
def RSx (I : MM) (t : Int → Int) (q : SG) : Prop := I 20 1 = q.1 ∧ I 20 5 = q.2 ∧ TX I t
/-- the reader's own cells alone -/
def FrR (I J : MM) : Prop := ∀ a i, ¬ (a = 20 ∧ 1 ≤ i ∧ i ≤ 5) → J a i = I a i
theorem FrR.T {I J : MM} {t : Int → Int} (f : FrR I J) (h : TX I t) : TX J t := h.cong (f _ _ (by omega)) (fun i => f _ _ (by omega))
theorem FrR.trans {I J K : MM} (f : FrR I J) (f' : FrR J K) : FrR I K := fun a i h => (f' a i h).trans (f a i h)
theorem FrR.refl {I : MM} : FrR I I := fun _ _ _ => rfl
theorem nS_b {t : Int → Int} {lo hi : Int} {q : SG} (h : SB t q) : SB t (nS t lo hi q) := by
  unfold nS SB at *
  have hs := sk_b h.1
  have he := tkE_b (t := t) (n := t (-1)) (s := sk t q.1) (by omega)
  split
  · simp only []
    refine ⟨by omega, ?_⟩
    split <;> omega
  · exact h
theorem sS_b {t : Int → Int} {q : SG} (h : SB t q) : SB t (sS t q) := by
  unfold sS SB at *
  have hs := sk_b h.1
  have he := tkE_b (t := t) (n := t (-1)) (s := sk t q.1) (by omega)
  split
  · simp only []
    refine ⟨by omega, ?_⟩
    split <;> omega
  · exact h
section
variable {d : Nat} {I J K : MM} {t : Int → Int} {n k v i lo hi : Int} {q : SG}
theorem x_break : call (d + 1) 103 [vR 20] I = some (none, if I 20 5 = -1 then mset I 20 5 (I 20 3) else I) := by
  rw [en103]
  by_cases h : I 20 5 = -1
  · rw [if_pos h]
    simp (disch := omega) only [r103_0, r103_1, r103_4, r103_5, r103_8, r103_9, r103_10, r103_13, r103_16, ↓if_pos, ↓if_neg]
  · rw [if_neg h]
    simp (disch := omega) only [r103_0, r103_1, r103_4, r103_5, r103_8, r103_9, r103_10, r103_13, r103_16, ↓if_pos, ↓if_neg]
theorem x_number (hq : SB t q) (hR : RSx I t q) (hn : 0 ≤ t (-1) ∧ t (-1) ≤ 200) : ∃ J, call (d + 4) 101 [vR 20, vI lo, vI hi] I = some (some (vI (nV t lo hi q)), J) ∧ RSx J t (nS t lo hi q) ∧ FrR I J ∧ (q.2 = -1 → J 20 3 = sk t q.1) := by
  obtain ⟨h1, h5, hT⟩ := hR
  rw [en101]
  unfold nV nS
  by_cases hb : q.2 = -1
  · obtain ⟨J, hc, ⟨j1, j2, j3, j4⟩, f⟩ := x_nextToken (d := d) hT hn h1 hq.1
    have f5 : J 20 5 = -1 := by rw [f 20 5 (by omega)]; omega
    have fr : FrR I J := fun a i h => f a i (by omega)
    have hbr := x_break (d := d + 2) (I := J)
    rw [if_pos f5, j3] at hbr
    rw [if_pos hb]
    have ok : okN t q.1 lo hi = true ↔ (tkK t (t (-1)) (sk t q.1) = 2 ∧ lo ≤ tkV t (sk t q.1) (tkE t (t (-1)) (sk t q.1)) ∧ tkV t (sk t q.1) (tkE t (t (-1)) (sk t q.1)) ≤ hi) := ⟨of_decide_eq_true, decide_eq_true⟩
    generalize okN t q.1 lo hi = b at *
    generalize tkE t (t (-1)) (sk t q.1) = e at *
    generalize tkV t (sk t q.1) e = v at *
    generalize tkK t (t (-1)) (sk t q.1) = kk at *
    generalize sk t q.1 = s at *
    have hbad : ¬ b = true → (runs (call (d + 3)) 101 38 [vR 20, vI lo, vI hi] [] J = some (some (vI lo), mset J 20 5 s)) := fun _ => by
      simp (disch := omega) only [r101_0, r101_1, r101_4, r101_5, r101_8, r101_9, r101_10, r101_11, r101_14, r101_15, r101_18, r101_19, r101_22, r101_23, r101_26, r101_27, r101_30, r101_31, r101_34, r101_35, r101_38, r101_39, r101_42, r101_43, r101_44, r101_45, r101_48, hbr, Option.bind_some, pushR_n]
    have fb : RSx (mset J 20 5 s) t (e, s) ∧ FrR I (mset J 20 5 s) := by
      have f2 : FrR I (mset J 20 5 s) := fun a i h => by rw [mset_at, if_neg (by omega)]; exact fr a i h
      refine ⟨⟨by rw [mset_at, if_neg (by omega)]; exact j1, by rw [mset_at, if_pos ⟨rfl, rfl⟩], f2.T hT⟩, f2⟩
    by_cases hbt : b = true
    · obtain ⟨o1, o2, o3⟩ := ok.mp hbt
      have j4' := j4 o1
      refine ⟨J, ?_, ⟨?_, ?_, fr.T hT⟩, fr, fun _ => j3⟩
      · rw [if_pos ⟨hb, hbt⟩]
        clear ok fb hbad
        simp (disch := omega) only [r101_0, r101_1, r101_4, r101_5, r101_8, r101_9, r101_10, r101_11, r101_14, r101_15, r101_18, r101_19, r101_22, r101_23, r101_26, r101_27, r101_30, r101_31, r101_34, r101_35, r101_38, r101_39, r101_42, r101_43, r101_44, r101_45, r101_48, hc, ↓if_pos, ↓if_neg, j2, j4', Option.bind_some, pushR_n]
      · exact j1
      · rw [if_pos hbt]; exact f5
    · rw [if_neg (fun z => hbt z.2), if_neg hbt]
      refine ⟨_, ?_, fb.1, fb.2, fun _ => by rw [mset_at, if_neg (by omega)]; exact j3⟩
      have hbad := hbad hbt
      by_cases o1 : kk = 2
      · have j4' := j4 o1
        by_cases o2 : lo ≤ v
        · have o3 : hi < v := by
            rcases Int.lt_or_le hi v with z | z
            · exact z
            · exact absurd (ok.mpr ⟨o1, o2, z⟩) hbt
          clear ok fb
          simp (disch := omega) only [r101_0, r101_1, r101_4, r101_5, r101_8, r101_9, r101_10, r101_11, r101_14, r101_15, r101_18, r101_19, r101_22, r101_23, r101_26, r101_27, r101_30, r101_31, r101_34, r101_35, r101_39, r101_42, r101_43, r101_44, r101_45, r101_48, hc, ↓if_pos, ↓if_neg, j2, j4', Option.bind_some, pushR_n]
          exact hbad
        · clear ok fb
          simp (disch := omega) only [r101_0, r101_1, r101_4, r101_5, r101_8, r101_9, r101_10, r101_11, r101_14, r101_15, r101_18, r101_19, r101_22, r101_23, r101_26, r101_27, r101_30, r101_31, r101_34, r101_35, r101_39, r101_42, r101_43, r101_44, r101_45, r101_48, hc, ↓if_pos, ↓if_neg, j2, j4', Option.bind_some, pushR_n]
          exact hbad
      · clear ok fb
        simp (disch := omega) only [r101_0, r101_1, r101_4, r101_5, r101_8, r101_9, r101_10, r101_11, r101_14, r101_15, r101_18, r101_19, r101_22, r101_23, r101_26, r101_27, r101_30, r101_31, r101_34, r101_35, r101_39, r101_42, r101_43, r101_44, r101_45, r101_48, hc, ↓if_pos, ↓if_neg, j2, Option.bind_some, pushR_n]
        exact hbad
  · rw [if_neg hb, if_neg (fun z => hb z.1)]
    refine ⟨I, ?_, ⟨h1, h5, hT⟩, FrR.refl, fun z => absurd z hb⟩
    simp (disch := omega) only [r101_0, r101_1, r101_4, r101_5, r101_8, r101_9, r101_10, r101_11, r101_14, r101_15, r101_18, r101_19, r101_22, r101_23, r101_26, r101_27, r101_30, r101_31, r101_34, r101_35, r101_38, r101_39, r101_42, r101_43, r101_44, r101_45, r101_48, ↓if_pos, ↓if_neg]
theorem x_stop (hq : SB t q) (hR : RSx I t q) (hn : 0 ≤ t (-1) ∧ t (-1) ≤ 200) : ∃ J, call (d + 4) 102 [vR 20] I = some (none, J) ∧ RSx J t (sS t q) ∧ FrR I J := by
  obtain ⟨h1, h5, hT⟩ := hR
  rw [en102]
  unfold sS
  by_cases hb : q.2 = -1
  · obtain ⟨J, hc, ⟨j1, j2, j3, -⟩, f⟩ := x_nextToken (d := d) hT hn h1 hq.1
    have f5 : J 20 5 = -1 := by rw [f 20 5 (by omega)]; omega
    have fr : FrR I J := fun a i h => f a i (by omega)
    have hbr := x_break (d := d + 2) (I := J)
    rw [if_pos f5, j3] at hbr
    rw [if_pos hb]
    generalize tkE t (t (-1)) (sk t q.1) = e at *
    generalize tkK t (t (-1)) (sk t q.1) = kk at *
    generalize sk t q.1 = s at *
    by_cases o1 : kk = 3
    · rw [if_pos o1]
      refine ⟨J, ?_, ⟨j1, f5, fr.T hT⟩, fr⟩
      simp (disch := omega) only [r102_0, r102_1, r102_4, r102_5, r102_8, r102_9, r102_12, r102_13, r102_16, r102_17, r102_20, r102_21, r102_24, hc, ↓if_pos, ↓if_neg, j2, Option.bind_some, pushR_n]
    · rw [if_neg o1]
      have f2 : FrR I (mset J 20 5 s) := fun a i h => by rw [mset_at, if_neg (by omega)]; exact fr a i h
      refine ⟨mset J 20 5 s, ?_, ⟨by rw [mset_at, if_neg (by omega)]; exact j1, by rw [mset_at, if_pos ⟨rfl, rfl⟩], f2.T hT⟩, f2⟩
      simp (disch := omega) only [r102_0, r102_1, r102_4, r102_5, r102_8, r102_9, r102_12, r102_13, r102_16, r102_17, r102_20, r102_21, r102_24, hc, hbr, ↓if_pos, ↓if_neg, j2, Option.bind_some, pushR_n]
  · rw [if_neg hb]
    refine ⟨I, ?_, ⟨h1, h5, hT⟩, FrR.refl⟩
    simp (disch := omega) only [r102_0, r102_1, r102_4, r102_5, r102_8, r102_9, r102_12, r102_13, r102_16, r102_17, r102_20, r102_21, r102_24, ↓if_pos, ↓if_neg]
end
