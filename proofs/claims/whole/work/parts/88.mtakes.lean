/-! The reader of the model: going on, a number taken. -/
/-- the model's reader's own cells -/
def FrM (I J : MM) : Prop := ∀ a i, ¬ (a = 70 ∧ 21 ≤ i ∧ i ≤ 24) → ¬ (a = 70 ∧ i = 28) → J a i = I a i
theorem FrM.trans {I J K : MM} (f : FrM I J) (f' : FrM J K) : FrM I K := fun a i h h' => (f' a i h h').trans (f a i h h')
theorem FrM.refl {I : MM} : FrM I I := fun _ _ _ _ => rfl
theorem FrM.T {I J : MM} {t : Int → Int} (f : FrM I J) (h : TM I t) : TM J t := h.cong (f _ _ (by omega) (by omega)) (fun i => f _ _ (by omega) (by omega))
theorem tE_b {t : Int → Int} {k : Int} (hk : 0 ≤ k ∧ k ≤ t (-1)) : 0 ≤ tE t k ∧ tE t k ≤ t (-1) := by
  have hs := sk_b hk
  have he := tkE_b (t := t) (n := t (-1)) (s := sk t k) (by omega)
  unfold tE; omega
theorem TKm.cong {I J : MM} {t : Int → Int} {k : Int} (e : ∀ i, 21 ≤ i → i ≤ 24 → J 70 i = I 70 i) (h : TKm I t k) : TKm J t k := by
  obtain ⟨h1, h2, h3, h4⟩ := h
  exact ⟨(e _ (by omega) (by omega)).trans h1, (e _ (by omega) (by omega)).trans h2, (e _ (by omega) (by omega)).trans h3, fun q q2 => (e _ (by omega) (by omega)).trans (h4 q q2)⟩
section
variable {d : Nat} {I J K : MM} {t : Int → Int} {k lo hi : Int}
theorem m_goOn (hT : TM I t) (hn : 0 ≤ t (-1) ∧ t (-1) ≤ 200) (hk : 0 ≤ k ∧ k ≤ t (-1)) (hx : TKm I t k) : ∃ J, call (d + 4) 219 [vR 70] I = some (none, J) ∧ TKm J t (tE t k) ∧ (∀ a i, ¬ (a = 70 ∧ 21 ≤ i ∧ i ≤ 24) → J a i = I a i) := by
  have he := tE_b hk
  have hs := sk_b hk
  obtain ⟨J, c, x, f⟩ := m_look (d := d) hT hn he
  refine ⟨J, ?_, x, f⟩
  obtain ⟨h1, h2, -, -⟩ := hx
  have e : sk t k + (tkE t (t (-1)) (sk t k) - sk t k) = tE t k := by unfold tE; omega
  rw [en219]
  simp (disch := omega) only [r219_0, r219_1, r219_2, r219_5, r219_6, r219_9, r219_10, r219_13, h1, h2, iadd_eq, e, c, Option.bind_some, pushR_n]
theorem m_takes (hT : TM I t) (hn : 0 ≤ t (-1) ∧ t (-1) ≤ 200) (hk : 0 ≤ k ∧ k ≤ t (-1)) (hx : TKm I t k) (hlo : 0 ≤ lo) : (okN t k lo hi = true → ∃ J, call (d + 5) 221 [vR 70, vI lo, vI hi] I = some (some (vI 1), J) ∧ TKm J t (tE t k) ∧ J 70 28 = tkV t (sk t k) (tE t k) ∧ FrM I J) ∧ (¬ okN t k lo hi = true → call (d + 5) 221 [vR 70, vI lo, vI hi] I = some (some (vI 0), I)) := by
  have ok : okN t k lo hi = true ↔ (tkK t (t (-1)) (sk t k) = 2 ∧ lo ≤ tkV t (sk t k) (tE t k) ∧ tkV t (sk t k) (tE t k) ≤ hi) := ⟨of_decide_eq_true, decide_eq_true⟩
  have hx0 := hx
  obtain ⟨h1, h2, h3, h4⟩ := hx
  have hbig : 2 < tkE t (t (-1)) (sk t k) - sk t k → tkV t (sk t k) (tE t k) = -1 := fun q => by
    unfold tkV tE; rw [if_neg (by omega), if_neg (by omega)]
  constructor
  · intro h
    obtain ⟨o1, o2, o3⟩ := ok.mp h
    have hl : ¬ 2 < tkE t (t (-1)) (sk t k) - sk t k := fun q => by have := hbig q; omega
    rw [if_neg (fun q => hl q.2)] at h3
    have h4' : I 70 24 = tkV t (sk t k) (tE t k) := h4 o1 (by omega)
    have h3' : I 70 23 = 2 := by omega
    obtain ⟨J, c, x, f⟩ := m_goOn (d := d) (I := mset I 70 28 (tkV t (sk t k) (tE t k))) (hT.set70 _ (by omega)) hn hk (hx0.cong (fun i i0 i1 => by rw [mset_at, if_neg (by omega)]))
    refine ⟨J, ?_, x, (f 70 28 (by omega)).trans (by rw [mset_at, if_pos ⟨rfl, rfl⟩]), fun a i q1 q2 => (f a i q1).trans (by rw [mset_at, if_neg q2])⟩
    have hin : ∀ M : MM, call (d + 4) 142 [vL (tkV t (sk t k) (tE t k)), vL lo, vL hi] M = some (some (vI 1), M) := fun M => by
      rw [m_in, if_pos ⟨o2, o3⟩]
    rw [en221]
    clear ok hbig h4 h3
    simp (disch := omega) only [r221_0, r221_1, r221_4, r221_5, r221_8, r221_9, r221_12, r221_13, r221_14, r221_15, r221_16, r221_17, r221_20, r221_23, r221_24, r221_25, r221_26, r221_27, r221_30, r221_33, r221_34, r221_37, r221_38, h3', h4', hin, c, ↓if_pos, ↓if_neg, Option.bind_some, pushR_s, pushR_n]
  · intro h
    rw [en221]
    by_cases o1 : I 70 23 = 2
    · have o2 : tkK t (t (-1)) (sk t k) = 2 ∧ ¬ 2 < tkE t (t (-1)) (sk t k) - sk t k := by
        rw [h3] at o1
        split at o1
        · omega
        · rename_i z
          exact ⟨o1, fun y => z ⟨o1, y⟩⟩
      have h4' : I 70 24 = tkV t (sk t k) (tE t k) := h4 o2.1 (by omega)
      have hin : ∀ M : MM, call (d + 4) 142 [vL (tkV t (sk t k) (tE t k)), vL lo, vL hi] M = some (some (vI 0), M) := fun M => by
        rw [m_in, if_neg (fun z => h (ok.mpr ⟨o2.1, z⟩))]
      clear ok hbig h4 h3 o2
      simp (disch := omega) only [r221_0, r221_1, r221_4, r221_5, r221_8, r221_9, r221_12, r221_13, r221_14, r221_15, r221_16, r221_17, r221_20, r221_23, r221_24, r221_25, r221_26, r221_27, r221_30, r221_33, r221_34, r221_37, r221_38, o1, h4', hin, ↓if_pos, ↓if_neg, Option.bind_some, pushR_s]
    · clear ok hbig h4 h3
      simp (disch := omega) only [r221_0, r221_1, r221_4, r221_5, r221_8, r221_9, r221_12, r221_13, r221_14, r221_15, r221_16, r221_17, r221_20, r221_23, r221_24, r221_25, r221_26, r221_27, r221_30, r221_33, r221_34, r221_37, r221_38, ↓if_pos, ↓if_neg]
end
