/-! The draft's code with a board more. -/
section
variable {g : G} {c l v w e p k b : Int}
theorem fit_no (hg : WG g) (hp : 0 ≤ p ∧ p ≤ g.last) (hl : 1 ≤ l ∧ l ≤ 3) (hf : fitB g c k l p = true) : p + (l + lng k) - 1 ≤ g.last ∧ ∀ m, p ≤ m → m < p + (l + lng k) → ¬ covd g c m := by
  obtain ⟨f1, f2⟩ := of_decide_eq_true hf
  have hla := hg.last7
  have hlb := lng_b (k := k)
  refine ⟨f1, fun m m0 m1 hm => ?_⟩
  have hlt := mskN_lt (s := l + lng k) (p := p) (by omega) (by omega)
  refine (and_0 (by omega)).mp f2 m.toNat ?_ ((brdN_bit (by omega)).mpr hm)
  rw [mskN_bit]
  exact decide_eq_true (by omega)
theorem hlb0 (hg : WG g) (hN : g.nB = 1) : 1 ≤ g.sp 0 := by
  obtain ⟨-, q, -, q2, -⟩ := hg.2.2.2.2.2 0 (by omega) (by omega)
  rw [q2]; split <;> omega
theorem VN_addB (h : VN g c) (hg : WG g) (hn : g.nB < 2) (hp : 0 ≤ p ∧ p ≤ g.last) (hl : 1 ≤ l ∧ l ≤ 3) (hf : fitB g c k l p = true) : VN (addB g k l b) (setB c g.nB p) := by
  have h3 := hg.nB2
  have hla := hg.last7
  obtain ⟨f1, f2⟩ := fit_no hg hp hl hf
  have hlb := lng_b (k := k)
  obtain ⟨⟨v1, v2, v3, v4⟩, v5⟩ := h
  have en : (addB g k l b).nB = g.nB + 1 := by simp [addB, G.nB]
  have e4 : ∀ i, (addB g k l b).sp i = if i = g.nB then l + lng k else g.sp i := fun i => by simp [addB, G.sp]
  have e1 : (addB g k l b).last = g.last := rfl
  have e2 : (addB g k l b).nW = g.nW := rfl
  have bb : ∀ x, 0 ≤ x ∧ x < 2 → bAt (setB c g.nB p) x = if x = g.nB then p else bAt c x := fun x hx => bAt_setB ⟨h3.1, hn⟩ hx ⟨hp.1, by omega⟩
  have ww : ∀ v, 0 ≤ v ∧ v < 3 → wAt (setB c g.nB p) v = wAt c v := fun v hv => wAt_setB ⟨h3.1, hn⟩ hv ⟨hp.1, by omega⟩
  refine ⟨⟨setB_b v1 ⟨h3.1, hn⟩ ⟨hp.1, by omega⟩, fun x x0 x1 => ?_, fun x b0 b1 => ?_, fun q => ?_⟩, fun x b0 b1 => ?_⟩
  · rw [ww x ⟨x0, x1⟩, e1, e2]; exact v2 x x0 x1
  · rw [bb x ⟨b0, b1⟩, en, e4, e1, e2]
    obtain ⟨y1, y2⟩ := v3 x b0 b1
    by_cases hx : x = g.nB
    · rw [if_pos hx, if_pos hx]; exact ⟨fun _ => ⟨fun _ => f1, fun _ => by omega⟩, fun _ => by omega⟩
    · rw [if_neg hx, if_neg hx]; exact ⟨fun _ => y1 (by omega), fun _ => y2 (by omega)⟩
  · have hN : g.nB = 1 := by omega
    rw [bb 0 (by omega), bb 1 (by omega), e4, e4, if_neg (by omega), if_pos hN.symm, if_neg (by omega), if_pos hN.symm]
    refine ⟨fun _ _ => by omega, fun z _ => ?_⟩
    rcases Int.lt_or_le p (bAt c 0 + g.sp 0) with y | y
    · rcases Int.lt_or_le (bAt c 0) (p + (l + lng k)) with y2 | y2
      · exfalso
        rcases Int.le_total p (bAt c 0) with y3 | y3
        · exact f2 (bAt c 0) y3 y2 (Or.inl ⟨by omega, z, Int.le_refl _, by have := hlb0 hg hN; omega⟩)
        · exact f2 p (Int.le_refl _) (by omega) (Or.inl ⟨by omega, z, y3, y⟩)
      · exact Or.inr y2
    · exact Or.inl y
  · have hx2 : x < 2 := by omega
    rw [bb x ⟨b0, hx2⟩]
    by_cases hx : x = g.nB
    · rw [if_pos hx]; omega
    · rw [if_neg hx]; exact v5 x b0 (by omega)
end
