/-! The draft's code is one that can be. -/
section
variable {g : G} {c l v w e p k b : Int}
theorem VN_rst (hl : 1 ≤ l ∧ l ≤ 7) : VN (rstG g l) 0 := by
  have e2 : (rstG g l).nW = 0 := by simp [rstG, G.nW]
  have e3 : (rstG g l).nB = 0 := by simp [rstG, G.nB]
  refine ⟨⟨by omega, fun w w0 w1 => ⟨fun q => by omega, fun _ => by simp [wAt]⟩, ⟨fun b b0 b1 => ⟨fun q => by omega, fun _ => by simp [bAt]⟩, fun q => by omega⟩⟩, fun b b0 b1 => by omega⟩
theorem VN_isl (h : VN g c) : VN (islG g v) c := h
theorem VN_addW (h : VN g c) (hg : WG g) (hn : g.nW < 3) (hp : 0 ≤ p ∧ p ≤ g.last) : VN (addW g w e) (setW c g.nW p) := by
  have h3 := hg.nW3
  have hl := hg.last7
  obtain ⟨⟨v1, v2, v3, v4⟩, v5⟩ := h
  have en : (addW g w e).nW = g.nW + 1 := by simp [addW, G.nW]
  have bb : ∀ b, 0 ≤ b ∧ b < 2 → bAt (setW c g.nW p) b = bAt c b := fun b hb => bAt_setW ⟨h3.1, hn⟩ hb ⟨hp.1, by omega⟩
  have ww : ∀ v, 0 ≤ v ∧ v < 3 → wAt (setW c g.nW p) v = if v = g.nW then p else wAt c v := fun v hv => wAt_setW ⟨h3.1, hn⟩ hv ⟨hp.1, by omega⟩
  refine ⟨⟨setW_b v1 ⟨h3.1, hn⟩ ⟨hp.1, by omega⟩, fun x x0 x1 => ?_, fun b b0 b1 => ?_, fun q => ?_⟩, fun b b0 b1 => ?_⟩
  · have e1 : (addW g w e).last = g.last := rfl
    rw [ww x ⟨x0, x1⟩, en, e1]
    obtain ⟨y1, y2⟩ := v2 x x0 x1
    by_cases hx : x = g.nW
    · rw [if_pos hx]; exact ⟨fun _ => hp.2, fun _ => by omega⟩
    · rw [if_neg hx]; exact ⟨fun _ => y1 (by omega), fun _ => y2 (by omega)⟩
  · rw [bb b ⟨b0, b1⟩, en]
    obtain ⟨y1, y2⟩ := v3 b b0 b1
    refine ⟨fun q => ⟨(y1 q).1, fun z => ?_⟩, y2⟩
    rcases (y1 q).2 z with y | y
    · exact Or.inl (by omega)
    · exact Or.inr y
  · rw [bb 0 (by omega), bb 1 (by omega)]; exact v4 q
  · have := b1
    have hb2 : (addW g w e).nB = g.nB := rfl
    have := hg.nB2
    rw [bb b ⟨b0, by omega⟩]; exact v5 b b0 b1
end
