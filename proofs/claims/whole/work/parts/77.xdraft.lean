/-! The draft of the class: begun anew, a walker more. -/
def rstG (g : G) (l : Int) : G := fun j i => if j = 0 then (if i = 0 then l else 0) else g j i
def addW (g : G) (w e : Int) : G := fun j i => if j = 0 ∧ i = 2 then g.nW + 1 else if j = 1 ∧ i = g.nW then w else if j = 2 ∧ i = g.nW then e else g j i
/-- the draft's cells alone -/
def FrD (I J : MM) : Prop := ∀ a i, ¬ (10 ≤ a ∧ a < 18) → J a i = I a i
section
variable {d : Nat} {I J K : MM} {g : G} {c l w e p : Int}
theorem x_restart' (hA : At 10 I g) : ∃ J, call (d + 1) 0 [vR 10, vI l] I = some (none, J) ∧ BX 10 J (rstG g l) 0 ∧ FrD I J := by
  refine ⟨mset (mset (mset (mset (mset I 10 0 l) 10 1 0) 10 2 0) 10 3 0) 10 4 0, ?_, ⟨fun j i hj hr => ?_, by simp [mset_at]⟩, fun a i h => ?_⟩
  · rw [en0]
    simp (disch := omega) only [r0_0, r0_1, r0_2, r0_5, r0_6, r0_7, r0_10, r0_11, r0_12, r0_15, r0_16, r0_17, r0_20, r0_21, r0_22, r0_25]
  · unfold rstG
    by_cases h0 : j = 0
    · subst h0
      rw [if_pos rfl]
      have hr2 : 0 ≤ i ∧ i < 4 := by simpa [rng] using hr
      have : i = 0 ∨ i = 1 ∨ i = 2 ∨ i = 3 := by omega
      rcases this with rfl | rfl | rfl | rfl <;> simp [mset_at]
    · rw [if_neg h0]
      rw [mset_at, if_neg (by omega), mset_at, if_neg (by omega), mset_at, if_neg (by omega), mset_at, if_neg (by omega), mset_at, if_neg (by omega)]
      exact hA j i hj hr
  · rw [mset_at, if_neg (by omega), mset_at, if_neg (by omega), mset_at, if_neg (by omega), mset_at, if_neg (by omega), mset_at, if_neg (by omega)]
theorem x_addW' (hB : BX 10 I g c) (hn : 0 ≤ g.nW ∧ g.nW < 3) (hc : 0 ≤ c ∧ c < 131072) (hp : 0 ≤ p ∧ p < 8) : ∃ J, call (d + 2) 2 [vR 10, vI w, vI p, vI e] I = some (none, J) ∧ BX 10 J (addW g w e) (setW c g.nW p) ∧ FrD I J := by
  obtain ⟨hA, h4⟩ := hB
  have h2 : I 10 2 = g.nW := hA 0 2 (by omega) (by simp [rng])
  have hw : ∀ M : MM, call (d + 1) 10 [vR 10, vI c, vI g.nW, vI p] M = some (some (vI (setW c g.nW p)), M) := fun M => x_withWalker' hc hn hp
  refine ⟨mset (mset (mset (mset I 11 g.nW w) 12 g.nW e) 10 4 (setW c g.nW p)) 10 2 (g.nW + 1), ?_, ⟨fun j i hj hr => ?_, by simp [mset_at]⟩, fun a i h => ?_⟩
  · rw [en2]
    simp (disch := omega) only [r2_0, r2_1, r2_4, r2_5, r2_8, r2_9, r2_12, r2_13, r2_16, r2_17, r2_18, r2_19, r2_22, r2_23, r2_26, r2_27, r2_28, r2_29, r2_30, r2_31, r2_34, r2_35, r2_38, r2_39, r2_42, r2_45, r2_46, r2_47, r2_50, r2_51, r2_52, r2_55, ↓if_pos, ↓if_neg, mset_at, h2, h4, hw, iadd_eq, Option.bind_some, pushR_s]
  · unfold addW
    have h0 := hA j i hj hr
    simp only [mset_at]
    by_cases a1 : 10 + j = 10 ∧ i = 2
    · rw [if_pos a1, if_pos (by omega)]
    · rw [if_neg a1, if_neg (show ¬ (10 + j = 10 ∧ i = 4) by
        rintro ⟨z1, z2⟩
        have : j = 0 := by omega
        subst this; subst z2; simp [rng] at hr)]
      by_cases a2 : 10 + j = 12 ∧ i = g.nW
      · rw [if_pos a2, if_neg (by omega), if_neg (by omega), if_pos (by omega)]
      · rw [if_neg a2]
        by_cases a3 : 10 + j = 11 ∧ i = g.nW
        · rw [if_pos a3, if_neg (by omega), if_pos (by omega)]
        · rw [if_neg a3, if_neg (by omega), if_neg (by omega), if_neg (by omega)]
          exact h0
  · rw [mset_at, if_neg (by omega), mset_at, if_neg (by omega), mset_at, if_neg (by omega), mset_at, if_neg (by omega)]
end
