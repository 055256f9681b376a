/-! The law: its start, and the pure statement. -/
def g00 : G := fun j i => if j = 0 ∧ i = 0 then 7 else 0
def s00 : ST := fun a b => if a = 0 then g00 b else if a = 3 ∧ b = 5 then (fun i => if i = 1 then 1 else 0) else fun _ => 0
section
variable {L : Nat} {xs : Nat → Int32}
theorem WG_00 : WG g00 := by
  have e2 : g00.nW = 0 := rfl
  have e3 : g00.nB = 0 := rfl
  have e0 : g00.last = 7 := rfl
  have e1 : g00.isl = 0 := rfl
  exact ⟨by omega, by omega, by omega, by omega, fun w w0 w1 => absurd w1 (by omega), fun w w0 w1 => absurd w1 (by omega)⟩
theorem VN_00 : VN g00 0 := by
  have e2 : g00.nW = 0 := rfl
  have e3 : g00.nB = 0 := rfl
  refine ⟨⟨by omega, fun w w0 w1 => ⟨fun q => by omega, fun _ => by simp [wAt]⟩, ⟨fun b b0 b1 => ⟨fun q => by omega, fun _ => by simp [bAt]⟩, fun q => by omega⟩⟩, fun b b0 b1 => by omega⟩
theorem OK_00 : OK s00 := by
  refine ⟨⟨WG_00, VN_00, ⟨Int.le_refl 0, by decide⟩, fun i i0 i1 => absurd i1 (by show ¬ i < 0; omega), ⟨Int.le_refl 0, by decide⟩, fun i i0 i1 => absurd i1 (by show ¬ i < 0; omega)⟩, ⟨Int.le_refl 0, by decide⟩, ⟨Int.le_refl 0, by decide⟩, ⟨by decide, by decide⟩, ⟨Or.inl rfl, fun q => absurd q (by decide)⟩, ⟨Or.inl rfl, fun q => absurd q (by decide)⟩⟩
theorem At_00 : At 2 (I0 L xs) g00 := by
  intro j i hj hr
  have hc : j = 0 ∨ j = 1 ∨ j = 2 ∨ j = 3 ∨ j = 4 ∨ j = 5 ∨ j = 6 ∨ j = 7 := by omega
  rcases hc with rfl | rfl | rfl | rfl | rfl | rfl | rfl | rfl
  · show (if i = 0 then (7 : Int) else 0) = if (0 : Nat) = 0 ∧ i = 0 then 7 else 0
    by_cases h : i = 0
    · rw [if_pos h, if_pos ⟨rfl, h⟩]
    · rw [if_neg h, if_neg (fun z => h z.2)]
  all_goals rfl
theorem lmb_one {i : Int} (h : 0 < i ∧ i < 4) : lmb 1 i = 0 := by
  have hc : i = 1 ∨ i = 2 ∨ i = 3 := by omega
  rcases hc with rfl | rfl | rfl <;> decide
theorem XR_00 : XR (I0 L xs) s00 := by
  refine ⟨⟨At_00, rfl⟩, ⟨rfl, fun i i0 i1 => absurd i1 (by show ¬ i < 0; omega)⟩, ⟨rfl, fun i i0 i1 => absurd i1 (by show ¬ i < 0; omega)⟩, ⟨rfl, fun i i0 i1 => absurd i1 (by show ¬ i < 0; omega)⟩, ⟨rfl, rfl, rfl⟩, ⟨fun i i0 i1 => ?_, fun i i0 i1 => ?_, by show (0 : Int) = lsz 0; decide, by show (1 : Int) = lsz 1; decide⟩, ⟨rfl, fun q => absurd q (by decide)⟩, ⟨rfl, fun q => absurd q (by decide)⟩, ⟨rfl, rfl⟩⟩
  · show (0 : Int) = lmb 0 i
    unfold lmb; simp
  · show (if i = 0 then (1 : Int) else 0) = lmb 1 i
    by_cases h : i = 0
    · subst h; decide
    · rw [if_neg h, lmb_one (by omega)]
theorem ground_00 {p : Int} (h : 0 ≤ p ∧ p ≤ 7) : (I0 L xs) 71 p = ground g00 p := by
  have hc : p = 0 ∨ p = 1 ∨ p = 2 ∨ p = 3 ∨ p = 4 ∨ p = 5 ∨ p = 6 ∨ p = 7 := by omega
  rcases hc with rfl | rfl | rfl | rfl | rfl | rfl | rfl | rfl <;> rfl
theorem MR_00 : MR (I0 L xs) s00 := by
  have e2 : g00.nW = 0 := rfl
  have e3 : g00.nB = 0 := rfl
  have e0 : g00.last = 7 := rfl
  refine ⟨⟨⟨⟨rfl, rfl, rfl⟩, fun p p0 p1 => ground_00 ⟨p0, by rw [← e0]; exact p1⟩, fun w w0 w1 => absurd w1 (by show ¬ w < g00.nW; omega), fun w w0 w1 => absurd w1 (by show ¬ w < g00.nB; omega)⟩, ⟨fun w w0 w1 => absurd w1 (by show ¬ w < g00.nW; omega), fun w w0 w1 => absurd w1 (by show ¬ w < g00.nB; omega)⟩, ⟨rfl, fun i i0 i1 => absurd i1 (by show ¬ i < 0; omega)⟩, ⟨rfl, fun i i0 i1 => absurd i1 (by show ¬ i < 0; omega)⟩⟩, ⟨rfl, fun i i0 i1 => absurd i1 (by show ¬ i < 0; omega)⟩, ⟨rfl, rfl, rfl⟩, ⟨fun i i0 i1 => absurd i1 (by show ¬ i < 0; omega), fun i i0 i1 => ?_, by show (0 : Int) = lsz 0; decide, by show (1 : Int) = lsz 1; decide, by show (0 : Int) = if (0 : Int) = 0 then 0 else 1; decide⟩, ⟨rfl, fun q => absurd q (by decide)⟩, ⟨rfl, fun q => absurd q (by decide)⟩⟩
  have i1 : i < 1 := i1
  have : i = 0 := by omega
  subst this
  show (1 : Int) = lmb 1 0
  decide
theorem REL_00 : REL (I0 L xs) s00 0 := by
  refine ⟨XR_00, MR_00, OK_00, Or.inl rfl, SC0.ch ⟨rfl, ⟨rfl, rfl⟩, rfl, rfl, rfl⟩, ⟨⟨Int.le_refl 0, Int.le_refl 0⟩, fun c c0 c1 => Int.le_refl 0, rfl⟩⟩
theorem pure_law : LawPure := fun L xs hL => by
  obtain ⟨K, h⟩ := law_runs (L := (L : Int)) (by omega) 512 0 0 (I0 L xs) s00 (by omega) (by omega) (by omega) rfl (by omega) REL_00
  exact ⟨K, h⟩
end
