/-! The reader of the class: begun. -/
section
variable {d : Nat} {I J K : MM} {t : Int → Int} {g : G}
theorem x_readInto (hA : At 10 I g) (hT : TX I t) (hn : 0 ≤ t (-1) ∧ t (-1) ≤ 200) : ∃ J, call (d + 7) 98 [vR 20, vR 10] I = some (some (vI (rdL t 201 0 (rstG g 7) 0 0).2.1), J) ∧ BX 10 J (rdL t 201 0 (rstG g 7) 0 0).1.1 (rdL t 201 0 (rstG g 7) 0 0).1.2 ∧ J 20 5 = (rdL t 201 0 (rstG g 7) 0 0).2.2 ∧ FrX I J := by
  have f0 : FrR I (mset (mset I 20 1 0) 20 5 (-1)) := fun a i h => by rw [mset_at, if_neg (by omega), mset_at, if_neg (by omega)]
  have hA0 : At 10 (mset (mset I 20 1 0) 20 5 (-1)) g := hA.cong (fun a _ _ i => f0 a i (by omega))
  obtain ⟨J1, c1, b1, f1⟩ := x_restart' (d := d + 5) (l := 7) hA0
  have e1 : J1 20 1 = 0 := (f1 20 1 (by omega)).trans (by simp [mset_at])
  have e5 : J1 20 5 = -1 := (f1 20 5 (by omega)).trans (by simp [mset_at])
  have fx := f0.X.trans f1.X
  obtain ⟨J2, c2, b2, e2, f2⟩ := x_into (d := d) hn 201 0 (rstG g 7) 0 0 J1 (by omega) (by omega) b1 ⟨WG_rst (by omega), by simp⟩ ⟨e1, e5, fx.T hT⟩ (by omega)
  refine ⟨J2, ?_, b2, e2, fx.trans f2⟩
  rw [← c2, en98]
  simp (disch := omega) only [r98_0, r98_1, r98_2, r98_5, r98_6, r98_7, r98_10, r98_11, r98_13, r98_16, r98_17, r98_19, r98_22, r98_25, r98_26, r98_29, r98_30, r98_33, r98_36, r98_37, r98_40, r98_41, r98_42, r98_43, r98_44, r98_45, r98_48, r98_49, r98_52, r98_53, r98_56, r98_57, r98_60, r98_61, r98_64, r98_65, r98_68, r98_69, r98_70, r98_73, r98_76, r98_77, c1, Option.bind_some, pushR_n]
end
