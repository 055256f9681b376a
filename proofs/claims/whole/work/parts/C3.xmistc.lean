/-! mist of the class. -/
abbrev kMist (n x : Int) : Prop := (0 ≤ n ∧ n ≤ 40) ∧ 0 ≤ x ∧ x ≤ 2
abbrev mrS (s : ST) (n : Int) : Int × Int × Int := mrr (s 3 2) (gg s) n.toNat 0 (cd s)
def aMist (s : ST) (n x : Int) : Int := if kMist n x then (if x = 0 then (mrS s n).2.1 else if x = 1 then arrv (gg s) (mrS s n).1 else (mrS s n).2.2) else -2
def sMist (s : ST) (n x : Int) : ST := if kMist n x then s else bump s 0
def FrP (I J : MM) : Prop := ∀ a i, a ≠ 23 → a ≠ 24 → a ≠ 34 → a ≠ 35 → ¬ (a = 21 ∧ (i = 3 ∨ i = 5 ∨ i = 6 ∨ i = 7 ∨ i = 8)) → J a i = I a i
section
variable {d : Nat} {I J K : MM} {r : Int → Int} {g : G} {c w k t v b p n x : Int} {s : ST}
theorem XR.P34 (hX : XR I s) (f : FrP I J) : XR J s :=
  ⟨hX.B.cong (fun a _ _ i => f a i (by omega) (by omega) (by omega) (by omega) (by omega)), hX.T.cong (f _ _ (by omega) (by omega) (by omega) (by omega) (by omega)) (fun i => f _ _ (by omega) (by omega) (by omega) (by omega) (by omega)), hX.R.cong (f _ _ (by omega) (by omega) (by omega) (by omega) (by omega)) (fun i => f _ _ (by omega) (by omega) (by omega) (by omega) (by omega)), hX.P.cong (f _ _ (by omega) (by omega) (by omega) (by omega) (by omega)) (fun i => f _ _ (by omega) (by omega) (by omega) (by omega) (by omega)), hX.C.cong (fun i _ => f _ _ (by omega) (by omega) (by omega) (by omega) (by omega)), hX.F.cong (fun i => f _ _ (by omega) (by omega) (by omega) (by omega) (by omega)) (fun i => f _ _ (by omega) (by omega) (by omega) (by omega) (by omega)) (f _ _ (by omega) (by omega) (by omega) (by omega) (by omega)) (f _ _ (by omega) (by omega) (by omega) (by omega) (by omega)), hX.I0.cong (fun a _ _ i => f a i (by omega) (by omega) (by omega) (by omega) (by omega)), hX.I1.cong (fun a _ _ i => f a i (by omega) (by omega) (by omega) (by omega) (by omega)), hX.K.cong (fun i => f _ _ (by omega) (by omega) (by omega) (by omega) (by omega)) (fun i => f _ _ (by omega) (by omega) (by omega) (by omega) (by omega))⟩
theorem FrP.out (f : FrP I J) : OUT [1, 21, 23, 24, 34, 35] I J := fun a ha i => f a i (fun q => ha (by simp [q])) (fun q => ha (by simp [q])) (fun q => ha (by simp [q])) (fun q => ha (by simp [q])) (fun q => ha (by simp [q.1]))
theorem mrr_vc (hg : WG g) : ∀ (f : Nat) (t c : Int), VC g c → VC g (mrr r g f t c).1
  | 0, _, _, hV => hV
  | f + 1, t, c, hV => by
    have h := (mww_vc (r := r) (t := t) hg 3 0 c hV).1
    rw [mrr]
    split
    · exact mrr_vc hg f (t + 1) _ h
    · exact h
theorem x_runS' (hX : XR I s) (hO : OK s) (hC : RCh I (s 3 2)) (hn : 0 ≤ n ∧ n ≤ 40) : ∃ K, call (d + 68) 52 [vR 34, vR 2, vR 21, vI n] I = some (none, K) ∧ K 34 1 = (mrS s n).1 ∧ K 34 2 = (mrS s n).2.1 ∧ K 34 3 = (mrS s n).2.2 ∧ FrP I K ∧ RCh K (s 3 2) := by
  obtain ⟨K, c1, m1, m2, m3, f1, f2, hK⟩ := x_run (d := d) hX.A hO.W hO.V hX.n hO.rb hX.R hC hn
  refine ⟨K, c1, m1, m2, m3, fun a i q1 q2 q3 q4 q5 => ?_, hK⟩
  have := f2 a i q1 q2 q5
  have e : (fun a i => if a = 34 ∨ a = 35 then I a i else K a i : MM) a i = K a i := by
    show (if a = 34 ∨ a = 35 then I a i else K a i) = K a i
    rw [if_neg (by omega)]
  rw [← e]; exact this
theorem X_mist (hX : XR I s) (hO : OK s) (hC : RCh I (s 3 2)) : XQ (d + 69) 128 [vI n, vI x] [1, 21, 23, 24, 34, 35] I (aMist s n x) (sMist s n x) (fun J => RCh J (s 3 2)) := by
  unfold aMist sMist
  by_cases h : kMist n x
  · rw [if_pos h, if_pos h]
    obtain ⟨hn, hx⟩ := h
    obtain ⟨K, c1, m1, m2, m3, f1, hK⟩ := x_runS' (d := d) hX hO hC hn
    have hXK := hX.P34 f1
    refine ⟨K, ?_, hXK, f1.out, hK⟩
    rw [en128]
    have ha := x_arrived (d := d + 65) (c := (mrS s n).1) hXK.A hO.W
    have hx3 : x = 0 ∨ x = 1 ∨ x = 2 := by omega
    rcases hx3 with rfl | rfl | rfl
    · simp (disch := omega) only [r128_0, r128_1, r128_4, r128_5, r128_7, r128_10, r128_11, r128_14, r128_15, r128_16, r128_19, r128_20, r128_22, r128_24, r128_27, r128_28, r128_29, r128_32, r128_33, r128_36, r128_37, r128_40, r128_41, r128_44, r128_45, r128_45a, r128_45b, r128_72, r128_73, r128_76, r128_79, r128_80, r128_81, r128_84, r128_85, r128_88, r128_91, r128_94, r128_95, r128_96, r128_99, r128_102, ↓if_pos, ↓if_neg, c1, m2, Option.bind_some, pushR_s, pushR_n]
    · have hcb : 0 ≤ (mrS s n).1 ∧ (mrS s n).1 < 131072 := (mrr_vc hO.W _ _ _ hO.V).c
      have ha := ha hcb
      simp (disch := omega) only [r128_0, r128_1, r128_4, r128_5, r128_7, r128_10, r128_11, r128_14, r128_15, r128_16, r128_19, r128_20, r128_22, r128_24, r128_27, r128_28, r128_29, r128_32, r128_33, r128_36, r128_37, r128_40, r128_41, r128_44, r128_45, r128_45a, r128_45b, r128_72, r128_73, r128_76, r128_79, r128_80, r128_81, r128_84, r128_85, r128_88, r128_91, r128_94, r128_95, r128_96, r128_99, r128_102, ↓if_pos, ↓if_neg, c1, m1, ha, Option.bind_some, pushR_s, pushR_n]
    · simp (disch := omega) only [r128_0, r128_1, r128_4, r128_5, r128_7, r128_10, r128_11, r128_14, r128_15, r128_16, r128_19, r128_20, r128_22, r128_24, r128_27, r128_28, r128_29, r128_32, r128_33, r128_36, r128_37, r128_40, r128_41, r128_44, r128_45, r128_45a, r128_45b, r128_72, r128_73, r128_76, r128_79, r128_80, r128_81, r128_84, r128_85, r128_88, r128_91, r128_94, r128_95, r128_96, r128_99, r128_102, ↓if_pos, ↓if_neg, c1, m3, Option.bind_some, pushR_s, pushR_n]
  · rw [if_neg h, if_neg h]
    have hC1 : RCh (xbump I 0) (s 3 2) := by
      have e : ∀ a, a ≠ 1 → ∀ i, (xbump I 0) a i = I a i := fun a ha i => xbump_o ha i
      rcases hC with q | ⟨q1, q2⟩
      · exact Or.inl ((e _ (by omega) _).trans q)
      · exact Or.inr ⟨(e _ (by omega) _).trans q1, q2.cong (e _ (by omega) _) (e _ (by omega) _) (fun i => e _ (by omega) _)⟩
    refine ⟨xbump I 0, ?_, hX.bump (by omega), fun a ha i => xbump_o (fun q => ha (by simp [q])) i, hC1⟩
    rw [en128]
    clear hC1 hC
    by_cases q0 : n < 0
    · simp (disch := omega) only [r128_0, r128_1, r128_4, r128_5, r128_7, r128_10, r128_11, r128_14, r128_15, r128_16, r128_19, r128_20, r128_22, r128_24, r128_27, r128_28, r128_29, r128_32, r128_33, r128_36, r128_37, r128_40, r128_41, r128_44, r128_45, r128_45a, r128_45b, r128_72, r128_73, r128_76, r128_79, r128_80, r128_81, r128_84, r128_85, r128_88, r128_91, r128_94, r128_95, r128_96, r128_99, r128_102, ↓if_pos, ↓if_neg, x_bad, Option.bind_some, pushR_s]
    by_cases q1 : 40 < n
    · simp (disch := omega) only [r128_0, r128_1, r128_4, r128_5, r128_7, r128_10, r128_11, r128_14, r128_15, r128_16, r128_19, r128_20, r128_22, r128_24, r128_27, r128_28, r128_29, r128_32, r128_33, r128_36, r128_37, r128_40, r128_41, r128_44, r128_45, r128_45a, r128_45b, r128_72, r128_73, r128_76, r128_79, r128_80, r128_81, r128_84, r128_85, r128_88, r128_91, r128_94, r128_95, r128_96, r128_99, r128_102, ↓if_pos, ↓if_neg, x_bad, Option.bind_some, pushR_s]
    by_cases q2 : x < 0
    · simp (disch := omega) only [r128_0, r128_1, r128_4, r128_5, r128_7, r128_10, r128_11, r128_14, r128_15, r128_16, r128_19, r128_20, r128_22, r128_24, r128_27, r128_28, r128_29, r128_32, r128_33, r128_36, r128_37, r128_40, r128_41, r128_44, r128_45, r128_45a, r128_45b, r128_72, r128_73, r128_76, r128_79, r128_80, r128_81, r128_84, r128_85, r128_88, r128_91, r128_94, r128_95, r128_96, r128_99, r128_102, ↓if_pos, ↓if_neg, x_bad, Option.bind_some, pushR_s]
    · simp (disch := omega) only [r128_0, r128_1, r128_4, r128_5, r128_7, r128_10, r128_11, r128_14, r128_15, r128_16, r128_19, r128_20, r128_22, r128_24, r128_27, r128_28, r128_29, r128_32, r128_33, r128_36, r128_37, r128_40, r128_41, r128_44, r128_45, r128_45a, r128_45b, r128_72, r128_73, r128_76, r128_79, r128_80, r128_81, r128_84, r128_85, r128_88, r128_91, r128_94, r128_95, r128_96, r128_99, r128_102, ↓if_pos, ↓if_neg, x_bad, Option.bind_some, pushR_s]
end
