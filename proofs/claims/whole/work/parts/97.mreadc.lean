/-! read of the model. -/
section
variable {d : Nat} {I J K : MM} {s : ST} {g : G}
theorem M_read (hM : MR I s) (hO : OK s) (g0 : G) : MA (d + 8) 228 [] I (aRead s g0) (sRead s g0) := by
  have hn := hO.2.1
  obtain ⟨J, f1, a1, b1⟩ := m_readM (d := d) hM.T hn g0
  obtain ⟨k1, k2⟩ := rdL_ok (t := s 3 1) 201 0 (rstG g0 7) 0 0 (WG_rst (by omega)) (VN_rst (by omega)) (by omega)
  unfold aRead sRead
  rw [show rdL (s 3 1) 201 0 (rstG g0 7) 0 0 = rdT s g0 from rfl] at *
  generalize rdT s g0 = r at *
  have hMJ : MR J s := hM.scr hO (fun i => f1 71 i (by omega) (by omega)) (fun i => f1 72 i (by omega) (by omega)) (fun i => f1 73 i (by omega) (by omega)) (fun i => f1 74 i (by omega) (by omega)) (fun i => f1 75 i (by omega) (by omega)) (fun i => f1 76 i (by omega) (by omega)) (fun i => f1 84 i (by omega) (by omega)) (f1 70 6 (by omega) (by omega)) (f1 70 20 (by omega) (by omega))
  have ho : OUT MC I J := fun a ha i => f1 a i (fun q => ha (by simp [q])) (fun q => ha (by simp [q.1]))
  by_cases h1 : r.2.1 < 0
  · rw [if_pos h1, if_pos h1]
    exact ⟨J, a1 h1, hMJ, ho⟩
  · rw [if_neg h1, if_neg h1]
    obtain ⟨c1, n1⟩ := b1 h1
    obtain ⟨L, c2, w1, w2, f2⟩ := m_putRead (d := d) n1 k1 k2.1
    have ho2 : OUT MC I L := fun a ha i => (f2 a i (fun q => ha (by simp [q])) (fun q => ha (by simp [q])) (fun q => ha (by simp [q])) (fun q => ha (by simp [q]))).trans (ho a ha i)
    have e2 : ∀ a, a ≠ 71 → a ≠ 77 → a ≠ 78 → a ≠ 85 → ∀ i, L a i = J a i := fun a q1 q2 q3 q4 i => f2 a i q1 q2 q3 q4
    by_cases h2 : well r.1.1 r.1.2
    · rw [if_pos h2] at c2
      rw [if_pos h2, if_pos h2]
      obtain ⟨r1, r2, r3, r4⟩ := w1 h2
      refine ⟨L, ?_, ⟨⟨r1, r2, ?_, ?_⟩, hMJ.T.cong (e2 _ (by omega) (by omega) (by omega) (by omega) _) (e2 _ (by omega) (by omega) (by omega) (by omega)), hMJ.C.cong (e2 _ (by omega) (by omega) (by omega) (by omega)), hMJ.F.cong (e2 _ (by omega) (by omega) (by omega) (by omega)) (e2 _ (by omega) (by omega) (by omega) (by omega)) (e2 _ (by omega) (by omega) (by omega) (by omega) _), hMJ.I0.cong (e2 _ (by omega) (by omega) (by omega) (by omega)) (e2 _ (by omega) (by omega) (by omega) (by omega)) hO.2.2.2.2.1, hMJ.I1.cong (e2 _ (by omega) (by omega) (by omega) (by omega)) (e2 _ (by omega) (by omega) (by omega) (by omega)) hO.2.2.2.2.2⟩, ho2⟩
      · rw [c1]
        simp (disch := omega) only [r228_0, r228_1, r228_2, r228_5, r228_6, r228_7, r228_10, r228_11, r228_12, r228_15, r228_16, r228_19, r228_22, r228_23, r228_26, r228_27, r228_30, r228_31, r228_34, r228_35, r228_36, r228_37, r228_38, r228_39, r228_42, r228_43, r228_46, r228_47, r228_50, r228_53, r228_54, r228_57, r228_58, r228_61, r228_64, r228_65, r228_68, r228_71, r228_72, r228_75, r228_76, r228_79, r228_80, r228_83, r228_84, r228_85, r228_88, r228_89, r228_92, r228_93, r228_96, r228_99, r228_101, r228_102, r228_105, r228_106, r228_107, r228_108, r228_111, r228_114, r228_115, r228_118, r228_119, r228_122, c2, ↓if_pos, ↓if_neg, Option.bind_some, pushR_s]
      · obtain ⟨u1, u2⟩ := hMJ.N.2.2.1
        have hr := hO.1.2.2.1
        refine ⟨(r4 26 (by omega) (by omega)).trans u1, fun i i0 i1 => (r4 _ (by omega) ?_).trans (u2 i i0 i1)⟩
        have i2 : i < s 3 2 (-1) := i1
        omega
      · refine ⟨r3, fun k k0 k1 => ?_⟩
        have : k < 0 := k1
        omega
    · rw [if_neg h2] at c2
      rw [if_neg h2, if_neg h2]
      have hML : MR L s := hMJ.scr hO (w2 h2) (e2 _ (by omega) (by omega) (by omega) (by omega)) (e2 _ (by omega) (by omega) (by omega) (by omega)) (e2 _ (by omega) (by omega) (by omega) (by omega)) (e2 _ (by omega) (by omega) (by omega) (by omega)) (e2 _ (by omega) (by omega) (by omega) (by omega)) (e2 _ (by omega) (by omega) (by omega) (by omega)) (e2 _ (by omega) (by omega) (by omega) (by omega) _) (e2 _ (by omega) (by omega) (by omega) (by omega) _)
      refine ⟨mbump L 1, ?_, hML.bump hO (by omega), fun a ha i => (mbump_o (fun q => ha (by simp [q])) i).trans (ho2 a ha i)⟩
      rw [c1]
      simp (disch := omega) only [r228_0, r228_1, r228_2, r228_5, r228_6, r228_7, r228_10, r228_11, r228_12, r228_15, r228_16, r228_19, r228_22, r228_23, r228_26, r228_27, r228_30, r228_31, r228_34, r228_35, r228_36, r228_37, r228_38, r228_39, r228_42, r228_43, r228_46, r228_47, r228_50, r228_53, r228_54, r228_57, r228_58, r228_61, r228_64, r228_65, r228_68, r228_71, r228_72, r228_75, r228_76, r228_79, r228_80, r228_83, r228_84, r228_85, r228_88, r228_89, r228_92, r228_93, r228_96, r228_99, r228_101, r228_102, r228_105, r228_106, r228_107, r228_108, r228_111, r228_114, r228_115, r228_118, r228_119, r228_122, c2, m_no, ↓if_pos, ↓if_neg, Option.bind_some, pushR_s]
end
