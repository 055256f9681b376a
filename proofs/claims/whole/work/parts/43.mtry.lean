/-! Codes that can be stay such; canBe, doIt, tryAct of the model. -/
theorem VC.wz {g : G} {c w : Int} (h : VC g c) (h0 : 0 ≤ w) (h3 : w < 3) (h1 : g.nW ≤ w) : wAt c w = 0 := (h.2.1 w h0 h3).2 h1
theorem VC.bz {g : G} {c b : Int} (h : VC g c) (h0 : 0 ≤ b) (h2 : b < 2) (h1 : g.nB ≤ b) : bAt c b = 0 := (h.2.2.1 b h0 h2).2 h1
theorem vc_setW {g : G} {c w p : Int} (hg : WG g) (hV : VC g c) (h0 : 0 ≤ w) (h1 : w < g.nW) (hp : 0 ≤ p ∧ p ≤ g.last) : VC g (setW c w p) := by
  have hn := hg.nW3; have h7 := hg.last7
  have hw : 0 ≤ w ∧ w < 3 := by omega
  have hp8 : 0 ≤ p ∧ p < 8 := by omega
  obtain ⟨hc, hW, hB, hU⟩ := hV
  have eb : ∀ b, 0 ≤ b → b < 2 → bAt (setW c w p) b = bAt c b := fun b a1 a2 => bAt_setW hw ⟨a1, a2⟩ hp8
  refine ⟨setW_b hc hw hp8, ?_, ?_, ?_⟩
  · intro v v0 v3
    rw [wAt_setW hw ⟨v0, v3⟩ hp8]
    have := hW v v0 v3
    split
    · exact ⟨fun _ => hp.2, fun q => by omega⟩
    · exact this
  · intro b b0 b2
    rw [eb b b0 b2]; exact hB b b0 b2
  · intro q
    rw [eb 0 (by omega) (by omega), eb 1 (by omega) (by omega)]; exact hU q
theorem vc_setB {g : G} {c b q : Int} (hg : WG g) (hV : VC g c) (h0 : 0 ≤ b) (h1 : b < g.nB) (hq : 0 ≤ q ∧ q < 16) (hl : q < 8 → q + g.sp b - 1 ≤ g.last) (hr : 8 ≤ q → q < 8 + g.nW ∨ q = 15) (ho : ∀ e, 0 ≤ e → e < g.nB → e ≠ b → (8 ≤ q → q ≠ 15 → bAt c e ≠ q) ∧ (q < 8 → bAt c e < 8 → q + g.sp b ≤ bAt c e ∨ bAt c e + g.sp e ≤ q)) : VC g (setB c b q) := by
  have hn := hg.nB2
  have hb : 0 ≤ b ∧ b < 2 := by omega
  obtain ⟨hc, hW, hB, hU⟩ := hV
  have ew : ∀ w, 0 ≤ w → w < 3 → wAt (setB c b q) w = wAt c w := fun w a1 a2 => wAt_setB hb ⟨a1, a2⟩ hq
  have eb : ∀ e, 0 ≤ e → e < 2 → bAt (setB c b q) e = if e = b then q else bAt c e := fun e a1 a2 => bAt_setB hb ⟨a1, a2⟩ hq
  refine ⟨setB_b hc hb hq, ?_, ?_, ?_⟩
  · intro w w0 w3; rw [ew w w0 w3]; exact hW w w0 w3
  · intro e e0 e2
    rw [eb e e0 e2]
    have := hB e e0 e2
    split
    · rename_i h; subst h; exact ⟨fun _ => ⟨hl, hr⟩, fun z => by omega⟩
    · exact this
  · intro z
    rw [eb 0 (by omega) (by omega), eb 1 (by omega) (by omega)]
    rcases b01 hb with rfl | rfl
    · have := ho 1 (by omega) (by omega) (by omega)
      rw [if_pos rfl, if_neg (by omega)]
      exact ⟨fun a1 a2 a3 => this.1 a1 a2 a3.symm, fun a1 a2 => this.2 a1 a2⟩
    · have := ho 0 (by omega) (by omega) (by omega)
      rw [if_neg (by omega), if_pos rfl]
      exact ⟨fun a1 a2 a3 => this.1 (by omega) (by omega) a3, fun a1 a2 => (this.2 a2 a1).symm⟩
theorem cby_none {g : G} {c w : Int} (h : cby g c w = -1) {e : Int} (h0 : 0 ≤ e) (h1 : e < g.nB) (hg : WG g) : bAt c e ≠ 8 + w := by
  have hn := hg.nB2
  have := cby_carr.mp h
  intro q
  have he : e = 0 ∨ e = 1 := by omega
  rcases he with rfl | rfl
  · exact this (Or.inl ⟨h1, q⟩)
  · exact this (Or.inr ⟨h1, q⟩)
theorem layOK_apart {g : G} {c w b y e : Int} (hg : WG g) (h0 : 0 ≤ b) (h1 : b < g.nB) (he0 : 0 ≤ e) (he1 : e < g.nB) (h : layOK g c w b y) (hl : bAt c e < 8) : least g c w b y + g.sp b ≤ bAt c e ∨ bAt c e + g.sp e ≤ least g c w b y := by
  have h4 := hg.sp14 h0 h1; have h5 := hg.sp14 he0 he1; have hn := hg.nB2; have hq := bAt_b c e
  obtain ⟨hr, hw⟩ := h
  have hw2 := wet_def.mp hw
  generalize least g c w b y = p at *
  have hno : ∀ i, 0 ≤ i → i < g.sp b → ¬ hold g c (p + i) := by
    intro i i0 i1
    have hi : i = 0 ∨ i = 1 ∨ i = 2 ∨ i = 3 := by omega
    rcases hi with rfl | rfl | rfl | rfl
    · rw [Int.add_zero]; exact hw2.1.1 (by omega)
    · exact hw2.1.2 (by omega)
    · exact hw2.2.1 (by omega)
    · exact hw2.2.2 (by omega)
  rcases Int.lt_or_le (bAt c e) (p + g.sp b) with h6 | h6
  · rcases Int.lt_or_le p (bAt c e + g.sp e) with h7 | h7
    · exfalso
      have hcov : ∀ t, bAt c e ≤ t → t < bAt c e + g.sp e → hold g c t := by
        intro t t0 t1
        have hc : cov g c e t := ⟨hl, t0, t1⟩
        have hee : e = 0 ∨ e = 1 := by omega
        rcases hee with rfl | rfl
        · exact Or.inr (Or.inl ⟨he1, hc⟩)
        · exact Or.inr (Or.inr ⟨he1, hc⟩)
      rcases Int.lt_or_le (bAt c e) p with h8 | h8
      · exact hno 0 (by omega) (by omega) (hcov (p + 0) (by omega) (by omega))
      · exact hno (bAt c e - p) (by omega) (by omega) (hcov (p + (bAt c e - p)) (by omega) (by omega))
    · exact Or.inr h7
  · exact Or.inl h6
theorem vc_nxt {g : G} {c k w x y : Int} (hg : WG g) (hV : VC g c) (hk : 0 ≤ k ∧ k ≤ 4) (hw : 0 ≤ w) (hx : 0 ≤ x) (hy : 0 ≤ y) (hs : such g k w x y) (hc : can g c k w x y) : VC g (nxt g c k w x y) := by
  have hn := hg.nB2; have hnw := hg.nW3; have h1 := hs.1; have h7 := hg.last7
  have hk5 : k = 0 ∨ k = 1 ∨ k = 2 ∨ k = 3 ∨ k = 4 := by omega
  rcases hk5 with rfl | rfl | rfl | rfl | rfl
  · have := (can_0.mp hc).1
    simpa [nxt] using vc_setW hg hV hw h1 this
  · have hxb : x < g.nB := by simpa using hs.2.1
    obtain ⟨-, hL⟩ := can_1.mp hc
    have h4 := hg.sp14 hx hxb; have hr := hL.1
    have := vc_setB (q := least g c w x y) hg hV hx hxb (by omega) (fun _ => hr.2) (fun q => by omega) (fun e e0 e1 _ => ⟨fun q => by omega, fun _ hl => layOK_apart hg hx hxb e0 e1 hL hl⟩)
    simpa [nxt] using this
  · have hxb : x < g.nB := by simpa using hs.2.1
    have hT := can_2.mp hc
    have := vc_setB (q := 8 + w) hg hV hx hxb (by omega) (fun q => by omega) (fun _ => by omega) (fun e e0 e1 _ => ⟨fun _ _ => cby_none hT.2.2.2.2 e0 e1 hg, fun q => by omega⟩)
    simpa [nxt] using this
  · have hxb : x < g.nB := by simpa using hs.2.1
    have hyb : y < g.nW := by simpa using hs.2.2
    obtain ⟨-, hH⟩ := can_3.mp hc
    have := vc_setB (q := 8 + y) hg hV hx hxb (by omega) (fun q => by omega) (fun _ => by omega) (fun e e0 e1 _ => ⟨fun _ _ => cby_none hH.2 e0 e1 hg, fun q => by omega⟩)
    simpa [nxt] using this
  · have := (leap_def.mp (can_4.mp hc)).2.1
    simpa [nxt] using vc_setW hg hV hw h1 this
/-- only the act's places and what is remembered may differ -/
def Fr7 (I J : MM) : Prop := ∀ a i, a ≠ 77 → a ≠ 78 → a ≠ 79 → a ≠ 80 → J a i = I a i
theorem Fr7.refl (I : MM) : Fr7 I I := fun _ _ _ _ _ _ => rfl
theorem Fr7.trans {I J K : MM} (h1 : Fr7 I J) (h2 : Fr7 J K) : Fr7 I K := fun a i q1 q2 q3 q4 => (h2 a i q1 q2 q3 q4).trans (h1 a i q1 q2 q3 q4)
theorem Fr7.RG {I J : MM} {g : G} (h : Fr7 I J) (hR : RG I g) : RG J g := by
  have e : ∀ i, J 71 i = I 71 i := fun i => h 71 i (by decide) (by decide) (by decide) (by decide)
  obtain ⟨⟨a1, a2, a3⟩, a4, a5, a6⟩ := hR
  refine ⟨⟨(e _).trans a1, (e _).trans a2, (e _).trans a3⟩, fun p p0 p1 => (e p).trans (a4 p p0 p1), fun w w0 w1 => ⟨(e _).trans (a5 w w0 w1).1, (e _).trans (a5 w w0 w1).2⟩, fun b b0 b1 => ⟨(e _).trans (a6 b b0 b1).1, (e _).trans (a6 b b0 b1).2.1, (e _).trans (a6 b b0 b1).2.2⟩⟩
theorem Fr7.AF {I J : MM} {k w x y : Int} (h : Fr7 I J) (hF : AF I k w x y) : AF J k w x y := by
  have e : ∀ i, J 70 i = I 70 i := fun i => h 70 i (by decide) (by decide) (by decide) (by decide)
  obtain ⟨a, b, c, f⟩ := hF
  exact ⟨(e _).trans a, (e _).trans b, (e _).trans c, (e _).trans f⟩
def MB (I : MM) (g : G) (c : Int) : Prop := (∀ w, 0 ≤ w → w < g.nW → I 79 w = wAt c w) ∧ (∀ b, 0 ≤ b → b < g.nB → I 80 b = lie (bAt c b))
theorem memR_fr (I : MM) : Fr7 I (memR I) := by
  intro a i h1 h2 h3 h4
  simp [memR, mset_at, h3, h4]
theorem memB_fr (I : MM) : Fr7 I (memB I) := by
  intro a i h1 h2 h3 h4
  simp [memB, mset_at, h1, h2]
theorem memR_MB {I : MM} {g : G} {c : Int} (hg : WG g) (hM : MS I g c) : MB (memR I) g c ∧ MS (memR I) g c := by
  have hw := hg.nW3; have hb := hg.nB2
  refine ⟨⟨?_, ?_⟩, ?_, ?_⟩
  · intro w h0 h3
    have := hM.1 w h0 h3
    rcases w012 (w := w) (by omega) with rfl | rfl | rfl <;> simp [memR, mset_at] <;> exact this
  · intro b h0 h2
    have := hM.2 b h0 h2
    rcases b01 (b := b) (by omega) with rfl | rfl <;> simp [memR, mset_at] <;> exact this
  · intro w h0 h3
    simp [memR, mset_at]; exact hM.1 w h0 h3
  · intro b h0 h2
    simp [memR, mset_at]; exact hM.2 b h0 h2
theorem memB_MS {I : MM} {g : G} {c : Int} (hg : WG g) (hB : MB I g c) : MS (memB I) g c := by
  have hw := hg.nW3; have hb := hg.nB2
  refine ⟨?_, ?_⟩
  · intro w h0 h3
    have := hB.1 w h0 h3
    rcases w012 (w := w) (by omega) with rfl | rfl | rfl <;> simp [memB, mset_at] <;> exact this
  · intro b h0 h2
    have := hB.2 b h0 h2
    rcases b01 (b := b) (by omega) with rfl | rfl <;> simp [memB, mset_at] <;> exact this
theorem ms_setW {I : MM} {g : G} {c w p : Int} (hg : WG g) (hM : MS I g c) (hw : 0 ≤ w ∧ w < 3) (hp : 0 ≤ p ∧ p < 8) : MS (mset I 77 w p) g (setW c w p) := by
  have hnw := hg.nW3; have hnb := hg.nB2
  refine ⟨fun v v0 v3 => ?_, fun b b0 b2 => ?_⟩
  · rw [wAt_setW hw ⟨v0, by omega⟩ hp, mset_at]
    by_cases h : v = w
    · rw [if_pos ⟨rfl, h⟩, if_pos h]
    · rw [if_neg (fun q => h q.2), if_neg h]; exact hM.1 v v0 v3
  · rw [bAt_setW hw ⟨b0, by omega⟩ hp, mset_at, if_neg (fun q => absurd q.1 (by decide))]; exact hM.2 b b0 b2
theorem ms_setB {I : MM} {g : G} {c b q : Int} (hg : WG g) (hM : MS I g c) (hb : 0 ≤ b ∧ b < 2) (hq : 0 ≤ q ∧ q < 16) : MS (mset I 78 b (lie q)) g (setB c b q) := by
  have hnw := hg.nW3; have hnb := hg.nB2
  refine ⟨fun v v0 v3 => ?_, fun e e0 e2 => ?_⟩
  · rw [wAt_setB hb ⟨v0, by omega⟩ hq, mset_at, if_neg (fun z => absurd z.1 (by decide))]; exact hM.1 v v0 v3
  · rw [bAt_setB hb ⟨e0, by omega⟩ hq, mset_at]
    by_cases h : e = b
    · rw [if_pos ⟨rfl, h⟩, if_pos h]
    · rw [if_neg (fun q => h q.2), if_neg h]; exact hM.2 e e0 e2
theorem fr7_77 (I : MM) (i v : Int) : Fr7 I (mset I 77 i v) := fun a j h1 _ _ _ => by rw [mset_at, if_neg (fun q => h1 q.1)]
theorem fr7_78 (I : MM) (i v : Int) : Fr7 I (mset I 78 i v) := fun a j _ h1 _ _ => by rw [mset_at, if_neg (fun q => h1 q.1)]
section
variable {d : Nat} {I : MM} {g : G} {a c w x y b p v lo hi k : Int}
theorem retv {P Q : Prop} [Decidable P] [Decidable Q] {I : MM} (h : P ↔ Q) : (some (some (vI (if P then 1 else 0)), I) : Option RES) = some (some (vI (if Q then 1 else 0)), I) := by simp only [h]
theorem m_canBe (hR : RG I g) (hM : MS I g c) (hg : WG g) (hV : VC g c) (hF : AF I k w x y) (hk : 0 ≤ k ∧ k ≤ 4) (hw : 0 ≤ w) (hx : 0 ≤ x) (hy : 0 ≤ y) (hs : such g k w x y) : call (d + 6) 187 [vR 70] I = some (some (vI (if can g c k w x y then 1 else 0)), I) := by
  rw [en187]
  obtain ⟨f9, f10, f11, f12⟩ := hF
  have hnw := hg.nW3; have hnb := hg.nB2; have h1 := hs.1
  have ew := hM.1 w hw h1; have hq := wAt_b c w; have h7 := hg.last7
  have hk5 : k = 0 ∨ k = 1 ∨ k = 2 ∨ k = 3 ∨ k = 4 := by omega
  rcases hk5 with rfl | rfl | rfl | rfl | rfl
  · have hx2 : x < 2 ∧ y = 0 := by simpa [such] using hs.2
    have hst := stp_c x
    simp (disch := omega) only [r187_0, r187_1, r187_4, r187_5, r187_8, r187_9, r187_10, r187_11, r187_14, r187_14a, r187_14b, r187_14c, r187_14d, r187_44, r187_45, r187_46, r187_47, r187_50, r187_53, r187_54, r187_57, r187_58, r187_59, r187_60, r187_63, r187_64, r187_67, r187_68, r187_71, r187_74, r187_75, r187_76, r187_77, r187_80, r187_81, r187_84, r187_87, r187_88, r187_89, r187_90, r187_93, r187_94, r187_97, r187_98, r187_101, r187_104, r187_105, r187_106, r187_107, r187_110, r187_113, r187_114, r187_115, r187_116, r187_117, r187_118, r187_119, r187_122, r187_123, r187_126, r187_129, r187_130, r187_131, r187_134, r187_137, r187_138, r187_139, r187_140, r187_143, r187_146, r187_147, r187_150, r187_153, r187_154, r187_157, r187_158, ↓if_pos, ↓if_neg, f9, f10, f11, f12, ew, m_aheadBy, iadd_eq, m_isFirm hR hM hg, retb, Option.bind_some, pushR_s]
    exact retv can_0.symm
  · have hx2 : x < g.nB ∧ y < 2 := by simpa [such] using hs.2
    have hm := m_mayLay (d := d) (b := x) (w := w) (y := y) hR hM hg hV hx hx2.1 (by omega) (by omega)
    simp (disch := omega) only [r187_0, r187_1, r187_4, r187_5, r187_8, r187_9, r187_10, r187_11, r187_14, r187_14a, r187_14b, r187_14c, r187_14d, r187_44, r187_45, r187_46, r187_47, r187_50, r187_53, r187_54, r187_57, r187_58, r187_59, r187_60, r187_63, r187_64, r187_67, r187_68, r187_71, r187_74, r187_75, r187_76, r187_77, r187_80, r187_81, r187_84, r187_87, r187_88, r187_89, r187_90, r187_93, r187_94, r187_97, r187_98, r187_101, r187_104, r187_105, r187_106, r187_107, r187_110, r187_113, r187_114, r187_115, r187_116, r187_117, r187_118, r187_119, r187_122, r187_123, r187_126, r187_129, r187_130, r187_131, r187_134, r187_137, r187_138, r187_139, r187_140, r187_143, r187_146, r187_147, r187_150, r187_153, r187_154, r187_157, r187_158, ↓if_pos, ↓if_neg, f9, f10, f11, f12, hm, retb, Option.bind_some, pushR_s]
    exact retv can_1.symm
  · have hx2 : x < g.nB ∧ y = 0 := by simpa [such] using hs.2
    have hm := m_mayTake (d := d) (b := x) (w := w) hR hM hg hV hx hx2.1 (by omega)
    simp (disch := omega) only [r187_0, r187_1, r187_4, r187_5, r187_8, r187_9, r187_10, r187_11, r187_14, r187_14a, r187_14b, r187_14c, r187_14d, r187_44, r187_45, r187_46, r187_47, r187_50, r187_53, r187_54, r187_57, r187_58, r187_59, r187_60, r187_63, r187_64, r187_67, r187_68, r187_71, r187_74, r187_75, r187_76, r187_77, r187_80, r187_81, r187_84, r187_87, r187_88, r187_89, r187_90, r187_93, r187_94, r187_97, r187_98, r187_101, r187_104, r187_105, r187_106, r187_107, r187_110, r187_113, r187_114, r187_115, r187_116, r187_117, r187_118, r187_119, r187_122, r187_123, r187_126, r187_129, r187_130, r187_131, r187_134, r187_137, r187_138, r187_139, r187_140, r187_143, r187_146, r187_147, r187_150, r187_153, r187_154, r187_157, r187_158, ↓if_pos, ↓if_neg, f9, f10, f11, f12, hm, retb, Option.bind_some, pushR_s]
    exact retv can_2.symm
  · have hx2 : x < g.nB ∧ y < g.nW := by simpa [such] using hs.2
    have hm := m_mayHand (d := d + 2) (b := x) (w := w) (y := y) hR hM hg hV hx hx2.1 (by omega) (by omega)
    simp (disch := omega) only [r187_0, r187_1, r187_4, r187_5, r187_8, r187_9, r187_10, r187_11, r187_14, r187_14a, r187_14b, r187_14c, r187_14d, r187_44, r187_45, r187_46, r187_47, r187_50, r187_53, r187_54, r187_57, r187_58, r187_59, r187_60, r187_63, r187_64, r187_67, r187_68, r187_71, r187_74, r187_75, r187_76, r187_77, r187_80, r187_81, r187_84, r187_87, r187_88, r187_89, r187_90, r187_93, r187_94, r187_97, r187_98, r187_101, r187_104, r187_105, r187_106, r187_107, r187_110, r187_113, r187_114, r187_115, r187_116, r187_117, r187_118, r187_119, r187_122, r187_123, r187_126, r187_129, r187_130, r187_131, r187_134, r187_137, r187_138, r187_139, r187_140, r187_143, r187_146, r187_147, r187_150, r187_153, r187_154, r187_157, r187_158, ↓if_pos, ↓if_neg, f9, f10, f11, f12, hm, retb, Option.bind_some, pushR_s]
    exact retv can_3.symm
  · have hx2 : x < 2 ∧ y = 0 := by simpa [such] using hs.2
    have hst := stp_c x
    have hp := hV.pl hg hw h1
    have hL : can g c 4 w x y ↔ ¬ firm g c (wAt c w + stp x) ∧ firm g c (wAt c w + stp x + stp x) := can_4.trans leap_def
    by_cases hb : 0 ≤ wAt c w + stp x ∧ wAt c w + stp x ≤ g.last
    · rcases frm_c g c (wAt c w + stp x) with ⟨k0, p0⟩ | ⟨k0, p0⟩
      · rw [if_neg (fun q => (hL.mp q).1 p0)]; clear hL hs p0
        simp (disch := omega) only [r187_0, r187_1, r187_4, r187_5, r187_8, r187_9, r187_10, r187_11, r187_14, r187_14a, r187_14b, r187_14c, r187_14d, r187_44, r187_45, r187_46, r187_47, r187_50, r187_53, r187_54, r187_57, r187_58, r187_59, r187_60, r187_63, r187_64, r187_67, r187_68, r187_71, r187_74, r187_75, r187_76, r187_77, r187_80, r187_81, r187_84, r187_87, r187_88, r187_89, r187_90, r187_93, r187_94, r187_97, r187_98, r187_101, r187_104, r187_105, r187_106, r187_107, r187_110, r187_113, r187_114, r187_115, r187_116, r187_117, r187_118, r187_119, r187_122, r187_123, r187_126, r187_129, r187_130, r187_131, r187_134, r187_137, r187_138, r187_139, r187_140, r187_143, r187_146, r187_147, r187_150, r187_153, r187_154, r187_157, r187_158, ↓if_pos, ↓if_neg, f9, f10, f11, f12, ew, m_aheadBy, m_last hR, m_in, iadd_eq, m_isFirmi hR hM hg, k0, Option.bind_some, pushR_s]
      · rcases frm_c g c (wAt c w + stp x + stp x) with ⟨k1, p1⟩ | ⟨k1, p1⟩
        · rw [if_pos (hL.mpr ⟨p0, p1⟩)]; clear hL hs p0 p1
          simp (disch := omega) only [r187_0, r187_1, r187_4, r187_5, r187_8, r187_9, r187_10, r187_11, r187_14, r187_14a, r187_14b, r187_14c, r187_14d, r187_44, r187_45, r187_46, r187_47, r187_50, r187_53, r187_54, r187_57, r187_58, r187_59, r187_60, r187_63, r187_64, r187_67, r187_68, r187_71, r187_74, r187_75, r187_76, r187_77, r187_80, r187_81, r187_84, r187_87, r187_88, r187_89, r187_90, r187_93, r187_94, r187_97, r187_98, r187_101, r187_104, r187_105, r187_106, r187_107, r187_110, r187_113, r187_114, r187_115, r187_116, r187_117, r187_118, r187_119, r187_122, r187_123, r187_126, r187_129, r187_130, r187_131, r187_134, r187_137, r187_138, r187_139, r187_140, r187_143, r187_146, r187_147, r187_150, r187_153, r187_154, r187_157, r187_158, ↓if_pos, ↓if_neg, f9, f10, f11, f12, ew, m_aheadBy, m_last hR, m_in, iadd_eq, m_isFirmi hR hM hg, k0, k1, Option.bind_some, pushR_s]
        · rw [if_neg (fun q => p1 (hL.mp q).2)]; clear hL hs p0 p1
          simp (disch := omega) only [r187_0, r187_1, r187_4, r187_5, r187_8, r187_9, r187_10, r187_11, r187_14, r187_14a, r187_14b, r187_14c, r187_14d, r187_44, r187_45, r187_46, r187_47, r187_50, r187_53, r187_54, r187_57, r187_58, r187_59, r187_60, r187_63, r187_64, r187_67, r187_68, r187_71, r187_74, r187_75, r187_76, r187_77, r187_80, r187_81, r187_84, r187_87, r187_88, r187_89, r187_90, r187_93, r187_94, r187_97, r187_98, r187_101, r187_104, r187_105, r187_106, r187_107, r187_110, r187_113, r187_114, r187_115, r187_116, r187_117, r187_118, r187_119, r187_122, r187_123, r187_126, r187_129, r187_130, r187_131, r187_134, r187_137, r187_138, r187_139, r187_140, r187_143, r187_146, r187_147, r187_150, r187_153, r187_154, r187_157, r187_158, ↓if_pos, ↓if_neg, f9, f10, f11, f12, ew, m_aheadBy, m_last hR, m_in, iadd_eq, m_isFirmi hR hM hg, k0, k1, Option.bind_some, pushR_s]
    · rw [if_neg (fun q => by have := (hL.mp q).2.1; omega)]; clear hL hs
      simp (disch := omega) only [r187_0, r187_1, r187_4, r187_5, r187_8, r187_9, r187_10, r187_11, r187_14, r187_14a, r187_14b, r187_14c, r187_14d, r187_44, r187_45, r187_46, r187_47, r187_50, r187_53, r187_54, r187_57, r187_58, r187_59, r187_60, r187_63, r187_64, r187_67, r187_68, r187_71, r187_74, r187_75, r187_76, r187_77, r187_80, r187_81, r187_84, r187_87, r187_88, r187_89, r187_90, r187_93, r187_94, r187_97, r187_98, r187_101, r187_104, r187_105, r187_106, r187_107, r187_110, r187_113, r187_114, r187_115, r187_116, r187_117, r187_118, r187_119, r187_122, r187_123, r187_126, r187_129, r187_130, r187_131, r187_134, r187_137, r187_138, r187_139, r187_140, r187_143, r187_146, r187_147, r187_150, r187_153, r187_154, r187_157, r187_158, ↓if_pos, ↓if_neg, f9, f10, f11, f12, ew, m_aheadBy, m_last hR, m_in, iadd_eq, Option.bind_some, pushR_s]
theorem m_doIt (hR : RG I g) (hM : MS I g c) (hg : WG g) (hV : VC g c) (hF : AF I k w x y) (hk : 0 ≤ k ∧ k ≤ 4) (hw : 0 ≤ w) (hx : 0 ≤ x) (hy : 0 ≤ y) (hs : such g k w x y) (hc : can g c k w x y) : ∃ J, call (d + 4) 188 [vR 70] I = some (none, J) ∧ MS J g (nxt g c k w x y) ∧ Fr7 I J ∧ (∀ a, a ≠ 77 → a ≠ 78 → ∀ i, J a i = I a i) := by
  rw [en188]
  obtain ⟨f9, f10, f11, f12⟩ := hF
  have hnw := hg.nW3; have hnb := hg.nB2; have h1 := hs.1
  have ew := hM.1 w hw h1; have hq := wAt_b c w; have h7 := hg.last7
  have o77 : ∀ i v a, a ≠ 77 → a ≠ 78 → ∀ j, mset I 77 i v a j = I a j := fun i v a a1 _ j => by rw [mset_at, if_neg (fun q => a1 q.1)]
  have o78 : ∀ i v a, a ≠ 77 → a ≠ 78 → ∀ j, mset I 78 i v a j = I a j := fun i v a _ a1 j => by rw [mset_at, if_neg (fun q => a1 q.1)]
  have hk5 : k = 0 ∨ k = 1 ∨ k = 2 ∨ k = 3 ∨ k = 4 := by omega
  rcases hk5 with rfl | rfl | rfl | rfl | rfl
  · have hx2 : x < 2 ∧ y = 0 := by simpa [such] using hs.2
    have hst := stp_c x
    have hr := (can_0.mp hc).1; clear hs hc
    refine ⟨mset I 77 w (wAt c w + stp x), ?_, ?_, fr7_77 _ _ _, o77 _ _⟩
    · simp (disch := omega) only [r188_0, r188_1, r188_4, r188_7, r188_8, r188_11, r188_12, r188_15, r188_16, r188_17, r188_18, r188_21, r188_24, r188_25, r188_26, r188_29, r188_30, r188_33, r188_34, r188_37, r188_38, r188_41, r188_42, r188_45, r188_46, r188_47, r188_48, r188_49, r188_52, r188_55, r188_56, r188_57, r188_58, r188_61, r188_62, r188_65, r188_66, r188_69, r188_70, r188_73, r188_74, r188_77, r188_78, r188_79, r188_82, r188_83, r188_86, r188_87, r188_90, r188_93, r188_94, r188_97, r188_98, r188_101, r188_102, r188_105, r188_107, r188_108, r188_111, r188_112, r188_115, r188_116, r188_119, r188_122, r188_123, r188_126, r188_127, r188_128, ↓if_pos, ↓if_neg, f9, f10, f11, f12, ew, m_aheadBy, iadd_eq, Option.bind_some, pushR_s]
    · have := ms_setW hg hM (w := w) (p := wAt c w + stp x) (by omega) (by omega)
      simpa [nxt] using this
  · have hx2 : x < g.nB ∧ y < 2 := by simpa [such] using hs.2
    have hr := (can_1.mp hc).2.1; have h4 := hg.sp14 hx hx2.1; clear hs hc
    refine ⟨mset I 78 x (least g c w x y), ?_, ?_, fr7_78 _ _ _, o78 _ _⟩
    · simp (disch := omega) only [r188_0, r188_1, r188_4, r188_7, r188_8, r188_11, r188_12, r188_15, r188_16, r188_17, r188_18, r188_21, r188_24, r188_25, r188_26, r188_29, r188_30, r188_33, r188_34, r188_37, r188_38, r188_41, r188_42, r188_45, r188_46, r188_47, r188_48, r188_49, r188_52, r188_55, r188_56, r188_57, r188_58, r188_61, r188_62, r188_65, r188_66, r188_69, r188_70, r188_73, r188_74, r188_77, r188_78, r188_79, r188_82, r188_83, r188_86, r188_87, r188_90, r188_93, r188_94, r188_97, r188_98, r188_101, r188_102, r188_105, r188_107, r188_108, r188_111, r188_112, r188_115, r188_116, r188_119, r188_122, r188_123, r188_126, r188_127, r188_128, ↓if_pos, ↓if_neg, f9, f10, f11, f12, m_layFrom hR hM hg, Option.bind_some, pushR_s]
    · have := ms_setB hg hM (b := x) (q := least g c w x y) (by omega) (by omega)
      rw [lie_n (by omega)] at this
      simpa [nxt] using this
  · have hx2 : x < g.nB ∧ y = 0 := by simpa [such] using hs.2
    clear hs hc
    refine ⟨mset I 78 x (8 + w), ?_, ?_, fr7_78 _ _ _, o78 _ _⟩
    · simp (disch := omega) only [r188_0, r188_1, r188_4, r188_7, r188_8, r188_11, r188_12, r188_15, r188_16, r188_17, r188_18, r188_21, r188_24, r188_25, r188_26, r188_29, r188_30, r188_33, r188_34, r188_37, r188_38, r188_41, r188_42, r188_45, r188_46, r188_47, r188_48, r188_49, r188_52, r188_55, r188_56, r188_57, r188_58, r188_61, r188_62, r188_65, r188_66, r188_69, r188_70, r188_73, r188_74, r188_77, r188_78, r188_79, r188_82, r188_83, r188_86, r188_87, r188_90, r188_93, r188_94, r188_97, r188_98, r188_101, r188_102, r188_105, r188_107, r188_108, r188_111, r188_112, r188_115, r188_116, r188_119, r188_122, r188_123, r188_126, r188_127, r188_128, ↓if_pos, ↓if_neg, f9, f10, f11, f12, iadd_eq, Option.bind_some, pushR_s]
    · have := ms_setB hg hM (b := x) (q := 8 + w) (by omega) (by omega)
      rw [show lie (8 + w) = 8 + w from if_neg (by omega)] at this
      simpa [nxt] using this
  · have hx2 : x < g.nB ∧ y < g.nW := by simpa [such] using hs.2
    clear hs hc
    refine ⟨mset I 78 x (8 + y), ?_, ?_, fr7_78 _ _ _, o78 _ _⟩
    · simp (disch := omega) only [r188_0, r188_1, r188_4, r188_7, r188_8, r188_11, r188_12, r188_15, r188_16, r188_17, r188_18, r188_21, r188_24, r188_25, r188_26, r188_29, r188_30, r188_33, r188_34, r188_37, r188_38, r188_41, r188_42, r188_45, r188_46, r188_47, r188_48, r188_49, r188_52, r188_55, r188_56, r188_57, r188_58, r188_61, r188_62, r188_65, r188_66, r188_69, r188_70, r188_73, r188_74, r188_77, r188_78, r188_79, r188_82, r188_83, r188_86, r188_87, r188_90, r188_93, r188_94, r188_97, r188_98, r188_101, r188_102, r188_105, r188_107, r188_108, r188_111, r188_112, r188_115, r188_116, r188_119, r188_122, r188_123, r188_126, r188_127, r188_128, ↓if_pos, ↓if_neg, f9, f10, f11, f12, iadd_eq, Option.bind_some, pushR_s]
    · have := ms_setB hg hM (b := x) (q := 8 + y) (by omega) (by omega)
      rw [show lie (8 + y) = 8 + y from if_neg (by omega)] at this
      simpa [nxt] using this
  · have hx2 : x < 2 ∧ y = 0 := by simpa [such] using hs.2
    have hst := stp_c x
    have hr := (leap_def.mp (can_4.mp hc)).2.1; clear hs hc
    refine ⟨mset I 77 w (wAt c w + stp x + stp x), ?_, ?_, fr7_77 _ _ _, o77 _ _⟩
    · have e2 : wAt c w + 2 * stp x = wAt c w + stp x + stp x := by omega
      simp (disch := omega) only [r188_0, r188_1, r188_4, r188_7, r188_8, r188_11, r188_12, r188_15, r188_16, r188_17, r188_18, r188_21, r188_24, r188_25, r188_26, r188_29, r188_30, r188_33, r188_34, r188_37, r188_38, r188_41, r188_42, r188_45, r188_46, r188_47, r188_48, r188_49, r188_52, r188_55, r188_56, r188_57, r188_58, r188_61, r188_62, r188_65, r188_66, r188_69, r188_70, r188_73, r188_74, r188_77, r188_78, r188_79, r188_82, r188_83, r188_86, r188_87, r188_90, r188_93, r188_94, r188_97, r188_98, r188_101, r188_102, r188_105, r188_107, r188_108, r188_111, r188_112, r188_115, r188_116, r188_119, r188_122, r188_123, r188_126, r188_127, r188_128, ↓if_pos, ↓if_neg, f9, f10, f11, f12, ew, m_aheadBy, imul_eq, iadd_eq, e2, Option.bind_some, pushR_s]
    · have := ms_setW hg hM (w := w) (p := wAt c w + stp x + stp x) (by omega) (by omega)
      simpa [nxt] using this
end
