/-! digest, in both; codes stay without a board nowhere. -/
theorem nv_nxt {g : G} {c k w x y : Int} (hg : WG g) (hV : VC g c) (hN : NV g c) (hk : 0 ≤ k ∧ k ≤ 4) (hw : 0 ≤ w) (hx : 0 ≤ x) (hy : 0 ≤ y) (hs : such g k w x y) (hc : can g c k w x y) : NV g (nxt g c k w x y) := by
  have hn := hg.nB2; have hnw := hg.nW3; have h1 := hs.1; have h7 := hg.last7; have hq := wAt_b c w; have hst := stp_c x
  have sW : ∀ p, 0 ≤ p ∧ p < 8 → NV g (setW c w p) := fun p hp b b0 b1 => by
    rw [bAt_setW (by omega) ⟨b0, by omega⟩ hp]; exact hN b b0 b1
  have sB : ∀ e q, 0 ≤ e → e < g.nB → 0 ≤ q ∧ q < 15 → NV g (setB c e q) := fun e q e0 e1 hq b b0 b1 => by
    rw [bAt_setB (by omega) ⟨b0, by omega⟩ (by omega)]
    split
    · omega
    · exact hN b b0 b1
  have hk5 : k = 0 ∨ k = 1 ∨ k = 2 ∨ k = 3 ∨ k = 4 := by omega
  rcases hk5 with rfl | rfl | rfl | rfl | rfl
  · have := (can_0.mp hc).1
    simpa [nxt] using sW _ (by omega)
  · have hxb : x < g.nB := by simpa using hs.2.1
    have hr := (can_1.mp hc).2.1; have h4 := hg.sp14 hx hxb
    simpa [nxt] using sB x _ hx hxb (by omega)
  · have hxb : x < g.nB := by simpa using hs.2.1
    simpa [nxt] using sB x (8 + w) hx hxb (by omega)
  · have hxb : x < g.nB := by simpa using hs.2.1
    have hyb : y < g.nW := by simpa using hs.2.2
    simpa [nxt] using sB x (8 + y) hx hxb (by omega)
  · have := (leap_def.mp (can_4.mp hc)).2.1
    simpa [nxt] using sW _ (by omega)
theorem nv_outc {g : G} {c a : Int} (hg : WG g) (hV : VC g c) (hN : NV g c) (h : 0 ≤ outc g c a) : NV g (outc g c a) := by
  revert h
  unfold outc; split
  · by_cases hs : such g (a / 256) (a / 64 % 4) (a / 8 % 8) (a % 8)
    · by_cases hc : can g c (a / 256) (a / 64 % 4) (a / 8 % 8) (a % 8)
      · by_cases hw : well g (nxt g c (a / 256) (a / 64 % 4) (a / 8 % 8) (a % 8))
        · rw [outk_w hs hc hw]; intro _; exact nv_nxt hg hV hN (by omega) (by omega) (by omega) (by omega) hs hc
        · rw [outk_x hs hc hw]; intro q; omega
      · rw [outk_c hs hc]; intro q; omega
    · rw [outk_n hs]; intro q; omega
  · intro q; omega
theorem vn_why {g : G} {c a : Int} (hg : WG g) (hV : VN g c) (h : 0 ≤ why g c a) : VN g (why g c a) := by
  revert h; unfold why; split
  · exact fun h => ⟨vc_outc hg hV.1 h, nv_outc hg hV.1 hV.2 h⟩
  · intro q; omega
theorem OK.act {s : ST} {a : Int} (h : OK s) : OK (sAct s a) := by
  unfold sAct; split
  · exact h.bump 1
  · rename_i hn
    have hz := h.psz
    refine h.move (vn_why h.W h.vn (by omega)) ?_ ?_
    · unfold pushP; split
      · simp
      · simp; omega
    · have hp := h.1.2.2.2.2.2
      unfold pushP; split
      · rename_i h8
        intro i i0 i1
        simp only [if_true] at i1
        show VN (gg s) (if i = -1 then 8 else if i = 7 then cd s else s 3 3 (i + 1))
        rw [if_neg (by omega)]; split
        · exact h.vn
        · exact hp _ (by omega) (by omega)
      · intro i i0 i1
        simp only [if_true] at i1
        show VN (gg s) (if i = -1 then s 3 3 (-1) + 1 else if i = s 3 3 (-1) then cd s else s 3 3 i)
        rw [if_neg (by omega)]; split
        · exact h.vn
        · exact hp _ (by omega) (by omega)
theorem OK.undo {s : ST} (h : OK s) : OK (sUndo s) := by
  unfold sUndo; split
  · exact h.bump 1
  · have hz := h.psz; have hp := h.1.2.2.2.2.2
    refine h.move (hp _ (by omega) (by omega)) ?_ ?_
    · simp only [atm, if_true]; omega
    · intro i i0 i1
      simp only [atm, if_true] at i1
      rw [atm, if_neg (by omega)]; exact hp _ i0 (by omega)
theorem OK.typ {s : ST} {v n : Int} (h : OK s) : OK (sType s v n) := by
  have hz := h.tsz
  unfold sType; split
  · split
    · exact h.bump 2
    · refine h.text ?_
      rw [newT, if_pos rfl]; omega
  · exact h.bump 0
theorem OK.clear {s : ST} (h : OK s) : OK (sClear s) := h.text (by simp [atm])
theorem OK.erase {s : ST} (h : OK s) : OK (sErase s) := h.rule (by simp [atm]) (fun i i0 i1 => by simp [atm] at i1; omega)
theorem OK.write {s : ST} {c : Int} (h : OK s) : OK (sWrite s c) := by
  have hz := h.rsz; have hc := h.1.2.2.2.1
  unfold sWrite; split
  · split
    · exact h.bump 2
    · refine h.rule ?_ ?_
      · simp only [atm, if_true]; omega
      · intro i i0 i1
        simp only [atm, if_true] at i1
        rw [atm, if_neg (by omega), atm]; split
        · omega
        · exact hc i i0 (by omega)
  · exact h.bump 0
/-! sums -/
def dg (h v : Int) : Int := ladd (lmul 31 h) v
def dgr (f : Int → Int) (h k : Int) : Nat → Int
  | 0 => h
  | n + 1 => dgr f (dg h (f k)) (k + 1) n
theorem dgr_congr {f f' : Int → Int} : ∀ (n : Nat) (h k : Int), (∀ j, k ≤ j → j < k + n → f j = f' j) → dgr f h k n = dgr f' h k n := by
  intro n
  induction n with
  | zero => intro h k _; rfl
  | succ n ih =>
    intro h k e
    rw [dgr, dgr, e k (by omega) (by push_cast; omega)]
    exact ih _ _ (fun j j0 j1 => e j (by omega) (by push_cast; omega))
theorem dgr_shift {f : Int → Int} (m : Int) : ∀ (n : Nat) (h k : Int), dgr (fun j => f (m + j)) h k n = dgr f h (m + k) n := by
  intro n
  induction n with
  | zero => intro h k; rfl
  | succ n ih => intro h k; rw [dgr, dgr, ih]; congr 1; omega
theorem kill_I (x : Int) : kill (vI x) = vI x := rfl
theorem kill_R (k : Nat) : kill (vR k) = vR k := rfl
def fW (g : G) (c j : Int) : Int := if j % 3 = 0 then g.wt (j / 3) else if j % 3 = 1 then wAt c (j / 3) else g.gl (j / 3)
def fB (g : G) (c j : Int) : Int := if j % 4 = 0 then g.kd (j / 4) else if j % 4 = 1 then g.ln (j / 4) else if j % 4 = 2 then g.br (j / 4) else bAt c (j / 4)
def dgBog (g : G) (c h : Int) : Int := dgr (fB g c) (dgr (fW g c) (dgr (ground g) h 0 (g.last + 1).toNat) 0 (3 * g.nW.toNat)) 0 (4 * g.nB.toNat)
section
variable {d : Nat} {I J K : MM} {s : ST} {g : G} {a c w x y b p v i m f : Int}
theorem xd_loop1 (hA : At 2 I g) (hg : WG g) (v1 : AV) : ∀ (n : Nat) (k h : Int), k + n = g.last + 1 → 0 ≤ k → runs (call (d + 1)) 38 5 [vR 2, v1, vR 0, vL h, vR 0, vI k] [] I = runs (call (d + 1)) 38 34 [vR 2, v1, vR 0, vL (dgr (ground g) h k n), vR 0, vI (g.last + 1)] [] I := by
  have e := hA.last; have h7 := hg.last7
  intro n
  induction n with
  | zero =>
    intro k h hk k0
    have hk2 : k = g.last + 1 := by omega
    subst hk2
    simp (disch := omega) only [r38_0, r38_1, r38_2, r38_3, r38_5, r38_7, r38_8, r38_11, r38_14, r38_17, r38_18, r38_19, r38_20, r38_22, r38_25, r38_26, r38_27, r38_28, r38_31, r38_35, r38_37, r38_39, r38_40, r38_43, r38_46, r38_49, r38_50, r38_51, r38_52, r38_55, r38_57, r38_58, r38_59, r38_60, r38_61, r38_64, r38_65, r38_66, r38_67, r38_68, r38_71, r38_73, r38_76, r38_77, r38_78, r38_79, r38_82, r38_83, r38_84, r38_85, r38_88, r38_90, r38_91, r38_92, r38_93, r38_94, r38_97, r38_100, r38_101, r38_103, r38_105, r38_106, r38_109, r38_112, r38_115, r38_116, r38_117, r38_118, r38_121, r38_123, r38_124, r38_125, r38_126, r38_127, r38_130, r38_131, r38_132, r38_133, r38_136, r38_138, r38_139, r38_140, r38_141, r38_142, r38_145, r38_146, r38_147, r38_148, r38_151, r38_153, r38_154, r38_155, r38_156, r38_157, r38_160, r38_161, r38_162, r38_163, r38_164, r38_167, r38_169, r38_172, r38_173, r38_174, r38_175, r38_178, r38_181, r38_182, ↓if_pos, ↓if_neg, dgr]
  | succ n ih =>
    intro k h hk k0
    push_cast at hk
    rw [dgr, ← ih (k + 1) (dg h (ground g k)) (by omega) (by omega), r38_5]
    simp (disch := omega) only [r38_0, r38_1, r38_2, r38_3, r38_7, r38_8, r38_11, r38_14, r38_17, r38_18, r38_19, r38_20, r38_22, r38_25, r38_26, r38_27, r38_28, r38_31, r38_35, r38_37, r38_39, r38_40, r38_43, r38_46, r38_49, r38_50, r38_51, r38_52, r38_55, r38_57, r38_58, r38_59, r38_60, r38_61, r38_64, r38_65, r38_66, r38_67, r38_68, r38_71, r38_73, r38_76, r38_77, r38_78, r38_79, r38_82, r38_83, r38_84, r38_85, r38_88, r38_90, r38_91, r38_92, r38_93, r38_94, r38_97, r38_100, r38_101, r38_103, r38_105, r38_106, r38_109, r38_112, r38_115, r38_116, r38_117, r38_118, r38_121, r38_123, r38_124, r38_125, r38_126, r38_127, r38_130, r38_131, r38_132, r38_133, r38_136, r38_138, r38_139, r38_140, r38_141, r38_142, r38_145, r38_146, r38_147, r38_148, r38_151, r38_153, r38_154, r38_155, r38_156, r38_157, r38_160, r38_161, r38_162, r38_163, r38_164, r38_167, r38_169, r38_172, r38_173, r38_174, r38_175, r38_178, r38_181, r38_182, ↓if_pos, ↓if_neg, x_groundAt hA hg, iadd_eq, kill_R, kill_I, dg, Option.bind_some, pushR_s]
theorem xd_loop2 (hA : At 2 I g) (hg : WG g) (hI : I 2 4 = c) (hc : 0 ≤ c ∧ c < 131072) (v1 : AV) : ∀ (n : Nat) (k h : Int), k + n = g.nW → 0 ≤ k → runs (call (d + 1)) 38 37 [vR 2, v1, vR 0, vL h, vR 0, vI k] [] I = runs (call (d + 1)) 38 100 [vR 2, v1, vR 0, vL (dgr (fW g c) h (3 * k) (3 * n)), vR 0, vI g.nW] [] I := by
  have e := hA.nW; have h7 := hg.nW3
  intro n
  induction n with
  | zero =>
    intro k h hk k0
    have hk2 : k = g.nW := by omega
    subst hk2
    simp (disch := omega) only [r38_0, r38_1, r38_2, r38_3, r38_5, r38_7, r38_8, r38_11, r38_14, r38_17, r38_18, r38_19, r38_20, r38_22, r38_25, r38_26, r38_27, r38_28, r38_31, r38_34, r38_35, r38_37, r38_39, r38_40, r38_43, r38_46, r38_49, r38_50, r38_51, r38_52, r38_55, r38_57, r38_58, r38_59, r38_60, r38_61, r38_64, r38_65, r38_66, r38_67, r38_68, r38_71, r38_73, r38_76, r38_77, r38_78, r38_79, r38_82, r38_83, r38_84, r38_85, r38_88, r38_90, r38_91, r38_92, r38_93, r38_94, r38_97, r38_101, r38_103, r38_105, r38_106, r38_109, r38_112, r38_115, r38_116, r38_117, r38_118, r38_121, r38_123, r38_124, r38_125, r38_126, r38_127, r38_130, r38_131, r38_132, r38_133, r38_136, r38_138, r38_139, r38_140, r38_141, r38_142, r38_145, r38_146, r38_147, r38_148, r38_151, r38_153, r38_154, r38_155, r38_156, r38_157, r38_160, r38_161, r38_162, r38_163, r38_164, r38_167, r38_169, r38_172, r38_173, r38_174, r38_175, r38_178, r38_181, r38_182, ↓if_pos, ↓if_neg, Nat.mul_zero, dgr]
  | succ n ih =>
    intro k h hk k0
    push_cast at hk
    have f0 : fW g c (3 * k) = g.wt k := by unfold fW; rw [if_pos (by omega)]; congr 1; omega
    have f1 : fW g c (3 * k + 1) = wAt c k := by unfold fW; rw [if_neg (by omega), if_pos (by omega)]; congr 1; omega
    have f2 : fW g c (3 * k + 1 + 1) = g.gl k := by unfold fW; rw [if_neg (by omega), if_neg (by omega)]; congr 1; omega
    have e3 : 3 * (n + 1) = 3 * n + 1 + 1 + 1 := by omega
    have e4 : 3 * k + 1 + 1 + 1 = 3 * (k + 1) := by omega
    rw [e3, dgr, dgr, dgr, f0, f1, f2, e4, ← ih (k + 1) _ (by omega) (by omega), r38_37]
    simp (disch := omega) only [r38_0, r38_1, r38_2, r38_3, r38_5, r38_7, r38_8, r38_11, r38_14, r38_17, r38_18, r38_19, r38_20, r38_22, r38_25, r38_26, r38_27, r38_28, r38_31, r38_34, r38_35, r38_39, r38_40, r38_43, r38_46, r38_49, r38_50, r38_51, r38_52, r38_55, r38_57, r38_58, r38_59, r38_60, r38_61, r38_64, r38_65, r38_66, r38_67, r38_68, r38_71, r38_73, r38_76, r38_77, r38_78, r38_79, r38_82, r38_83, r38_84, r38_85, r38_88, r38_90, r38_91, r38_92, r38_93, r38_94, r38_97, r38_101, r38_103, r38_105, r38_106, r38_109, r38_112, r38_115, r38_116, r38_117, r38_118, r38_121, r38_123, r38_124, r38_125, r38_126, r38_127, r38_130, r38_131, r38_132, r38_133, r38_136, r38_138, r38_139, r38_140, r38_141, r38_142, r38_145, r38_146, r38_147, r38_148, r38_151, r38_153, r38_154, r38_155, r38_156, r38_157, r38_160, r38_161, r38_162, r38_163, r38_164, r38_167, r38_169, r38_172, r38_173, r38_174, r38_175, r38_178, r38_181, r38_182, ↓if_pos, ↓if_neg, x_walkerAt, hI, hA.wt, hA.gl, iadd_eq, kill_R, kill_I, dg, Option.bind_some, pushR_s]
theorem xd_loop3 (hA : At 2 I g) (hg : WG g) (hI : I 2 4 = c) (hc : 0 ≤ c ∧ c < 131072) (v1 : AV) : ∀ (n : Nat) (k h : Int), k + n = g.nB → 0 ≤ k → runs (call (d + 1)) 38 103 [vR 2, v1, vR 0, vL h, vR 0, vI k] [] I = some (some (vL (dgr (fB g c) h (4 * k) (4 * n))), I) := by
  have e := hA.nB; have h7 := hg.nB2
  intro n
  induction n with
  | zero =>
    intro k h hk k0
    have hk2 : k = g.nB := by omega
    subst hk2
    simp (disch := omega) only [r38_0, r38_1, r38_2, r38_3, r38_5, r38_7, r38_8, r38_11, r38_14, r38_17, r38_18, r38_19, r38_20, r38_22, r38_25, r38_26, r38_27, r38_28, r38_31, r38_34, r38_35, r38_37, r38_39, r38_40, r38_43, r38_46, r38_49, r38_50, r38_51, r38_52, r38_55, r38_57, r38_58, r38_59, r38_60, r38_61, r38_64, r38_65, r38_66, r38_67, r38_68, r38_71, r38_73, r38_76, r38_77, r38_78, r38_79, r38_82, r38_83, r38_84, r38_85, r38_88, r38_90, r38_91, r38_92, r38_93, r38_94, r38_97, r38_100, r38_101, r38_103, r38_105, r38_106, r38_109, r38_112, r38_115, r38_116, r38_117, r38_118, r38_121, r38_123, r38_124, r38_125, r38_126, r38_127, r38_130, r38_131, r38_132, r38_133, r38_136, r38_138, r38_139, r38_140, r38_141, r38_142, r38_145, r38_146, r38_147, r38_148, r38_151, r38_153, r38_154, r38_155, r38_156, r38_157, r38_160, r38_161, r38_162, r38_163, r38_164, r38_167, r38_169, r38_172, r38_173, r38_174, r38_175, r38_178, r38_181, r38_182, ↓if_pos, ↓if_neg, Nat.mul_zero, dgr]
  | succ n ih =>
    intro k h hk k0
    push_cast at hk
    have f0 : fB g c (4 * k) = g.kd k := by unfold fB; rw [if_pos (by omega)]; congr 1; omega
    have f1 : fB g c (4 * k + 1) = g.ln k := by unfold fB; rw [if_neg (by omega), if_pos (by omega)]; congr 1; omega
    have f2 : fB g c (4 * k + 1 + 1) = g.br k := by unfold fB; rw [if_neg (by omega), if_neg (by omega), if_pos (by omega)]; congr 1; omega
    have f3 : fB g c (4 * k + 1 + 1 + 1) = bAt c k := by unfold fB; rw [if_neg (by omega), if_neg (by omega), if_neg (by omega)]; congr 1; omega
    have e3 : 4 * (n + 1) = 4 * n + 1 + 1 + 1 + 1 := by omega
    have e4 : 4 * k + 1 + 1 + 1 + 1 = 4 * (k + 1) := by omega
    rw [e3, dgr, dgr, dgr, dgr, f0, f1, f2, f3, e4, ← ih (k + 1) _ (by omega) (by omega), r38_103]
    simp (disch := omega) only [r38_0, r38_1, r38_2, r38_3, r38_5, r38_7, r38_8, r38_11, r38_14, r38_17, r38_18, r38_19, r38_20, r38_22, r38_25, r38_26, r38_27, r38_28, r38_31, r38_34, r38_35, r38_37, r38_39, r38_40, r38_43, r38_46, r38_49, r38_50, r38_51, r38_52, r38_55, r38_57, r38_58, r38_59, r38_60, r38_61, r38_64, r38_65, r38_66, r38_67, r38_68, r38_71, r38_73, r38_76, r38_77, r38_78, r38_79, r38_82, r38_83, r38_84, r38_85, r38_88, r38_90, r38_91, r38_92, r38_93, r38_94, r38_97, r38_100, r38_101, r38_105, r38_106, r38_109, r38_112, r38_115, r38_116, r38_117, r38_118, r38_121, r38_123, r38_124, r38_125, r38_126, r38_127, r38_130, r38_131, r38_132, r38_133, r38_136, r38_138, r38_139, r38_140, r38_141, r38_142, r38_145, r38_146, r38_147, r38_148, r38_151, r38_153, r38_154, r38_155, r38_156, r38_157, r38_160, r38_161, r38_162, r38_163, r38_164, r38_167, r38_169, r38_172, r38_173, r38_174, r38_175, r38_178, r38_181, r38_182, ↓if_pos, ↓if_neg, x_boardAt, hI, hA.kd, hA.ln, hA.br, iadd_eq, kill_R, kill_I, dg, Option.bind_some, pushR_s]
theorem x_digestBog (hA : At 2 I g) (hg : WG g) (hI : I 2 4 = c) (hc : 0 ≤ c ∧ c < 131072) : call (d + 2) 38 [vR 2, vL x] I = some (some (vL (dgBog g c x)), I) := by
  have h7 := hg.last7; have hw := hg.nW3; have hb := hg.nB2
  rw [en38]
  simp (disch := omega) only [r38_0, r38_1, r38_2, r38_3, r38_7, r38_8, r38_11, r38_14, r38_17, r38_18, r38_19, r38_20, r38_22, r38_25, r38_26, r38_27, r38_28, r38_31, r38_34, r38_35, r38_37, r38_39, r38_40, r38_43, r38_46, r38_49, r38_50, r38_51, r38_52, r38_55, r38_57, r38_58, r38_59, r38_60, r38_61, r38_64, r38_65, r38_66, r38_67, r38_68, r38_71, r38_73, r38_76, r38_77, r38_78, r38_79, r38_82, r38_83, r38_84, r38_85, r38_88, r38_90, r38_91, r38_92, r38_93, r38_94, r38_97, r38_100, r38_101, r38_103, r38_105, r38_106, r38_109, r38_112, r38_115, r38_116, r38_117, r38_118, r38_121, r38_123, r38_124, r38_125, r38_126, r38_127, r38_130, r38_131, r38_132, r38_133, r38_136, r38_138, r38_139, r38_140, r38_141, r38_142, r38_145, r38_146, r38_147, r38_148, r38_151, r38_153, r38_154, r38_155, r38_156, r38_157, r38_160, r38_161, r38_162, r38_163, r38_164, r38_167, r38_169, r38_172, r38_173, r38_174, r38_175, r38_178, r38_181, r38_182, kill_R]
  rw [xd_loop1 hA hg _ (g.last + 1).toNat 0 x (by omega) (by omega)]
  simp (disch := omega) only [r38_0, r38_1, r38_2, r38_3, r38_5, r38_7, r38_8, r38_11, r38_14, r38_17, r38_18, r38_19, r38_20, r38_22, r38_25, r38_26, r38_27, r38_28, r38_31, r38_34, r38_35, r38_39, r38_40, r38_43, r38_46, r38_49, r38_50, r38_51, r38_52, r38_55, r38_57, r38_58, r38_59, r38_60, r38_61, r38_64, r38_65, r38_66, r38_67, r38_68, r38_71, r38_73, r38_76, r38_77, r38_78, r38_79, r38_82, r38_83, r38_84, r38_85, r38_88, r38_90, r38_91, r38_92, r38_93, r38_94, r38_97, r38_100, r38_101, r38_103, r38_105, r38_106, r38_109, r38_112, r38_115, r38_116, r38_117, r38_118, r38_121, r38_123, r38_124, r38_125, r38_126, r38_127, r38_130, r38_131, r38_132, r38_133, r38_136, r38_138, r38_139, r38_140, r38_141, r38_142, r38_145, r38_146, r38_147, r38_148, r38_151, r38_153, r38_154, r38_155, r38_156, r38_157, r38_160, r38_161, r38_162, r38_163, r38_164, r38_167, r38_169, r38_172, r38_173, r38_174, r38_175, r38_178, r38_181, r38_182, kill_R]
  rw [xd_loop2 hA hg hI hc _ g.nW.toNat 0 _ (by omega) (by omega)]
  simp (disch := omega) only [r38_0, r38_1, r38_2, r38_3, r38_5, r38_7, r38_8, r38_11, r38_14, r38_17, r38_18, r38_19, r38_20, r38_22, r38_25, r38_26, r38_27, r38_28, r38_31, r38_34, r38_35, r38_37, r38_39, r38_40, r38_43, r38_46, r38_49, r38_50, r38_51, r38_52, r38_55, r38_57, r38_58, r38_59, r38_60, r38_61, r38_64, r38_65, r38_66, r38_67, r38_68, r38_71, r38_73, r38_76, r38_77, r38_78, r38_79, r38_82, r38_83, r38_84, r38_85, r38_88, r38_90, r38_91, r38_92, r38_93, r38_94, r38_97, r38_100, r38_101, r38_105, r38_106, r38_109, r38_112, r38_115, r38_116, r38_117, r38_118, r38_121, r38_123, r38_124, r38_125, r38_126, r38_127, r38_130, r38_131, r38_132, r38_133, r38_136, r38_138, r38_139, r38_140, r38_141, r38_142, r38_145, r38_146, r38_147, r38_148, r38_151, r38_153, r38_154, r38_155, r38_156, r38_157, r38_160, r38_161, r38_162, r38_163, r38_164, r38_167, r38_169, r38_172, r38_173, r38_174, r38_175, r38_178, r38_181, r38_182, kill_R]
  rw [xd_loop3 hA hg hI hc _ g.nB.toNat 0 _ (by omega) (by omega)]
  rfl
theorem x_characterAt (hX : XR I s) (hO : OK s) (h0 : 0 ≤ i) (h1 : i < s 3 2 (-1)) : call (d + 1) 71 [vR 21, vI i] I = some (some (vI (s 3 2 i)), I) := by
  rw [en71]
  obtain ⟨e, e2⟩ := hX.R; have hz := hO.rsz; have e3 : I 22 i = s 3 2 i := e2 i h0 h1
  simp (disch := omega) only [r71_0, r71_1, r71_4, r71_5, r71_6, r71_9, r71_12, r71_13, r71_15, r71_18, r71_19, r71_22, r71_23, r71_24, r71_27, r71_28, ↓if_pos, ↓if_neg, e3]
theorem xd_loop4 (hX : XR I s) (hO : OK s) (v1 : AV) : ∀ (n : Nat) (k h : Int), k + n = s 3 2 (-1) → 0 ≤ k → runs (call (d + 1)) 82 5 [vR 21, v1, vR 0, vL h, vR 0, vI k] [] I = some (some (vL (dgr (s 3 2) h k n)), I) := by
  have e := hX.R.1; have hz := hO.rsz
  intro n
  induction n with
  | zero =>
    intro k h hk k0
    simp (disch := omega) only [r82_0, r82_1, r82_2, r82_3, r82_5, r82_7, r82_8, r82_11, r82_14, r82_17, r82_18, r82_19, r82_20, r82_22, r82_25, r82_26, r82_27, r82_28, r82_31, r82_34, r82_35, ↓if_pos, ↓if_neg, dgr]
  | succ n ih =>
    intro k h hk k0
    push_cast at hk
    rw [dgr, ← ih (k + 1) (dg h (s 3 2 k)) (by omega) (by omega), r82_5]
    simp (disch := omega) only [r82_0, r82_1, r82_2, r82_3, r82_7, r82_8, r82_11, r82_14, r82_17, r82_18, r82_19, r82_20, r82_22, r82_25, r82_26, r82_27, r82_28, r82_31, r82_34, r82_35, ↓if_pos, ↓if_neg, x_characterAt hX hO, iadd_eq, kill_R, kill_I, dg, Option.bind_some, pushR_s]
theorem x_digestRule (hX : XR I s) (hO : OK s) : call (d + 2) 82 [vR 21, vL x] I = some (some (vL (dgr (s 3 2) x 0 (s 3 2 (-1)).toNat)), I) := by
  have hz := hO.rsz
  rw [en82]
  simp (disch := omega) only [r82_0, r82_1, r82_2, r82_3, r82_7, r82_8, r82_11, r82_14, r82_17, r82_18, r82_19, r82_20, r82_22, r82_25, r82_26, r82_27, r82_28, r82_31, r82_34, r82_35, kill_R]
  rw [xd_loop4 hX hO _ (s 3 2 (-1)).toNat 0 x (by omega) (by omega)]
def dgF (p q h : Int) : Int := dgr (lmb q) (dgr (lmb p) (dg (dg (dg h (if p = 0 then 0 else 1)) (lsz p)) (lsz q)) 0 (lsz p).toNat) 0 (lsz q).toNat
theorem xd_loop5 (hX : XR I s) (v1 : AV) : ∀ (n : Nat) (k h : Int), k + n = lsz (s 3 5 0) → 0 ≤ k → runs (call (d + 1)) 51 47 [vR 36, v1, vR 0, vL h, vR 0, vI k] [] I = runs (call (d + 1)) 51 76 [vR 36, v1, vR 0, vL (dgr (lmb (s 3 5 0)) h k n), vR 0, vI (lsz (s 3 5 0))] [] I := by
  have e := hX.F.2.2.1; have hz := lsz_b (s 3 5 0)
  intro n
  induction n with
  | zero =>
    intro k h hk k0
    have hk2 : k = lsz (s 3 5 0) := by omega
    subst hk2
    simp (disch := omega) only [r51_0, r51_3, r51_4, r51_5, r51_6, r51_9, r51_12, r51_13, r51_16, r51_17, r51_18, r51_19, r51_20, r51_23, r51_24, r51_25, r51_26, r51_29, r51_30, r51_31, r51_32, r51_35, r51_36, r51_37, r51_38, r51_41, r51_42, r51_43, r51_44, r51_45, r51_47, r51_49, r51_50, r51_53, r51_56, r51_59, r51_60, r51_61, r51_62, r51_64, r51_67, r51_68, r51_69, r51_70, r51_73, r51_77, r51_79, r51_81, r51_82, r51_85, r51_88, r51_91, r51_92, r51_93, r51_94, r51_96, r51_99, r51_100, r51_101, r51_102, r51_105, r51_108, r51_109, ↓if_pos, ↓if_neg, dgr]
  | succ n ih =>
    intro k h hk k0
    push_cast at hk
    rw [dgr, ← ih (k + 1) (dg h (lmb (s 3 5 0) k)) (by omega) (by omega), r51_47]
    simp (disch := omega) only [r51_0, r51_3, r51_4, r51_5, r51_6, r51_9, r51_12, r51_13, r51_16, r51_17, r51_18, r51_19, r51_20, r51_23, r51_24, r51_25, r51_26, r51_29, r51_30, r51_31, r51_32, r51_35, r51_36, r51_37, r51_38, r51_41, r51_42, r51_43, r51_44, r51_45, r51_49, r51_50, r51_53, r51_56, r51_59, r51_60, r51_61, r51_62, r51_64, r51_67, r51_68, r51_69, r51_70, r51_73, r51_77, r51_79, r51_81, r51_82, r51_85, r51_88, r51_91, r51_92, r51_93, r51_94, r51_96, r51_99, r51_100, r51_101, r51_102, r51_105, r51_108, r51_109, ↓if_pos, ↓if_neg, x_aboveLimb hX, iadd_eq, kill_R, kill_I, dg, Option.bind_some, pushR_s]
theorem xd_loop6 (hX : XR I s) (v1 : AV) : ∀ (n : Nat) (k h : Int), k + n = lsz (s 3 5 1) → 0 ≤ k → runs (call (d + 1)) 51 79 [vR 36, v1, vR 0, vL h, vR 0, vI k] [] I = some (some (vL (dgr (lmb (s 3 5 1)) h k n)), I) := by
  have e := hX.F.2.2.2; have hz := lsz_b (s 3 5 1)
  intro n
  induction n with
  | zero =>
    intro k h hk k0
    simp (disch := omega) only [r51_0, r51_3, r51_4, r51_5, r51_6, r51_9, r51_12, r51_13, r51_16, r51_17, r51_18, r51_19, r51_20, r51_23, r51_24, r51_25, r51_26, r51_29, r51_30, r51_31, r51_32, r51_35, r51_36, r51_37, r51_38, r51_41, r51_42, r51_43, r51_44, r51_45, r51_47, r51_49, r51_50, r51_53, r51_56, r51_59, r51_60, r51_61, r51_62, r51_64, r51_67, r51_68, r51_69, r51_70, r51_73, r51_76, r51_77, r51_79, r51_81, r51_82, r51_85, r51_88, r51_91, r51_92, r51_93, r51_94, r51_96, r51_99, r51_100, r51_101, r51_102, r51_105, r51_108, r51_109, ↓if_pos, ↓if_neg, dgr]
  | succ n ih =>
    intro k h hk k0
    push_cast at hk
    rw [dgr, ← ih (k + 1) (dg h (lmb (s 3 5 1) k)) (by omega) (by omega), r51_79]
    simp (disch := omega) only [r51_0, r51_3, r51_4, r51_5, r51_6, r51_9, r51_12, r51_13, r51_16, r51_17, r51_18, r51_19, r51_20, r51_23, r51_24, r51_25, r51_26, r51_29, r51_30, r51_31, r51_32, r51_35, r51_36, r51_37, r51_38, r51_41, r51_42, r51_43, r51_44, r51_45, r51_47, r51_49, r51_50, r51_53, r51_56, r51_59, r51_60, r51_61, r51_62, r51_64, r51_67, r51_68, r51_69, r51_70, r51_73, r51_76, r51_77, r51_81, r51_82, r51_85, r51_88, r51_91, r51_92, r51_93, r51_94, r51_96, r51_99, r51_100, r51_101, r51_102, r51_105, r51_108, r51_109, ↓if_pos, ↓if_neg, x_belowLimb hX, iadd_eq, kill_R, kill_I, dg, Option.bind_some, pushR_s]
theorem x_digestFrac (hX : XR I s) (hO : OK s) : call (d + 2) 51 [vR 36, vL x] I = some (some (vL (dgF (s 3 5 0) (s 3 5 1) x)), I) := by
  have e := hX.F.2.2.1; have e2 := hX.F.2.2.2; have hz := lsz_b (s 3 5 0); have hz2 := lsz_b (s 3 5 1); have hz3 := lsz_z hO.2.2.1.1
  rw [en51]
  by_cases h : s 3 5 0 = 0
  · have e0 : lsz (s 3 5 0) = 0 := hz3.mpr h
    simp (disch := omega) only [r51_0, r51_3, r51_4, r51_5, r51_6, r51_9, r51_12, r51_13, r51_16, r51_17, r51_18, r51_19, r51_20, r51_23, r51_24, r51_25, r51_26, r51_29, r51_30, r51_31, r51_32, r51_35, r51_36, r51_37, r51_38, r51_41, r51_42, r51_43, r51_44, r51_45, r51_49, r51_50, r51_53, r51_56, r51_59, r51_60, r51_61, r51_62, r51_64, r51_67, r51_68, r51_69, r51_70, r51_73, r51_76, r51_77, r51_79, r51_81, r51_82, r51_85, r51_88, r51_91, r51_92, r51_93, r51_94, r51_96, r51_99, r51_100, r51_101, r51_102, r51_105, r51_108, r51_109, ↓if_pos, ↓if_neg, kill_R]
    rw [xd_loop5 hX _ (lsz (s 3 5 0)).toNat 0 _ (by omega) (by omega)]
    simp (disch := omega) only [r51_0, r51_3, r51_4, r51_5, r51_6, r51_9, r51_12, r51_13, r51_16, r51_17, r51_18, r51_19, r51_20, r51_23, r51_24, r51_25, r51_26, r51_29, r51_30, r51_31, r51_32, r51_35, r51_36, r51_37, r51_38, r51_41, r51_42, r51_43, r51_44, r51_45, r51_47, r51_49, r51_50, r51_53, r51_56, r51_59, r51_60, r51_61, r51_62, r51_64, r51_67, r51_68, r51_69, r51_70, r51_73, r51_76, r51_77, r51_81, r51_82, r51_85, r51_88, r51_91, r51_92, r51_93, r51_94, r51_96, r51_99, r51_100, r51_101, r51_102, r51_105, r51_108, r51_109, kill_R]
    rw [xd_loop6 hX _ (lsz (s 3 5 1)).toNat 0 _ (by omega) (by omega)]
    rw [dgF, if_pos h, e, e2]; rfl
  · simp (disch := omega) only [r51_0, r51_3, r51_4, r51_5, r51_6, r51_9, r51_12, r51_13, r51_16, r51_17, r51_18, r51_19, r51_20, r51_23, r51_24, r51_25, r51_26, r51_29, r51_30, r51_31, r51_32, r51_35, r51_36, r51_37, r51_38, r51_41, r51_42, r51_43, r51_44, r51_45, r51_49, r51_50, r51_53, r51_56, r51_59, r51_60, r51_61, r51_62, r51_64, r51_67, r51_68, r51_69, r51_70, r51_73, r51_76, r51_77, r51_79, r51_81, r51_82, r51_85, r51_88, r51_91, r51_92, r51_93, r51_94, r51_96, r51_99, r51_100, r51_101, r51_102, r51_105, r51_108, r51_109, ↓if_pos, ↓if_neg, kill_R]
    rw [xd_loop5 hX _ (lsz (s 3 5 0)).toNat 0 _ (by omega) (by omega)]
    simp (disch := omega) only [r51_0, r51_3, r51_4, r51_5, r51_6, r51_9, r51_12, r51_13, r51_16, r51_17, r51_18, r51_19, r51_20, r51_23, r51_24, r51_25, r51_26, r51_29, r51_30, r51_31, r51_32, r51_35, r51_36, r51_37, r51_38, r51_41, r51_42, r51_43, r51_44, r51_45, r51_47, r51_49, r51_50, r51_53, r51_56, r51_59, r51_60, r51_61, r51_62, r51_64, r51_67, r51_68, r51_69, r51_70, r51_73, r51_76, r51_77, r51_81, r51_82, r51_85, r51_88, r51_91, r51_92, r51_93, r51_94, r51_96, r51_99, r51_100, r51_101, r51_102, r51_105, r51_108, r51_109, kill_R]
    rw [xd_loop6 hX _ (lsz (s 3 5 1)).toNat 0 _ (by omega) (by omega)]
    rw [dgF, if_neg h, e, e2]; rfl
def aDigest (s : ST) : Int := dgF (s 3 5 0) (s 3 5 1) (dgr (s 3 2) (dgBog (gg s) (cd s) (dgr (amt s) 653 0 6)) 0 (s 3 2 (-1)).toNat)
theorem X_digest (hX : XR I s) (hO : OK s) : call (d + 3) 136 [vR 1] I = some (some (vL (aDigest s)), I) := by
  rw [en136]
  simp (disch := omega) only [r136_0, r136_3, r136_4, r136_5, r136_6, r136_7, r136_8, r136_11, r136_14, r136_15, r136_16, r136_17, r136_18, r136_21, r136_22, r136_23, r136_24, r136_27, r136_30, r136_31, r136_34, r136_35, r136_38, r136_39, r136_40, r136_43, r136_44, r136_47, r136_48, r136_49, r136_52, r136_53, r136_56, ↓if_pos, ↓if_neg, x_amount hX, iadd_eq, Int.reduceAdd, x_digestBog hX.A hO.W hX.n hO.V.c, x_digestRule hX hO, x_digestFrac hX hO, kill_R, kill_I, Option.bind_some, pushR_s]
  rfl
end
