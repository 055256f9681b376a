/-! In mist: the model looks at boards. -/
/-- the board lies beside him, away from his goal -/
def bhd (g : G) (c w b : Int) : Bool := decide (bAt c b < 8 ∧ (if g.gl w = 1 then bAt c b + g.sp b else bAt c b - 1) = wAt c w)
def bbh (g : G) (c w : Int) : Int := if 0 < g.nB ∧ bhd g c w 0 = true then 0 else if 1 < g.nB ∧ bhd g c w 1 = true then 1 else -1
def mtk (g : G) (c w b : Int) : Bool := bhd g c w b && decide (0 ≤ outk g c 2 w b 0)
section
variable {d : Nat} {I J K : MM} {g : G} {c w k x y t v b p n : Int}
theorem bhd_d : bhd g c w b = true ↔ (bAt c b < 8 ∧ (if g.gl w = 1 then bAt c b + g.sp b else bAt c b - 1) = wAt c w) := ⟨of_decide_eq_true, decide_eq_true⟩
theorem out_take (hw : 0 ≤ w ∧ w < 3) (hb : 0 ≤ b ∧ b < 2) : outc g c (512 + 64 * w + 8 * b) = outk g c 2 w b 0 := by
  unfold outc
  rw [if_pos (by omega), show (512 + 64 * w + 8 * b) / 256 = 2 by omega, show (512 + 64 * w + 8 * b) / 64 % 4 = w by omega, show (512 + 64 * w + 8 * b) / 8 % 8 = b by omega, show (512 + 64 * w + 8 * b) % 8 = 0 by omega]
theorem out_lay (hw : 0 ≤ w ∧ w < 3) (hb : 0 ≤ b ∧ b < 2) (hy : y = 0 ∨ y = 1) : outc g c (256 + 64 * w + 8 * b + y) = outk g c 1 w b y := by
  unfold outc
  rw [if_pos (by omega), show (256 + 64 * w + 8 * b + y) / 256 = 1 by omega, show (256 + 64 * w + 8 * b + y) / 64 % 4 = w by omega, show (256 + 64 * w + 8 * b + y) / 8 % 8 = b by omega, show (256 + 64 * w + 8 * b + y) % 8 = y by omega]
theorem out_walk (hw : 0 ≤ w ∧ w < 3) (hy : y = 0 ∨ y = 1) : outc g c (64 * w + 8 * y) = outk g c 0 w y 0 := by
  unfold outc
  rw [if_pos (by omega), show (64 * w + 8 * y) / 256 = 0 by omega, show (64 * w + 8 * y) / 64 % 4 = w by omega, show (64 * w + 8 * y) / 8 % 8 = y by omega, show (64 * w + 8 * y) % 8 = 0 by omega]
theorem bhd_cov (hg : WG g) (hV : VC g c) (hw : 0 ≤ w ∧ w < g.nW) (hb : 0 ≤ b ∧ b < g.nB) (h : bhd g c w b = true) : (0 ≤ awy g c w ∧ awy g c w ≤ g.last) ∧ cov g c b (awy g c w) := by
  obtain ⟨h1, h2⟩ := bhd_d.mp h
  have hgl := (hg.2.2.2.2.1 w hw.1 hw.2).2
  have hb2 := hg.nB2
  have hsp := hg.sp14 hb.1 hb.2
  have hbb := bAt_b c b
  have hin := ((hV.2.2.1 b hb.1 (by omega)).1 hb.2).1 h1
  unfold awy
  rcases hgl with z | z
  · rw [z, if_neg (by omega)] at h2
    rw [z, if_pos rfl]
    exact ⟨by omega, h1, by omega, by omega⟩
  · rw [z, if_pos rfl] at h2
    rw [z, if_neg (by omega)]
    exact ⟨by omega, h1, by omega, by omega⟩
theorem bover_bhd (hg : WG g) (hV : VC g c) (hw : 0 ≤ w ∧ w < g.nW) (hb : 0 ≤ b ∧ b < g.nB) (h : bhd g c w b = true) : bover g c (awy g c w) = b := by
  obtain ⟨h1, h2⟩ := bhd_cov hg hV hw hb h
  have hb2 := hg.nB2
  unfold bover
  have hbc : b = 0 ∨ b = 1 := by omega
  rcases hbc with rfl | rfl
  · rw [if_pos ⟨hb.2, h1, h2⟩]
  · rw [if_neg, if_pos ⟨hb.2, h1, h2⟩]
    rintro ⟨-, -, z⟩
    have := (hV.2.2.2 hb.2).2 z.1 h2.1
    have e1 := z.2; have e2 := h2.2
    omega
theorem bbh_bover (hg : WG g) (hV : VC g c) (hw : 0 ≤ w ∧ w < g.nW) : (bbh g c w ≠ -1 → bbh g c w = bover g c (awy g c w) ∧ (0 ≤ bbh g c w ∧ bbh g c w < g.nB) ∧ bhd g c w (bbh g c w) = true) := by
  have hb2 := hg.nB2
  unfold bbh
  split
  · rename_i h
    intro _
    exact ⟨(bover_bhd hg hV hw ⟨by omega, h.1⟩ h.2).symm, ⟨by omega, h.1⟩, h.2⟩
  · split
    · rename_i h
      intro _
      exact ⟨(bover_bhd hg hV hw ⟨by omega, h.1⟩ h.2).symm, ⟨by omega, h.1⟩, h.2⟩
    · intro h; exact absurd rfl h
theorem bbh_no (hg : WG g) (hw : 0 ≤ w ∧ w < g.nW) (h : bbh g c w = -1) : ∀ b, 0 ≤ b → b < g.nB → ¬ bhd g c w b = true := by
  have hb2 := hg.nB2
  intro b b0 b1 z
  unfold bbh at h
  have hbc : b = 0 ∨ b = 1 := by omega
  rcases hbc with rfl | rfl
  · rw [if_pos ⟨b1, z⟩] at h; omega
  · split at h
    · omega
    · rw [if_pos ⟨b1, z⟩] at h; omega
/-- a board that covers the place away from his goal, but does not end there: he stands on it -/
theorem not_bhd (hg : WG g) (hV : VC g c) (hw : 0 ≤ w ∧ w < g.nW) (hq : bover g c (awy g c w) = b) (hb : b ≠ -1) (h : ¬ bhd g c w b = true) : outk g c 2 w b 0 < 0 ∧ outk g c 2 w b 0 ≠ -3 := by
  have hgl := (hg.2.2.2.2.1 w hw.1 hw.2).2
  have hbb := bover_b (g := g) (c := c) (p := awy g c w) hg
  have hcov : cov g c b (awy g c w) := by
    unfold bover at hq
    split at hq
    · rename_i z; rw [← hq]; exact z.2.2
    · split at hq
      · rename_i z; rw [← hq]; exact z.2.2
      · exact absurd hq.symm hb
  have hnb : ¬ (wAt c w = bAt c b - 1 ∨ wAt c w = bAt c b + g.sp b) := by
    have h' : ¬ (bAt c b < 8 ∧ (if g.gl w = 1 then bAt c b + g.sp b else bAt c b - 1) = wAt c w) := fun z => h (bhd_d.mpr z)
    obtain ⟨e0, e1, e2⟩ := hcov
    unfold awy at e1 e2
    rcases hgl with z | z
    · rw [z, if_pos rfl] at e1 e2
      rw [z, if_neg (by omega)] at h'
      omega
    · rw [z, if_neg (by omega)] at e1 e2
      rw [z, if_pos rfl] at h'
      omega
  have hc : ¬ can g c 2 w b 0 := by
    intro z
    unfold can canB at z
    rw [if_neg (by omega), if_neg (by omega), if_pos rfl] at z
    exact hnb (of_decide_eq_true z).2.1
  by_cases hs : such g 2 w b 0
  · rw [outk_c hs hc]; omega
  · rw [outk_n hs]; omega
theorem tak_eq (hg : WG g) (hV : VC g c) (hw : 0 ≤ w ∧ w < g.nW) : tak g c w = if (0 < g.nB ∧ mtk g c w 0 = true) ∨ (1 < g.nB ∧ mtk g c w 1 = true) then 1 else 0 := by
  have hn := hg.nW3
  have hb2 := hg.nB2
  unfold tak aof
  rw [if_neg (show ¬ (3 : Int) = 1 by decide), if_neg (show ¬ (3 : Int) = 2 by decide), if_pos rfl]
  have hm : ∀ b, mtk g c w b = true ↔ (bhd g c w b = true ∧ 0 ≤ outk g c 2 w b 0) := fun b => by unfold mtk; rw [Bool.and_eq_true, decide_eq_true_eq]
  simp only [hm]
  have hbo := bover_b (g := g) (c := c) (p := awy g c w) hg
  by_cases hq : bover g c (awy g c w) = -1
  · rw [if_pos hq, if_neg (fun z => z.1 rfl), if_neg]
    rintro (z | z)
    · have := bover_bhd hg hV hw ⟨by omega, z.1⟩ z.2.1; omega
    · have := bover_bhd hg hV hw ⟨by omega, z.1⟩ z.2.1; omega
  · rw [if_neg hq]
    have ho := out_take (g := g) (c := c) (w := w) (b := bover g c (awy g c w)) (by omega) (by omega)
    rw [ho]
    by_cases h : bhd g c w (bover g c (awy g c w)) = true
    · by_cases h2 : 0 ≤ outk g c 2 w (bover g c (awy g c w)) 0
      · rw [if_pos ⟨by omega, h2⟩, if_pos]
        have hbc : bover g c (awy g c w) = 0 ∨ bover g c (awy g c w) = 1 := by omega
        rcases hbc with z | z
        · rw [z] at h h2; exact Or.inl ⟨by omega, h, h2⟩
        · rw [z] at h h2; exact Or.inr ⟨by omega, h, h2⟩
      · rw [if_neg (fun z => h2 z.2), if_neg]
        rintro (z | z)
        · have e := bover_bhd hg hV hw ⟨by omega, z.1⟩ z.2.1; rw [e] at h2; exact h2 z.2.2
        · have e := bover_bhd hg hV hw ⟨by omega, z.1⟩ z.2.1; rw [e] at h2; exact h2 z.2.2
    · have hno := not_bhd hg hV hw rfl hq h
      rw [if_neg (fun z => by have := z.2; omega), if_neg]
      rintro (z | z)
      · have e := bover_bhd hg hV hw ⟨by omega, z.1⟩ z.2.1; rw [e] at h; exact h z.2.1
      · have e := bover_bhd hg hV hw ⟨by omega, z.1⟩ z.2.1; rw [e] at h; exact h z.2.1
/-- an act, tried, with what is remembered where it is done -/
theorem m_tryAct2 (hR : RG I g) (hM : MS I g c) (hg : WG g) (hV : VC g c) (hF : AF I k w x y) (hk : 0 ≤ k ∧ k ≤ 4) (hw : 0 ≤ w) (hx : 0 ≤ x) (hy : 0 ≤ y) : ∃ J, call (d + 7) 192 [vR 70] I = some (some (vI (rso (outk g c k w x y))), J) ∧ Fr7 I J ∧ MS J g (sto c (outk g c k w x y)) ∧ (0 ≤ outk g c k w x y → MB J g c) := by
  by_cases hs : such g k w x y ∧ can g c k w x y ∧ well g (nxt g c k w x y)
  · obtain ⟨hs, hc, hwl⟩ := hs
    have hT := m_isThere (d := d + 3) hR hg hF hk hw hx hy
    rw [if_pos hs] at hT
    have hC := m_canBe (d := d) hR hM hg hV hF hk hw hx hy hs
    rw [if_pos hc] at hC
    have hVn := vc_nxt hg hV hk hw hx hy hs hc
    obtain ⟨hB1, hM1⟩ := memR_MB hg hM
    have f1 := memR_fr I
    obtain ⟨J, hJ, hMJ, f2, oJ⟩ := m_doIt (d := d + 2) (f1.RG hR) hM1 hg hV (f1.AF hF) hk hw hx hy hs hc
    have f12 := f1.trans f2
    have hW := m_isWell (d := d) (f12.RG hR) hMJ hg hVn
    rw [if_pos hwl] at hW
    have h0 := hVn.c.1
    refine ⟨J, ?_, f12, ?_, fun _ => ⟨fun w a b => (oJ 79 (by decide) (by decide) w).trans (hB1.1 w a b), fun w a b => (oJ 80 (by decide) (by decide) w).trans (hB1.2 w a b)⟩⟩
    · rw [en192, outk_w hs hc hwl, rso, if_neg (by omega)]; clear hs hc hwl
      simp (disch := omega) only [r192_0, r192_1, r192_4, r192_7, r192_8, r192_9, r192_10, r192_13, r192_16, r192_17, r192_18, r192_19, r192_22, r192_23, r192_26, r192_27, r192_30, r192_33, r192_34, r192_35, r192_36, r192_39, r192_40, ↓if_pos, ↓if_neg, hT, hC, m_remember, hJ, hW, Option.bind_some, pushR_s, pushR_n]
    · rw [outk_w hs hc hwl, sto, if_neg (by omega)]; exact hMJ
  · obtain ⟨J, c1, f1, s1⟩ := m_tryAct (d := d) hR hM hg hV hF hk hw hx hy
    refine ⟨J, c1, f1, s1, fun z => ?_⟩
    exfalso
    by_cases h1 : such g k w x y
    · by_cases h2 : can g c k w x y
      · by_cases h3 : well g (nxt g c k w x y)
        · exact hs ⟨h1, h2, h3⟩
        · rw [outk_x h1 h2 h3] at z; omega
      · rw [outk_c h1 h2] at z; omega
    · rw [outk_n h1] at z; omega
def memA (I : MM) (k w x y : Int) : MM := mset (mset (mset (mset I 70 9 k) 70 10 w) 70 11 x) 70 12 y
theorem m_setAct : call (d + 1) 250 [vR 70, vI k, vI w, vI x, vI y] I = some (none, memA I k w x y) := by
  rw [en250]
  simp (disch := omega) only [r250_0, r250_1, r250_2, r250_5, r250_6, r250_7, r250_10, r250_11, r250_12, r250_15, r250_16, r250_18, r250_21]
  rfl
theorem memA_AF : AF (memA I k w x y) k w x y := by
  unfold AF memA; simp [mset_at]
theorem memA_o {a : Nat} {i : Int} (h : ¬ (a = 70 ∧ 9 ≤ i ∧ i ≤ 12)) : memA I k w x y a i = I a i := by
  unfold memA
  rw [mset_at, if_neg (by omega), mset_at, if_neg (by omega), mset_at, if_neg (by omega), mset_at, if_neg (by omega)]
end
