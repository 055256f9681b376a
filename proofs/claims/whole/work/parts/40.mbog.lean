/-! The model's own bog (cells 71, 77, 78) under the same g and c. -/
def lie (q : Int) : Int := if q = 15 then 11 else q
theorem lie_lt (q : Int) : lie q < 8 ↔ q < 8 := by unfold lie; split <;> omega
theorem lie_eq {q w : Int} (hw : 0 ≤ w ∧ w < 3) : lie q = 8 + w ↔ q = 8 + w := by unfold lie; split <;> omega
theorem lie_n {q : Int} (h : q < 8) : lie q = q := by unfold lie; split <;> omega
def RG (I : MM) (g : G) : Prop := (I 71 8 = g.last ∧ I 71 67 = g.nW ∧ I 71 68 = g.nB) ∧ (∀ p, 0 ≤ p → p ≤ g.last → I 71 p = ground g p) ∧ (∀ w, 0 ≤ w → w < g.nW → I 71 (9 + 3 * w) = g.wt w ∧ I 71 (9 + 3 * w + 2) = g.gl w) ∧ (∀ b, 0 ≤ b → b < g.nB → I 71 (18 + 4 * b) = g.kd b ∧ I 71 (18 + 4 * b + 1) = g.ln b ∧ I 71 (18 + 4 * b + 2) = g.br b)
def MS (I : MM) (g : G) (c : Int) : Prop := (∀ w, 0 ≤ w → w < g.nW → I 77 w = wAt c w) ∧ (∀ b, 0 ≤ b → b < g.nB → I 78 b = lie (bAt c b))
/-- a code that can be in a bog -/
def VC (g : G) (c : Int) : Prop := (0 ≤ c ∧ c < 131072) ∧ (∀ w, 0 ≤ w → w < 3 → (w < g.nW → wAt c w ≤ g.last) ∧ (g.nW ≤ w → wAt c w = 0)) ∧ (∀ b, 0 ≤ b → b < 2 → (b < g.nB → (bAt c b < 8 → bAt c b + g.sp b - 1 ≤ g.last) ∧ (8 ≤ bAt c b → bAt c b < 8 + g.nW ∨ bAt c b = 15)) ∧ (g.nB ≤ b → bAt c b = 0)) ∧ (1 < g.nB → (8 ≤ bAt c 0 → bAt c 0 ≠ 15 → bAt c 0 ≠ bAt c 1) ∧ (bAt c 0 < 8 → bAt c 1 < 8 → bAt c 0 + g.sp 0 ≤ bAt c 1 ∨ bAt c 1 + g.sp 1 ≤ bAt c 0))
theorem RG.last {I : MM} {g : G} (h : RG I g) : I 71 8 = g.last := h.1.1
theorem RG.nW {I : MM} {g : G} (h : RG I g) : I 71 67 = g.nW := h.1.2.1
theorem RG.nB {I : MM} {g : G} (h : RG I g) : I 71 68 = g.nB := h.1.2.2
theorem RG.pl {I : MM} {g : G} (h : RG I g) {p : Int} (h0 : 0 ≤ p) (h1 : p ≤ g.last) : I 71 p = ground g p := h.2.1 p h0 h1
theorem VC.c {g : G} {c : Int} (h : VC g c) : 0 ≤ c ∧ c < 131072 := h.1
theorem VC.pl {g : G} {c w : Int} (h : VC g c) (hg : WG g) (h0 : 0 ≤ w) (h1 : w < g.nW) : 0 ≤ wAt c w ∧ wAt c w ≤ g.last := ⟨(wAt_b c w).1, (h.2.1 w h0 (by have := hg.nW3; omega)).1 h1⟩
theorem VC.uniq {g : G} {c w : Int} (h : VC g c) (hn : 1 < g.nB) (hw : 0 ≤ w ∧ w < 3) (h0 : bAt c 0 = 8 + w) : bAt c 1 ≠ 8 + w := by
  have := (h.2.2.2 hn).1
  omega
theorem cby_1 {g : G} {c w : Int} (h : VC g c) (hw : 0 ≤ w ∧ w < 3) (hn : 1 < g.nB) (h1 : bAt c 1 = 8 + w) : cby g c w = 1 := by
  have := fun q => h.uniq hn hw q
  unfold cby
  rw [if_neg (by omega), if_pos ⟨hn, h1⟩]
theorem cby_carr {g : G} {c w : Int} : cby g c w = -1 ↔ ¬ carr g c w := by
  unfold cby carr; split
  · omega
  · split <;> omega
theorem cby_b {g : G} {c w b : Int} (h : VC g c) (hw : 0 ≤ w ∧ w < 3) (h0 : 0 ≤ b) (h1 : b < g.nB) (hg : WG g) : cby g c w = b ↔ bAt c b = 8 + w := by
  have hn := hg.nB2
  have hb : b = 0 ∨ b = 1 := by omega
  rcases hb with rfl | rfl
  · unfold cby; constructor
    · intro q; split at q
      · rename_i z; exact z.2
      · split at q <;> omega
    · intro q; rw [if_pos ⟨h1, q⟩]
  · constructor
    · unfold cby; intro q; split at q
      · omega
      · split at q
        · rename_i z; exact z.2
        · omega
    · exact cby_1 h hw h1
section
variable {d : Nat} {I : MM} {g : G} {a c w x y b p v lo hi : Int}
theorem m_in : call (d + 1) 142 [vL v, vL lo, vL hi] I = some (some (vI (if lo ≤ v ∧ v ≤ hi then 1 else 0)), I) := by
  rw [en142]
  by_cases h : lo ≤ v ∧ v ≤ hi
  · simp (disch := omega) only [r142_0, r142_1, r142_2, r142_6, r142_7, r142_9, r142_13, r142_14, r142_17, r142_18, ↓if_pos, ↓if_neg]
  · by_cases h2 : v < lo <;> simp (disch := omega) only [r142_0, r142_1, r142_2, r142_6, r142_7, r142_9, r142_13, r142_14, r142_17, r142_18, ↓if_pos, ↓if_neg]
theorem m_walkers (hR : RG I g) : call (d + 1) 159 [vR 70] I = some (some (vI g.nW), I) := by
  rw [en159]; simp (disch := omega) only [r159_0, r159_1, r159_4, r159_6, r159_7, ↓if_pos, hR.nW]
theorem m_boards (hR : RG I g) : call (d + 1) 160 [vR 70] I = some (some (vI g.nB), I) := by
  rw [en160]; simp (disch := omega) only [r160_0, r160_1, r160_4, r160_6, r160_7, ↓if_pos, hR.nB]
theorem m_last (hR : RG I g) : call (d + 1) 163 [vR 70] I = some (some (vI g.last), I) := by
  rw [en163]; simp (disch := omega) only [r163_0, r163_1, r163_4, r163_6, r163_7, ↓if_pos, hR.last]
theorem m_isWalker (hR : RG I g) (hg : WG g) : call (d + 2) 161 [vR 70, vI w] I = some (some (vI (if 0 ≤ w ∧ w < g.nW then 1 else 0)), I) := by
  rw [en161]; have := hg.nW3
  have e : (0 ≤ w ∧ w ≤ g.nW - 1) ↔ (0 ≤ w ∧ w < g.nW) := by omega
  simp (disch := omega) only [r161_0, r161_1, r161_2, r161_3, r161_4, r161_7, r161_8, r161_9, r161_10, r161_13, m_walkers hR, m_in, isub_eq, e, retb, Option.bind_some, pushR_s]
theorem m_isBoard (hR : RG I g) (hg : WG g) : call (d + 2) 162 [vR 70, vI w] I = some (some (vI (if 0 ≤ w ∧ w < g.nB then 1 else 0)), I) := by
  rw [en162]; have := hg.nB2
  have e : (0 ≤ w ∧ w ≤ g.nB - 1) ↔ (0 ≤ w ∧ w < g.nB) := by omega
  simp (disch := omega) only [r162_0, r162_1, r162_2, r162_3, r162_4, r162_7, r162_8, r162_9, r162_10, r162_13, m_boards hR, m_in, isub_eq, e, retb, Option.bind_some, pushR_s]
theorem m_longOf (hy : -2147483648 ≤ y ∧ y < 2147483647) : call (d + 1) 166 [vI x, vI y] I = some (some (vI (y + (if x = 2 ∨ x = 4 then 1 else 0))), I) := by
  rw [en166]
  by_cases h : x = 2
  · simp (disch := omega) only [r166_0, r166_1, r166_2, r166_5, r166_6, r166_7, r166_10, r166_11, r166_12, r166_13, r166_16, r166_17, ↓if_pos, ↓if_neg, iadd_eq]
  · by_cases h2 : x = 4
    · simp (disch := omega) only [r166_0, r166_1, r166_2, r166_5, r166_6, r166_7, r166_10, r166_11, r166_12, r166_13, r166_16, r166_17, ↓if_pos, ↓if_neg, iadd_eq]
    · simp (disch := omega) only [r166_0, r166_1, r166_2, r166_5, r166_6, r166_7, r166_10, r166_11, r166_12, r166_13, r166_16, r166_17, ↓if_pos, ↓if_neg, Int.add_zero]
theorem m_longOfBoard (hR : RG I g) (hg : WG g) (h0 : 0 ≤ b) (h1 : b < g.nB) : call (d + 2) 167 [vR 70, vI b] I = some (some (vI (g.sp b)), I) := by
  rw [en167]; have := hg.nB2; have e := hR.2.2.2 b h0 h1; have h3 := hg.ln3 h0 h1
  simp (disch := omega) only [r167_0, r167_1, r167_4, r167_6, r167_7, r167_8, r167_9, r167_10, r167_11, r167_12, r167_15, r167_17, r167_18, r167_19, r167_20, r167_21, r167_22, r167_23, r167_24, r167_27, ↓if_pos, e, imul_eq, iadd_eq, m_longOf, hg.spE h0 h1, Option.bind_some, pushR_s]
theorem m_bears (hR : RG I g) (hg : WG g) (h0 : 0 ≤ b) (h1 : b < g.nB) : call (d + 1) 168 [vR 70, vI b] I = some (some (vI (g.st b)), I) := by
  rw [en168]; have := hg.nB2; have e := hR.2.2.2 b h0 h1; have h3 := hg.br30 h0 h1
  rw [hg.stE h0 h1]
  by_cases k1 : g.kd b = 1
  · simp (disch := omega) only [r168_0, r168_1, r168_4, r168_6, r168_7, r168_8, r168_9, r168_10, r168_11, r168_12, r168_13, r168_16, r168_18, r168_19, r168_20, r168_21, r168_22, r168_23, r168_24, r168_25, r168_26, r168_27, r168_28, r168_31, r168_32, r168_33, r168_34, r168_37, r168_38, r168_39, r168_42, r168_43, r168_44, r168_47, r168_48, r168_49, r168_50, r168_53, r168_54, ↓if_pos, ↓if_neg, e, imul_eq, iadd_eq, idiv_eq]
  · by_cases k2 : g.kd b = 3
    · simp (disch := omega) only [r168_0, r168_1, r168_4, r168_6, r168_7, r168_8, r168_9, r168_10, r168_11, r168_12, r168_13, r168_16, r168_18, r168_19, r168_20, r168_21, r168_22, r168_23, r168_24, r168_25, r168_26, r168_27, r168_28, r168_31, r168_32, r168_33, r168_34, r168_37, r168_38, r168_39, r168_42, r168_43, r168_44, r168_47, r168_48, r168_49, r168_50, r168_53, r168_54, ↓if_pos, ↓if_neg, e, imul_eq, iadd_eq, idiv_eq]
    · by_cases k3 : g.kd b = 5 <;> simp (disch := omega) only [r168_0, r168_1, r168_4, r168_6, r168_7, r168_8, r168_9, r168_10, r168_11, r168_12, r168_13, r168_16, r168_18, r168_19, r168_20, r168_21, r168_22, r168_23, r168_24, r168_25, r168_26, r168_27, r168_28, r168_31, r168_32, r168_33, r168_34, r168_37, r168_38, r168_39, r168_42, r168_43, r168_44, r168_47, r168_48, r168_49, r168_50, r168_53, r168_54, ↓if_pos, ↓if_neg, e, imul_eq, iadd_eq, idiv_eq]
theorem m_isLaid (hM : MS I g c) (hg : WG g) (hb : 0 ≤ b ∧ b < g.nB) : call (d + 1) 169 [vR 70, vI b] I = some (some (vI (if bAt c b < 8 then 1 else 0)), I) := by
  rw [en169]; have e := hM.2 b hb.1 hb.2; have := hg.nB2; have e2 := lie_lt (bAt c b)
  by_cases h : bAt c b < 8 <;> simp (disch := omega) only [r169_0, r169_1, r169_4, r169_5, r169_6, r169_8, r169_11, r169_12, r169_15, r169_16, ↓if_pos, ↓if_neg]
theorem m_covers (hR : RG I g) (hM : MS I g c) (hg : WG g) (h0 : 0 ≤ b) (h1 : b < g.nB) : call (d + 3) 170 [vR 70, vI b, vI p] I = some (some (vI (if cov g c b p then 1 else 0)), I) := by
  rw [en170]; have := hg.nB2; have e := hM.2 b h0 (by omega); have h4 := hg.sp14 h0 h1; have hq := bAt_b c b
  by_cases h : bAt c b < 8
  · rw [lie_n h] at e
    by_cases h2 : cov g c b p
    · simp (disch := omega) only [r170_0, r170_1, r170_2, r170_5, r170_8, r170_9, r170_10, r170_11, r170_14, r170_15, r170_16, r170_17, r170_18, r170_21, r170_22, r170_23, r170_24, r170_25, r170_28, r170_29, r170_30, r170_31, r170_32, r170_35, r170_38, r170_39, r170_42, r170_43, ↓if_pos, ↓if_neg, m_isLaid hM hg, if_pos h, e, m_longOfBoard hR hg, iadd_eq, isub_eq, m_in, Option.bind_some, pushR_s]
    · simp (disch := omega) only [r170_0, r170_1, r170_2, r170_5, r170_8, r170_9, r170_10, r170_11, r170_14, r170_15, r170_16, r170_17, r170_18, r170_21, r170_22, r170_23, r170_24, r170_25, r170_28, r170_29, r170_30, r170_31, r170_32, r170_35, r170_38, r170_39, r170_42, r170_43, ↓if_pos, ↓if_neg, m_isLaid hM hg, if_pos h, e, m_longOfBoard hR hg, iadd_eq, isub_eq, m_in, Option.bind_some, pushR_s]
  · simp (disch := omega) only [r170_0, r170_1, r170_2, r170_5, r170_8, r170_9, r170_10, r170_11, r170_14, r170_15, r170_16, r170_17, r170_18, r170_21, r170_22, r170_23, r170_24, r170_25, r170_28, r170_29, r170_30, r170_31, r170_32, r170_35, r170_38, r170_39, r170_42, r170_43, ↓if_pos, ↓if_neg, m_isLaid hM hg, if_neg h, Option.bind_some, pushR_s]
theorem m_hasBoard (hR : RG I g) (hM : MS I g c) (hg : WG g) : call (d + 4) 171 [vR 70, vI p] I = some (some (vI (if covd g c p then 1 else 0)), I) := by
  rw [en171]
  rcases hg.nBc with hn | hn | hn
  · rw [if_neg (fun q => by rcases q with q | q <;> omega)]
    simp (disch := omega) only [r171_0, r171_1, r171_2, r171_3, r171_4, r171_5, r171_6, r171_9, r171_12, r171_13, r171_16, r171_17, r171_18, r171_19, r171_22, r171_25, r171_26, r171_29, r171_30, r171_31, r171_34, r171_37, r171_38, ↓if_pos, ↓if_neg, m_boards hR, Option.bind_some, pushR_s]
  · by_cases q0 : cov g c 0 p
    · rw [if_pos (Or.inl ⟨by omega, q0⟩)]
      simp (disch := omega) only [r171_0, r171_1, r171_2, r171_3, r171_4, r171_5, r171_6, r171_9, r171_12, r171_13, r171_16, r171_17, r171_18, r171_19, r171_22, r171_25, r171_26, r171_29, r171_30, r171_31, r171_34, r171_37, r171_38, ↓if_pos, ↓if_neg, m_boards hR, m_covers hR hM hg, if_pos q0, iadd_eq, Int.reduceAdd, Option.bind_some, pushR_s]
    · rw [if_neg (fun q => by rcases q with q | q; exact q0 q.2; omega)]
      simp (disch := omega) only [r171_0, r171_1, r171_2, r171_3, r171_4, r171_5, r171_6, r171_9, r171_12, r171_13, r171_16, r171_17, r171_18, r171_19, r171_22, r171_25, r171_26, r171_29, r171_30, r171_31, r171_34, r171_37, r171_38, ↓if_pos, ↓if_neg, m_boards hR, m_covers hR hM hg, if_neg q0, iadd_eq, Int.reduceAdd, Option.bind_some, pushR_s]
  · by_cases q0 : cov g c 0 p
    · rw [if_pos (Or.inl ⟨by omega, q0⟩)]
      simp (disch := omega) only [r171_0, r171_1, r171_2, r171_3, r171_4, r171_5, r171_6, r171_9, r171_12, r171_13, r171_16, r171_17, r171_18, r171_19, r171_22, r171_25, r171_26, r171_29, r171_30, r171_31, r171_34, r171_37, r171_38, ↓if_pos, ↓if_neg, m_boards hR, m_covers hR hM hg, if_pos q0, iadd_eq, Int.reduceAdd, Option.bind_some, pushR_s]
    · by_cases q1 : cov g c 1 p
      · rw [if_pos (Or.inr ⟨by omega, q1⟩)]
        simp (disch := omega) only [r171_0, r171_1, r171_2, r171_3, r171_4, r171_5, r171_6, r171_9, r171_12, r171_13, r171_16, r171_17, r171_18, r171_19, r171_22, r171_25, r171_26, r171_29, r171_30, r171_31, r171_34, r171_37, r171_38, ↓if_pos, ↓if_neg, m_boards hR, m_covers hR hM hg, if_neg q0, if_pos q1, iadd_eq, Int.reduceAdd, Option.bind_some, pushR_s]
      · rw [if_neg (fun q => by rcases q with q | q; exact q0 q.2; exact q1 q.2)]
        simp (disch := omega) only [r171_0, r171_1, r171_2, r171_3, r171_4, r171_5, r171_6, r171_9, r171_12, r171_13, r171_16, r171_17, r171_18, r171_19, r171_22, r171_25, r171_26, r171_29, r171_30, r171_31, r171_34, r171_37, r171_38, ↓if_pos, ↓if_neg, m_boards hR, m_covers hR hM hg, if_neg q0, if_neg q1, iadd_eq, Int.reduceAdd, Option.bind_some, pushR_s]
theorem ground_dry (h0 : 0 ≤ p) : ground g p = 2 ↔ ¬ dry g p := by
  unfold ground dry; split
  · omega
  · split <;> omega
theorem m_isFirm (hR : RG I g) (hM : MS I g c) (hg : WG g) : call (d + 5) 172 [vR 70, vI p] I = some (some (vI (if firm g c p then 1 else 0)), I) := by
  rw [en172]; have h7 := hg.last7
  by_cases hp : 0 ≤ p ∧ p ≤ g.last
  · have e := hR.pl hp.1 hp.2; have e2 := ground_dry (g := g) hp.1
    by_cases hd : dry g p
    · rw [if_pos ⟨hp, Or.inl hd⟩]
      have e3 : ¬ I 71 p = 2 := fun q => e2.mp (e ▸ q) hd
      simp (disch := omega) only [r172_0, r172_1, r172_2, r172_3, r172_4, r172_7, r172_8, r172_11, r172_14, r172_15, r172_18, r172_19, r172_20, r172_21, r172_22, r172_23, r172_26, r172_27, r172_28, r172_31, r172_34, r172_35, r172_38, r172_39, ↓if_pos, ↓if_neg, m_last hR, m_in, if_pos hp, iadd_eq, Int.zero_add, if_neg e3, Option.bind_some, pushR_s]
    · have e3 : I 71 p = 2 := e.trans (e2.mpr hd)
      by_cases hq : covd g c p
      · rw [if_pos ⟨hp, Or.inr hq⟩]
        simp (disch := omega) only [r172_0, r172_1, r172_2, r172_3, r172_4, r172_7, r172_8, r172_11, r172_14, r172_15, r172_18, r172_19, r172_20, r172_21, r172_22, r172_23, r172_26, r172_27, r172_28, r172_31, r172_34, r172_35, r172_38, r172_39, ↓if_pos, ↓if_neg, m_last hR, m_in, if_pos hp, iadd_eq, Int.zero_add, if_pos e3, m_hasBoard hR hM hg, if_pos hq, Option.bind_some, pushR_s]
      · rw [if_neg (fun q => q.2.elim hd hq)]
        simp (disch := omega) only [r172_0, r172_1, r172_2, r172_3, r172_4, r172_7, r172_8, r172_11, r172_14, r172_15, r172_18, r172_19, r172_20, r172_21, r172_22, r172_23, r172_26, r172_27, r172_28, r172_31, r172_34, r172_35, r172_38, r172_39, ↓if_pos, ↓if_neg, m_last hR, m_in, if_pos hp, iadd_eq, Int.zero_add, if_pos e3, m_hasBoard hR hM hg, if_neg hq, Option.bind_some, pushR_s]
  · rw [if_neg (fun q => hp q.1)]
    simp (disch := omega) only [r172_0, r172_1, r172_2, r172_3, r172_4, r172_7, r172_8, r172_11, r172_14, r172_15, r172_18, r172_19, r172_20, r172_21, r172_22, r172_23, r172_26, r172_27, r172_28, r172_31, r172_34, r172_35, r172_38, r172_39, ↓if_pos, ↓if_neg, m_last hR, m_in, if_neg hp, Option.bind_some, pushR_s]
end
