/-! The model's acts. -/
def okP (g : G) (c p : Int) : Bool := decide ((0 ≤ p ∧ p ≤ g.last) ∧ ¬ hold g c p)
def layB (g : G) (c : Int) : Int → Nat → Bool
  | _, 0 => true
  | p, n + 1 => okP g c p && layB g c (p + 1) n
theorem layB_ok {g : G} {c w b y : Int} (hs : 1 ≤ g.sp b ∧ g.sp b ≤ 4) : layB g c (least g c w b y) (g.sp b).toNat = true ↔ layOK g c w b y := by
  have hc : g.sp b = 1 ∨ g.sp b = 2 ∨ g.sp b = 3 ∨ g.sp b = 4 := by omega
  have e1 : ∀ p : Int, p + 1 + 1 = p + 2 := fun p => by omega
  have e2 : ∀ p : Int, p + 2 + 1 = p + 3 := fun p => by omega
  unfold layOK; rw [wet_def]
  generalize least g c w b y = p
  rcases hc with hc | hc | hc | hc <;> rw [hc]
  · show (okP g c p && true) = true ↔ _
    simp only [Bool.and_true, okP, decide_eq_true_eq]
    constructor
    · rintro ⟨a, b⟩; exact ⟨by omega, ⟨fun _ => b, by omega⟩, by omega, by omega⟩
    · rintro ⟨a, ⟨b, -⟩, -⟩; exact ⟨by omega, b (by omega)⟩
  · show (okP g c p && (okP g c (p + 1) && true)) = true ↔ _
    simp only [Bool.and_true, Bool.and_eq_true, okP, decide_eq_true_eq]
    constructor
    · rintro ⟨⟨a, b⟩, a1, b1⟩; exact ⟨by omega, ⟨fun _ => b, fun _ => b1⟩, by omega, by omega⟩
    · rintro ⟨a, ⟨b, b1⟩, -⟩; exact ⟨⟨by omega, b (by omega)⟩, by omega, b1 (by omega)⟩
  · show (okP g c p && (okP g c (p + 1) && (okP g c (p + 1 + 1) && true))) = true ↔ _
    simp only [Bool.and_true, Bool.and_eq_true, okP, decide_eq_true_eq, e1]
    constructor
    · rintro ⟨⟨a, b⟩, ⟨a1, b1⟩, a2, b2⟩; exact ⟨by omega, ⟨fun _ => b, fun _ => b1⟩, fun _ => b2, by omega⟩
    · rintro ⟨a, ⟨b, b1⟩, b2, -⟩; exact ⟨⟨by omega, b (by omega)⟩, ⟨by omega, b1 (by omega)⟩, by omega, b2 (by omega)⟩
  · show (okP g c p && (okP g c (p + 1) && (okP g c (p + 1 + 1) && (okP g c (p + 1 + 1 + 1) && true)))) = true ↔ _
    simp only [Bool.and_true, Bool.and_eq_true, okP, decide_eq_true_eq, e1, e2]
    constructor
    · rintro ⟨⟨a, b⟩, ⟨a1, b1⟩, ⟨a2, b2⟩, a3, b3⟩; exact ⟨by omega, ⟨fun _ => b, fun _ => b1⟩, fun _ => b2, fun _ => b3⟩
    · rintro ⟨a, ⟨b, b1⟩, b2, b3⟩; exact ⟨⟨by omega, b (by omega)⟩, ⟨by omega, b1 (by omega)⟩, ⟨by omega, b2 (by omega)⟩, by omega, b3 (by omega)⟩
/-- a statement that omega leaves alone -/
def HB (P : Prop) : Prop := P
def covi (g : G) (c b p : Int) : Int := if cov g c b p then 1 else 0
def frm (g : G) (c p : Int) : Int := if firm g c p then 1 else 0
section
variable {d : Nat} {I : MM} {g : G} {a c w x y b p v lo hi k : Int}
theorem m_coversi (hR : RG I g) (hM : MS I g c) (hg : WG g) (h0 : 0 ≤ b) (h1 : b < g.nB) : call (d + 3) 170 [vR 70, vI b, vI p] I = some (some (vI (covi g c b p)), I) := m_covers hR hM hg h0 h1
theorem m_isFirmi (hR : RG I g) (hM : MS I g c) (hg : WG g) : call (d + 5) 172 [vR 70, vI p] I = some (some (vI (frm g c p)), I) := m_isFirm hR hM hg
theorem m_carries (hR : RG I g) (hM : MS I g c) (hg : WG g) (hV : VC g c) (hw : 0 ≤ w ∧ w < 3) : call (d + 2) 173 [vR 70, vI w] I = some (some (vI (cby g c w)), I) := by
  rw [en173]
  have e0 := hM.2 0 (by omega); have e1 := hM.2 1 (by omega)
  have l0 := lie_eq (q := bAt c 0) hw; have l1 := lie_eq (q := bAt c 1) hw
  rcases hg.nBc with hn | hn | hn
  · simp (disch := omega) only [r173_0, r173_1, r173_2, r173_3, r173_4, r173_5, r173_6, r173_9, r173_12, r173_13, r173_16, r173_17, r173_18, r173_20, r173_21, r173_22, r173_25, r173_26, r173_29, r173_30, r173_31, r173_34, r173_37, r173_38, ↓if_pos, ↓if_neg, m_boards hR, Option.bind_some, pushR_s]; simp [cby, hn]
  · by_cases p0 : bAt c 0 = 8 + w <;>
    simp (disch := omega) only [r173_0, r173_1, r173_2, r173_3, r173_4, r173_5, r173_6, r173_9, r173_12, r173_13, r173_16, r173_17, r173_18, r173_20, r173_21, r173_22, r173_25, r173_26, r173_29, r173_30, r173_31, r173_34, r173_37, r173_38, ↓if_pos, ↓if_neg, m_boards hR, Option.bind_some, pushR_s, iadd_eq, Int.reduceAdd] <;> simp [cby, hn, p0]
  · have hu := hV.uniq (by omega) hw
    by_cases p0 : bAt c 0 = 8 + w <;> by_cases p1 : bAt c 1 = 8 + w
    · exact (hu p0 p1).elim
    all_goals simp (disch := omega) only [r173_0, r173_1, r173_2, r173_3, r173_4, r173_5, r173_6, r173_9, r173_12, r173_13, r173_16, r173_17, r173_18, r173_20, r173_21, r173_22, r173_25, r173_26, r173_29, r173_30, r173_31, r173_34, r173_37, r173_38, ↓if_pos, ↓if_neg, m_boards hR, Option.bind_some, pushR_s, iadd_eq, Int.reduceAdd] <;> simp [cby, hn, p0, p1]
theorem m_countsOf (hR : RG I g) (hM : MS I g c) (hg : WG g) (hV : VC g c) (h0 : 0 ≤ w) (h1 : w < g.nW) : call (d + 3) 174 [vR 70, vI w] I = some (some (vI (cnts g c w)), I) := by
  rw [en174]; have hn := hg.nW3; have e := (hR.2.2.1 w h0 h1).1; have h9 := hg.wt9 h0 h1
  have hk := cby_carr (g := g) (c := c) (w := w)
  by_cases h : carr g c w
  · have h2 : ¬ cby g c w = -1 := fun q => hk.mp q h
    simp (disch := omega) only [r174_0, r174_1, r174_4, r174_6, r174_7, r174_8, r174_9, r174_10, r174_11, r174_12, r174_13, r174_16, r174_17, r174_20, r174_21, r174_24, r174_25, r174_26, ↓if_pos, ↓if_neg, m_carries hR hM hg hV, imul_eq, iadd_eq, e, cnts, if_pos h, Option.bind_some, pushR_s]
  · have h2 := hk.mpr h
    simp (disch := omega) only [r174_0, r174_1, r174_4, r174_6, r174_7, r174_8, r174_9, r174_10, r174_11, r174_12, r174_13, r174_16, r174_17, r174_20, r174_21, r174_24, r174_25, r174_26, ↓if_pos, ↓if_neg, m_carries hR hM hg hV, imul_eq, iadd_eq, e, cnts, if_neg h, Option.bind_some, pushR_s]
theorem m_loadOn (hR : RG I g) (hM : MS I g c) (hg : WG g) (hV : VC g c) (h0 : 0 ≤ b) (h1 : b < g.nB) : call (d + 4) 175 [vR 70, vI b] I = some (some (vI (load g c b)), I) := by
  rw [en175]
  have hcv : ∀ w, (cv g c b w = cnts g c w ∧ covi g c b (wAt c w) = 1) ∨ (cv g c b w = 0 ∧ covi g c b (wAt c w) = 0) := fun w => by
    by_cases h : cov g c b (wAt c w)
    · exact Or.inl ⟨if_pos h, if_pos h⟩
    · exact Or.inr ⟨if_neg h, if_neg h⟩
  have e0 := hM.1 0 (by omega); have e1 := hM.1 1 (by omega); have e2 := hM.1 2 (by omega)
  rcases hg.nWc with hn | hn | hn | hn
  · simp (disch := omega) only [r175_0, r175_1, r175_2, r175_3, r175_4, r175_5, r175_6, r175_9, r175_12, r175_13, r175_14, r175_15, r175_16, r175_19, r175_20, r175_21, r175_24, r175_27, r175_28, r175_29, r175_32, r175_35, r175_36, r175_37, r175_38, r175_41, r175_44, r175_45, ↓if_pos, ↓if_neg, m_walkers hR, Option.bind_some, pushR_s]; simp [load, hn]
  · have n0 := cnts_b hg (c := c) (w := 0) (by omega) (by omega)
    rcases hcv 0 with ⟨z0, hb0⟩ | ⟨z0, hb0⟩ <;>
    simp (disch := omega) only [r175_0, r175_1, r175_2, r175_3, r175_4, r175_5, r175_6, r175_9, r175_12, r175_13, r175_14, r175_15, r175_16, r175_19, r175_20, r175_21, r175_24, r175_27, r175_28, r175_29, r175_32, r175_35, r175_36, r175_37, r175_38, r175_41, r175_44, r175_45, ↓if_pos, ↓if_neg, m_walkers hR, e0, m_coversi hR hM hg, hb0, m_countsOf hR hM hg hV, Option.bind_some, pushR_s, iadd_eq, Int.reduceAdd] <;> simp [load, hn, z0]
  · have n0 := cnts_b hg (c := c) (w := 0) (by omega) (by omega)
    have n1 := cnts_b hg (c := c) (w := 1) (by omega) (by omega)
    rcases hcv 0 with ⟨z0, hb0⟩ | ⟨z0, hb0⟩ <;> rcases hcv 1 with ⟨z1, hb1⟩ | ⟨z1, hb1⟩ <;>
    simp (disch := omega) only [r175_0, r175_1, r175_2, r175_3, r175_4, r175_5, r175_6, r175_9, r175_12, r175_13, r175_14, r175_15, r175_16, r175_19, r175_20, r175_21, r175_24, r175_27, r175_28, r175_29, r175_32, r175_35, r175_36, r175_37, r175_38, r175_41, r175_44, r175_45, ↓if_pos, ↓if_neg, m_walkers hR, e0, e1, m_coversi hR hM hg, hb0, hb1, m_countsOf hR hM hg hV, Option.bind_some, pushR_s, iadd_eq, Int.reduceAdd] <;> simp [load, hn, z0, z1]
  · have n0 := cnts_b hg (c := c) (w := 0) (by omega) (by omega)
    have n1 := cnts_b hg (c := c) (w := 1) (by omega) (by omega)
    have n2 := cnts_b hg (c := c) (w := 2) (by omega) (by omega)
    rcases hcv 0 with ⟨z0, hb0⟩ | ⟨z0, hb0⟩ <;> rcases hcv 1 with ⟨z1, hb1⟩ | ⟨z1, hb1⟩ <;> rcases hcv 2 with ⟨z2, hb2⟩ | ⟨z2, hb2⟩ <;>
    simp (disch := omega) only [r175_0, r175_1, r175_2, r175_3, r175_4, r175_5, r175_6, r175_9, r175_12, r175_13, r175_14, r175_15, r175_16, r175_19, r175_20, r175_21, r175_24, r175_27, r175_28, r175_29, r175_32, r175_35, r175_36, r175_37, r175_38, r175_41, r175_44, r175_45, ↓if_pos, ↓if_neg, m_walkers hR, e0, e1, e2, m_coversi hR hM hg, hb0, hb1, hb2, m_countsOf hR hM hg hV, Option.bind_some, pushR_s, iadd_eq, Int.reduceAdd] <;> simp [load, hn, z0, z1, z2]
/-- the loop over boards of isWell -/
theorem m_well_b (hR : RG I g) (hM : MS I g c) (hg : WG g) (hV : VC g c) {P : Prop} [Decidable P] {v : Int} (hv : v = if P then 1 else 0) {v2 : Int} : runs (call (d + 5)) 176 41 [vR 70, vI v, vI v2] [] I = some (some (vI (if P ∧ (0 < g.nB → load g c 0 ≤ g.st 0) ∧ (1 < g.nB → load g c 1 ≤ g.st 1) then 1 else 0)), I) := by
  rcases hg.nBc with hn | hn | hn
  · by_cases hP : P
    · rw [if_pos hP] at hv
      simp (disch := omega) only [r176_0, r176_1, r176_2, r176_3, r176_4, r176_5, r176_6, r176_9, r176_12, r176_13, r176_16, r176_17, r176_18, r176_21, r176_22, r176_23, r176_26, r176_29, r176_30, r176_33, r176_34, r176_35, r176_38, r176_41, r176_42, r176_43, r176_44, r176_45, r176_48, r176_51, r176_52, r176_55, r176_56, r176_57, r176_60, r176_61, r176_62, r176_65, r176_68, r176_69, r176_72, r176_73, r176_74, r176_77, r176_80, r176_81, ↓if_pos, ↓if_neg, m_boards hR, Option.bind_some, pushR_s]
      simp [hn, hP, hv]
    · rw [if_neg hP] at hv
      simp (disch := omega) only [r176_0, r176_1, r176_2, r176_3, r176_4, r176_5, r176_6, r176_9, r176_12, r176_13, r176_16, r176_17, r176_18, r176_21, r176_22, r176_23, r176_26, r176_29, r176_30, r176_33, r176_34, r176_35, r176_38, r176_41, r176_42, r176_43, r176_44, r176_45, r176_48, r176_51, r176_52, r176_55, r176_56, r176_57, r176_60, r176_61, r176_62, r176_65, r176_68, r176_69, r176_72, r176_73, r176_74, r176_77, r176_80, r176_81, ↓if_pos, ↓if_neg, m_boards hR, Option.bind_some, pushR_s]
      simp [hP, hv]
  · by_cases hP : P
    · rw [if_pos hP] at hv
      by_cases l0 : load g c 0 ≤ g.st 0 <;>
      simp (disch := omega) only [r176_0, r176_1, r176_2, r176_3, r176_4, r176_5, r176_6, r176_9, r176_12, r176_13, r176_16, r176_17, r176_18, r176_21, r176_22, r176_23, r176_26, r176_29, r176_30, r176_33, r176_34, r176_35, r176_38, r176_41, r176_42, r176_43, r176_44, r176_45, r176_48, r176_51, r176_52, r176_55, r176_56, r176_57, r176_60, r176_61, r176_62, r176_65, r176_68, r176_69, r176_72, r176_73, r176_74, r176_77, r176_80, r176_81, ↓if_pos, ↓if_neg, m_boards hR, m_loadOn hR hM hg hV, m_bears hR hg, iadd_eq, Int.reduceAdd, Option.bind_some, pushR_s] <;> simp [hn, hP, l0]
    · rw [if_neg hP] at hv
      simp (disch := omega) only [r176_0, r176_1, r176_2, r176_3, r176_4, r176_5, r176_6, r176_9, r176_12, r176_13, r176_16, r176_17, r176_18, r176_21, r176_22, r176_23, r176_26, r176_29, r176_30, r176_33, r176_34, r176_35, r176_38, r176_41, r176_42, r176_43, r176_44, r176_45, r176_48, r176_51, r176_52, r176_55, r176_56, r176_57, r176_60, r176_61, r176_62, r176_65, r176_68, r176_69, r176_72, r176_73, r176_74, r176_77, r176_80, r176_81, ↓if_pos, ↓if_neg, m_boards hR, m_loadOn hR hM hg hV, m_bears hR hg, iadd_eq, Int.reduceAdd, Option.bind_some, pushR_s]
      simp [hP]
  · by_cases hP : P
    · rw [if_pos hP] at hv
      by_cases l0 : load g c 0 ≤ g.st 0 <;> by_cases l1 : load g c 1 ≤ g.st 1 <;>
      simp (disch := omega) only [r176_0, r176_1, r176_2, r176_3, r176_4, r176_5, r176_6, r176_9, r176_12, r176_13, r176_16, r176_17, r176_18, r176_21, r176_22, r176_23, r176_26, r176_29, r176_30, r176_33, r176_34, r176_35, r176_38, r176_41, r176_42, r176_43, r176_44, r176_45, r176_48, r176_51, r176_52, r176_55, r176_56, r176_57, r176_60, r176_61, r176_62, r176_65, r176_68, r176_69, r176_72, r176_73, r176_74, r176_77, r176_80, r176_81, ↓if_pos, ↓if_neg, m_boards hR, m_loadOn hR hM hg hV, m_bears hR hg, iadd_eq, Int.reduceAdd, Option.bind_some, pushR_s] <;> simp [hn, hP, l0, l1]
    · rw [if_neg hP] at hv
      simp (disch := omega) only [r176_0, r176_1, r176_2, r176_3, r176_4, r176_5, r176_6, r176_9, r176_12, r176_13, r176_16, r176_17, r176_18, r176_21, r176_22, r176_23, r176_26, r176_29, r176_30, r176_33, r176_34, r176_35, r176_38, r176_41, r176_42, r176_43, r176_44, r176_45, r176_48, r176_51, r176_52, r176_55, r176_56, r176_57, r176_60, r176_61, r176_62, r176_65, r176_68, r176_69, r176_72, r176_73, r176_74, r176_77, r176_80, r176_81, ↓if_pos, ↓if_neg, m_boards hR, m_loadOn hR hM hg hV, m_bears hR hg, iadd_eq, Int.reduceAdd, Option.bind_some, pushR_s]
      simp [hP]
theorem firm_hold {w : Int} (hg : WG g) (hV : VC g c) (h0 : 0 ≤ w) (h1 : w < g.nW) : firm g c (wAt c w) ↔ hold g c (wAt c w) := ⟨fun q => q.2, fun q => ⟨hV.pl hg h0 h1, q⟩⟩
theorem m_isWell (hR : RG I g) (hM : MS I g c) (hg : WG g) (hV : VC g c) : call (d + 6) 176 [vR 70] I = some (some (vI (if well g c then 1 else 0)), I) := by
  rw [en176]
  have e0 := hM.1 0 (by omega); have e1 := hM.1 1 (by omega); have e2 := hM.1 2 (by omega)
  have fin : ∀ {v v2 : Int} {P : Prop} [Decidable P], (v = if P then 1 else 0) → (P ↔ ((0 < g.nW → hold g c (wAt c 0)) ∧ (1 < g.nW → hold g c (wAt c 1)) ∧ (2 < g.nW → hold g c (wAt c 2)))) → runs (call (d + 5)) 176 41 [vR 70, vI v, vI v2] [] I = some (some (vI (if well g c then 1 else 0)), I) := by
    intro v v2 P _ hv hp
    rw [m_well_b hR hM hg hV hv]
    have : (P ∧ (0 < g.nB → load g c 0 ≤ g.st 0) ∧ (1 < g.nB → load g c 1 ≤ g.st 1)) ↔ well g c := by rw [hp, ← stays_iff]; exact and_comm
    simp only [this]
  have fi : ∀ w, 0 ≤ w → w < g.nW → (frm g c (wAt c w) = 1 ∧ HB (hold g c (wAt c w))) ∨ (frm g c (wAt c w) = 0 ∧ HB (¬ hold g c (wAt c w))) := fun w h0 h1 => by
    have f := firm_hold (w := w) hg hV h0 h1
    by_cases p : firm g c (wAt c w)
    · exact Or.inl ⟨if_pos p, f.mp p⟩
    · exact Or.inr ⟨if_neg p, fun q => p (f.mpr q)⟩
  rcases hg.nWc with hn | hn | hn | hn
  · simp (disch := omega) only [r176_0, r176_1, r176_2, r176_3, r176_4, r176_5, r176_6, r176_9, r176_12, r176_13, r176_16, r176_17, r176_18, r176_21, r176_22, r176_23, r176_26, r176_29, r176_30, r176_33, r176_34, r176_35, r176_38, r176_42, r176_43, r176_44, r176_45, r176_48, r176_51, r176_52, r176_55, r176_56, r176_57, r176_60, r176_61, r176_62, r176_65, r176_68, r176_69, r176_72, r176_73, r176_74, r176_77, r176_80, r176_81, ↓if_pos, ↓if_neg, m_walkers hR, m_isFirmi hR hM hg, Option.bind_some, pushR_s, iadd_eq, Int.reduceAdd]
    exact fin (P := True) rfl (iff_of_true trivial ⟨by omega, by omega, by omega⟩)
  · rcases fi 0 (by omega) (by omega) with ⟨k0, p0⟩ | ⟨k0, p0⟩
    · simp (disch := omega) only [r176_0, r176_1, r176_2, r176_3, r176_4, r176_5, r176_6, r176_9, r176_12, r176_13, r176_16, r176_17, r176_18, r176_21, r176_22, r176_23, r176_26, r176_29, r176_30, r176_33, r176_34, r176_35, r176_38, r176_42, r176_43, r176_44, r176_45, r176_48, r176_51, r176_52, r176_55, r176_56, r176_57, r176_60, r176_61, r176_62, r176_65, r176_68, r176_69, r176_72, r176_73, r176_74, r176_77, r176_80, r176_81, ↓if_pos, ↓if_neg, m_walkers hR, e0, e1, e2, m_isFirmi hR hM hg, k0, Option.bind_some, pushR_s, iadd_eq, Int.reduceAdd]
      exact fin (P := True) rfl (iff_of_true trivial ⟨fun _ => p0, by omega, by omega⟩)
    · simp (disch := omega) only [r176_0, r176_1, r176_2, r176_3, r176_4, r176_5, r176_6, r176_9, r176_12, r176_13, r176_16, r176_17, r176_18, r176_21, r176_22, r176_23, r176_26, r176_29, r176_30, r176_33, r176_34, r176_35, r176_38, r176_42, r176_43, r176_44, r176_45, r176_48, r176_51, r176_52, r176_55, r176_56, r176_57, r176_60, r176_61, r176_62, r176_65, r176_68, r176_69, r176_72, r176_73, r176_74, r176_77, r176_80, r176_81, ↓if_pos, ↓if_neg, m_walkers hR, e0, e1, e2, m_isFirmi hR hM hg, k0, Option.bind_some, pushR_s, iadd_eq, Int.reduceAdd]
      exact fin (P := False) rfl (iff_of_false id (fun q => p0 (q.1 (by omega))))
  · rcases fi 0 (by omega) (by omega) with ⟨k0, p0⟩ | ⟨k0, p0⟩
    · rcases fi 1 (by omega) (by omega) with ⟨k1, p1⟩ | ⟨k1, p1⟩
      · simp (disch := omega) only [r176_0, r176_1, r176_2, r176_3, r176_4, r176_5, r176_6, r176_9, r176_12, r176_13, r176_16, r176_17, r176_18, r176_21, r176_22, r176_23, r176_26, r176_29, r176_30, r176_33, r176_34, r176_35, r176_38, r176_42, r176_43, r176_44, r176_45, r176_48, r176_51, r176_52, r176_55, r176_56, r176_57, r176_60, r176_61, r176_62, r176_65, r176_68, r176_69, r176_72, r176_73, r176_74, r176_77, r176_80, r176_81, ↓if_pos, ↓if_neg, m_walkers hR, e0, e1, e2, m_isFirmi hR hM hg, k0, k1, Option.bind_some, pushR_s, iadd_eq, Int.reduceAdd]
        exact fin (P := True) rfl (iff_of_true trivial ⟨fun _ => p0, fun _ => p1, by omega⟩)
      · simp (disch := omega) only [r176_0, r176_1, r176_2, r176_3, r176_4, r176_5, r176_6, r176_9, r176_12, r176_13, r176_16, r176_17, r176_18, r176_21, r176_22, r176_23, r176_26, r176_29, r176_30, r176_33, r176_34, r176_35, r176_38, r176_42, r176_43, r176_44, r176_45, r176_48, r176_51, r176_52, r176_55, r176_56, r176_57, r176_60, r176_61, r176_62, r176_65, r176_68, r176_69, r176_72, r176_73, r176_74, r176_77, r176_80, r176_81, ↓if_pos, ↓if_neg, m_walkers hR, e0, e1, e2, m_isFirmi hR hM hg, k0, k1, Option.bind_some, pushR_s, iadd_eq, Int.reduceAdd]
        exact fin (P := False) rfl (iff_of_false id (fun q => p1 (q.2.1 (by omega))))
    · simp (disch := omega) only [r176_0, r176_1, r176_2, r176_3, r176_4, r176_5, r176_6, r176_9, r176_12, r176_13, r176_16, r176_17, r176_18, r176_21, r176_22, r176_23, r176_26, r176_29, r176_30, r176_33, r176_34, r176_35, r176_38, r176_42, r176_43, r176_44, r176_45, r176_48, r176_51, r176_52, r176_55, r176_56, r176_57, r176_60, r176_61, r176_62, r176_65, r176_68, r176_69, r176_72, r176_73, r176_74, r176_77, r176_80, r176_81, ↓if_pos, ↓if_neg, m_walkers hR, e0, e1, e2, m_isFirmi hR hM hg, k0, Option.bind_some, pushR_s, iadd_eq, Int.reduceAdd]
      exact fin (P := False) rfl (iff_of_false id (fun q => p0 (q.1 (by omega))))
  · rcases fi 0 (by omega) (by omega) with ⟨k0, p0⟩ | ⟨k0, p0⟩
    · rcases fi 1 (by omega) (by omega) with ⟨k1, p1⟩ | ⟨k1, p1⟩
      · rcases fi 2 (by omega) (by omega) with ⟨k2, p2⟩ | ⟨k2, p2⟩
        · simp (disch := omega) only [r176_0, r176_1, r176_2, r176_3, r176_4, r176_5, r176_6, r176_9, r176_12, r176_13, r176_16, r176_17, r176_18, r176_21, r176_22, r176_23, r176_26, r176_29, r176_30, r176_33, r176_34, r176_35, r176_38, r176_42, r176_43, r176_44, r176_45, r176_48, r176_51, r176_52, r176_55, r176_56, r176_57, r176_60, r176_61, r176_62, r176_65, r176_68, r176_69, r176_72, r176_73, r176_74, r176_77, r176_80, r176_81, ↓if_pos, ↓if_neg, m_walkers hR, e0, e1, e2, m_isFirmi hR hM hg, k0, k1, k2, Option.bind_some, pushR_s, iadd_eq, Int.reduceAdd]
          exact fin (P := True) rfl (iff_of_true trivial ⟨fun _ => p0, fun _ => p1, fun _ => p2⟩)
        · simp (disch := omega) only [r176_0, r176_1, r176_2, r176_3, r176_4, r176_5, r176_6, r176_9, r176_12, r176_13, r176_16, r176_17, r176_18, r176_21, r176_22, r176_23, r176_26, r176_29, r176_30, r176_33, r176_34, r176_35, r176_38, r176_42, r176_43, r176_44, r176_45, r176_48, r176_51, r176_52, r176_55, r176_56, r176_57, r176_60, r176_61, r176_62, r176_65, r176_68, r176_69, r176_72, r176_73, r176_74, r176_77, r176_80, r176_81, ↓if_pos, ↓if_neg, m_walkers hR, e0, e1, e2, m_isFirmi hR hM hg, k0, k1, k2, Option.bind_some, pushR_s, iadd_eq, Int.reduceAdd]
          exact fin (P := False) rfl (iff_of_false id (fun q => p2 (q.2.2 (by omega))))
      · simp (disch := omega) only [r176_0, r176_1, r176_2, r176_3, r176_4, r176_5, r176_6, r176_9, r176_12, r176_13, r176_16, r176_17, r176_18, r176_21, r176_22, r176_23, r176_26, r176_29, r176_30, r176_33, r176_34, r176_35, r176_38, r176_42, r176_43, r176_44, r176_45, r176_48, r176_51, r176_52, r176_55, r176_56, r176_57, r176_60, r176_61, r176_62, r176_65, r176_68, r176_69, r176_72, r176_73, r176_74, r176_77, r176_80, r176_81, ↓if_pos, ↓if_neg, m_walkers hR, e0, e1, e2, m_isFirmi hR hM hg, k0, k1, Option.bind_some, pushR_s, iadd_eq, Int.reduceAdd]
        exact fin (P := False) rfl (iff_of_false id (fun q => p1 (q.2.1 (by omega))))
    · simp (disch := omega) only [r176_0, r176_1, r176_2, r176_3, r176_4, r176_5, r176_6, r176_9, r176_12, r176_13, r176_16, r176_17, r176_18, r176_21, r176_22, r176_23, r176_26, r176_29, r176_30, r176_33, r176_34, r176_35, r176_38, r176_42, r176_43, r176_44, r176_45, r176_48, r176_51, r176_52, r176_55, r176_56, r176_57, r176_60, r176_61, r176_62, r176_65, r176_68, r176_69, r176_72, r176_73, r176_74, r176_77, r176_80, r176_81, ↓if_pos, ↓if_neg, m_walkers hR, e0, e1, e2, m_isFirmi hR hM hg, k0, Option.bind_some, pushR_s, iadd_eq, Int.reduceAdd]
      exact fin (P := False) rfl (iff_of_false id (fun q => p0 (q.1 (by omega))))
theorem m_goalOf (hR : RG I g) (hg : WG g) (h0 : 0 ≤ w) (h1 : w < g.nW) : call (d + 2) 177 [vR 70, vI w] I = some (some (vI (goalP g w)), I) := by
  rw [en177]; have hn := hg.nW3; have e := (hR.2.2.1 w h0 h1).2
  rcases hg.gl1 h0 h1 with h | h <;> simp (disch := omega) only [r177_0, r177_1, r177_4, r177_6, r177_7, r177_8, r177_9, r177_10, r177_11, r177_12, r177_13, r177_14, r177_17, r177_18, r177_21, r177_24, r177_25, ↓if_pos, ↓if_neg, imul_eq, iadd_eq, m_last hR, goalP, Option.bind_some, pushR_s]
theorem m_isOver (hR : RG I g) (hM : MS I g c) (hg : WG g) : call (d + 3) 178 [vR 70] I = some (some (vI (if overs g c then 1 else 0)), I) := by
  rw [en178]
  have e0 := hM.1 0 (by omega); have e1 := hM.1 1 (by omega); have e2 := hM.1 2 (by omega)
  rcases hg.nWc with hn | hn | hn | hn
  · simp (disch := omega) only [r178_0, r178_1, r178_2, r178_3, r178_4, r178_5, r178_6, r178_9, r178_12, r178_13, r178_16, r178_17, r178_20, r178_21, r178_22, r178_23, r178_24, r178_27, r178_30, r178_31, r178_34, r178_35, r178_36, r178_39, r178_42, r178_43, ↓if_pos, ↓if_neg, m_walkers hR, Option.bind_some, pushR_s]
  · by_cases p0 : wAt c 0 = goalP g 0 <;>
    simp (disch := omega) only [r178_0, r178_1, r178_2, r178_3, r178_4, r178_5, r178_6, r178_9, r178_12, r178_13, r178_16, r178_17, r178_20, r178_21, r178_22, r178_23, r178_24, r178_27, r178_30, r178_31, r178_34, r178_35, r178_36, r178_39, r178_42, r178_43, ↓if_pos, ↓if_neg, m_walkers hR, e0, m_goalOf hR hg, Option.bind_some, pushR_s, iadd_eq, Int.reduceAdd]
  · by_cases p0 : wAt c 0 = goalP g 0 <;> by_cases p1 : wAt c 1 = goalP g 1 <;>
    simp (disch := omega) only [r178_0, r178_1, r178_2, r178_3, r178_4, r178_5, r178_6, r178_9, r178_12, r178_13, r178_16, r178_17, r178_20, r178_21, r178_22, r178_23, r178_24, r178_27, r178_30, r178_31, r178_34, r178_35, r178_36, r178_39, r178_42, r178_43, ↓if_pos, ↓if_neg, m_walkers hR, e0, e1, m_goalOf hR hg, Option.bind_some, pushR_s, iadd_eq, Int.reduceAdd]
  · by_cases p0 : wAt c 0 = goalP g 0 <;> by_cases p1 : wAt c 1 = goalP g 1 <;> by_cases p2 : wAt c 2 = goalP g 2 <;>
    simp (disch := omega) only [r178_0, r178_1, r178_2, r178_3, r178_4, r178_5, r178_6, r178_9, r178_12, r178_13, r178_16, r178_17, r178_20, r178_21, r178_22, r178_23, r178_24, r178_27, r178_30, r178_31, r178_34, r178_35, r178_36, r178_39, r178_42, r178_43, ↓if_pos, ↓if_neg, m_walkers hR, e0, e1, e2, m_goalOf hR hg, Option.bind_some, pushR_s, iadd_eq, Int.reduceAdd]
theorem m_aheadBy (hx : 0 ≤ x ∧ x < 2) : call (d + 1) 179 [vI x] I = some (some (vI (stp x)), I) := by
  rw [en179]
  by_cases h : x = 0
  · simp (disch := omega) only [r179_0, r179_1, r179_2, r179_5, r179_6, r179_9, r179_10, ↓if_pos, ↓if_neg, stp_0 h]
  · simp (disch := omega) only [r179_0, r179_1, r179_2, r179_5, r179_6, r179_9, r179_10, ↓if_pos, ↓if_neg, stp_1 h]
theorem m_layFrom (hR : RG I g) (hM : MS I g c) (hg : WG g) (h0 : 0 ≤ b) (h1 : b < g.nB) (hw : 0 ≤ w ∧ w < g.nW) (hy : 0 ≤ y ∧ y < 2) : call (d + 3) 184 [vR 70, vI w, vI b, vI y] I = some (some (vI (least g c w b y)), I) := by
  rw [en184]; have e := hM.1 w hw.1 hw.2; have := hg.nW3; have hq := wAt_b c w; have h4 := hg.sp14 h0 h1
  by_cases h : y = 0
  · simp (disch := omega) only [r184_0, r184_1, r184_2, r184_5, r184_6, r184_9, r184_10, r184_11, r184_12, r184_13, r184_16, r184_17, r184_20, r184_21, r184_22, r184_23, r184_24, r184_27, r184_28, ↓if_pos, ↓if_neg, e, m_longOfBoard hR hg, isub_eq, iadd_eq, least, Option.bind_some, pushR_s]
  · simp (disch := omega) only [r184_0, r184_1, r184_2, r184_5, r184_6, r184_9, r184_10, r184_11, r184_12, r184_13, r184_16, r184_17, r184_20, r184_21, r184_22, r184_23, r184_24, r184_27, r184_28, ↓if_pos, ↓if_neg, e, isub_eq, iadd_eq, least, Option.bind_some, pushR_s]
theorem lay_loop (hR : RG I g) (hM : MS I g c) (hg : WG g) (h0 : 0 ≤ b) (h1 : b < g.nB) (v1 v3 : AV) {f : Int} (hf : -8 ≤ f ∧ f ≤ 8) : ∀ (n : Nat) (p : Int), p + n = f + g.sp b → f ≤ p → runs (call (d + 4)) 185 27 [vR 70, v1, vI b, v3, vI f, vI 1, vI p] [] I = some (some (vI (if layB g c p n then 1 else 0)), I) := by
  have h4 := hg.sp14 h0 h1; have h7 := hg.last7
  intro n
  induction n with
  | zero =>
    intro p hp hfp
    simp (disch := omega) only [r185_0, r185_1, r185_2, r185_5, r185_6, r185_9, r185_10, r185_11, r185_12, r185_13, r185_14, r185_15, r185_18, r185_20, r185_21, r185_23, r185_25, r185_27, r185_29, r185_31, r185_32, r185_33, r185_36, r185_37, r185_40, r185_42, r185_45, r185_47, r185_48, r185_49, r185_50, r185_53, r185_54, r185_57, r185_60, r185_61, r185_64, r185_65, r185_67, r185_68, r185_69, r185_70, r185_73, r185_74, r185_76, r185_79, r185_82, r185_83, r185_86, r185_87, r185_89, r185_92, r185_95, r185_97, ↓if_pos, ↓if_neg, m_longOfBoard hR hg, iadd_eq, layB, Option.bind_some, pushR_s]
    rfl
  | succ n ih =>
    intro p hp hfp
    by_cases hr : 0 ≤ p ∧ p ≤ g.last
    · have e := hR.pl hr.1 hr.2; have e2 := ground_dry (g := g) hr.1
      by_cases hd : dry g p
      · have hk : layB g c p (n + 1) = false := by simp [layB, okP, hold, hd]
        have e3 : ¬ I 71 p = 2 := fun q => e2.mp (e ▸ q) hd
        simp (disch := omega) only [r185_0, r185_1, r185_2, r185_5, r185_6, r185_9, r185_10, r185_11, r185_12, r185_13, r185_14, r185_15, r185_18, r185_20, r185_21, r185_23, r185_25, r185_27, r185_29, r185_31, r185_32, r185_33, r185_36, r185_37, r185_40, r185_42, r185_45, r185_47, r185_48, r185_49, r185_50, r185_53, r185_54, r185_57, r185_60, r185_61, r185_64, r185_65, r185_67, r185_68, r185_69, r185_70, r185_73, r185_74, r185_76, r185_79, r185_82, r185_83, r185_86, r185_87, r185_89, r185_92, r185_95, r185_97, ↓if_pos, ↓if_neg, m_longOfBoard hR hg, m_last hR, m_in, if_pos hr, Int.zero_add, if_neg e3, iadd_eq, hk, Option.bind_some, pushR_s]
        split <;> rfl
      · have e3 : I 71 p = 2 := e.trans (e2.mpr hd)
        by_cases hc : covd g c p
        · have hk : layB g c p (n + 1) = false := by simp only [layB, okP, hold]; simp [hc]
          simp (disch := omega) only [r185_0, r185_1, r185_2, r185_5, r185_6, r185_9, r185_10, r185_11, r185_12, r185_13, r185_14, r185_15, r185_18, r185_20, r185_21, r185_23, r185_25, r185_27, r185_29, r185_31, r185_32, r185_33, r185_36, r185_37, r185_40, r185_42, r185_45, r185_47, r185_48, r185_49, r185_50, r185_53, r185_54, r185_57, r185_60, r185_61, r185_64, r185_65, r185_67, r185_68, r185_69, r185_70, r185_73, r185_74, r185_76, r185_79, r185_82, r185_83, r185_86, r185_87, r185_89, r185_92, r185_95, r185_97, ↓if_pos, ↓if_neg, m_longOfBoard hR hg, m_last hR, m_in, if_pos hr, Int.zero_add, if_pos e3, m_hasBoard hR hM hg, if_pos hc, iadd_eq, hk, Option.bind_some, pushR_s]
          split <;> rfl
        · have hk : layB g c p (n + 1) = layB g c (p + 1) n := by
            have : okP g c p = true := decide_eq_true ⟨hr, fun q => q.elim hd hc⟩
            rw [layB, this, Bool.true_and]
          rw [hk]
          refine Eq.trans ?_ (ih (p + 1) (by push_cast at hp; omega) (by omega))
          rw [r185_27]
          simp (disch := omega) only [r185_0, r185_1, r185_2, r185_5, r185_6, r185_9, r185_10, r185_11, r185_12, r185_13, r185_14, r185_15, r185_18, r185_20, r185_21, r185_23, r185_25, r185_29, r185_31, r185_32, r185_33, r185_36, r185_37, r185_40, r185_42, r185_45, r185_47, r185_48, r185_49, r185_50, r185_53, r185_54, r185_57, r185_60, r185_61, r185_64, r185_65, r185_67, r185_68, r185_69, r185_70, r185_73, r185_74, r185_76, r185_79, r185_82, r185_83, r185_86, r185_87, r185_89, r185_92, r185_95, r185_97, ↓if_pos, ↓if_neg, m_longOfBoard hR hg, m_last hR, m_in, if_pos hr, Int.zero_add, if_pos e3, m_hasBoard hR hM hg, if_neg hc, iadd_eq, Option.bind_some, pushR_s]
    · have hk : layB g c p (n + 1) = false := by simp only [layB, okP]; simp; intro a b; omega
      simp (disch := omega) only [r185_0, r185_1, r185_2, r185_5, r185_6, r185_9, r185_10, r185_11, r185_12, r185_13, r185_14, r185_15, r185_18, r185_20, r185_21, r185_23, r185_25, r185_27, r185_29, r185_31, r185_32, r185_33, r185_36, r185_37, r185_40, r185_42, r185_45, r185_47, r185_48, r185_49, r185_50, r185_53, r185_54, r185_57, r185_60, r185_61, r185_64, r185_65, r185_67, r185_68, r185_69, r185_70, r185_73, r185_74, r185_76, r185_79, r185_82, r185_83, r185_86, r185_87, r185_89, r185_92, r185_95, r185_97, ↓if_pos, ↓if_neg, m_longOfBoard hR hg, m_last hR, m_in, if_neg hr, iadd_eq, hk, Option.bind_some, pushR_s]
      split <;> rfl
theorem m_mayLay (hR : RG I g) (hM : MS I g c) (hg : WG g) (hV : VC g c) (h0 : 0 ≤ b) (h1 : b < g.nB) (hw : 0 ≤ w ∧ w < g.nW) (hy : 0 ≤ y ∧ y < 2) : call (d + 5) 185 [vR 70, vI w, vI b, vI y] I = some (some (vI (if bAt c b = 8 + w ∧ layOK g c w b y then 1 else 0)), I) := by
  rw [en185]
  have hnW := hg.nW3
  have hk := cby_b (w := w) (b := b) hV (by omega) h0 h1 hg
  have h4 := hg.sp14 h0 h1; have hq := wAt_b c w
  by_cases h : bAt c b = 8 + w
  · have hcb := hk.mpr h
    have hL := layB_ok (c := c) (w := w) (y := y) h4
    have hf : -8 ≤ least g c w b y ∧ least g c w b y ≤ 8 := by unfold least; split <;> omega
    simp (disch := omega) only [r185_0, r185_1, r185_2, r185_5, r185_6, r185_9, r185_10, r185_11, r185_12, r185_13, r185_14, r185_15, r185_18, r185_20, r185_21, r185_23, r185_25, r185_29, r185_31, r185_32, r185_33, r185_36, r185_37, r185_40, r185_42, r185_45, r185_47, r185_48, r185_49, r185_50, r185_53, r185_54, r185_57, r185_60, r185_61, r185_64, r185_65, r185_67, r185_68, r185_69, r185_70, r185_73, r185_74, r185_76, r185_79, r185_82, r185_83, r185_86, r185_87, r185_89, r185_92, r185_95, r185_97, ↓if_pos, ↓if_neg, m_carries hR hM hg hV, m_layFrom hR hM hg, Option.bind_some, pushR_s]
    rw [lay_loop hR hM hg h0 h1 _ _ hf (g.sp b).toNat _ (by omega) (by omega)]
    simp only [h, true_and, hL]
  · have hcb : ¬ cby g c w = b := fun q => h (hk.mp q)
    simp (disch := omega) only [r185_0, r185_1, r185_2, r185_5, r185_6, r185_9, r185_10, r185_11, r185_12, r185_13, r185_14, r185_15, r185_18, r185_20, r185_21, r185_23, r185_25, r185_27, r185_29, r185_31, r185_32, r185_33, r185_36, r185_37, r185_40, r185_42, r185_45, r185_47, r185_48, r185_49, r185_50, r185_53, r185_54, r185_57, r185_60, r185_61, r185_64, r185_65, r185_67, r185_68, r185_69, r185_70, r185_73, r185_74, r185_76, r185_79, r185_82, r185_83, r185_86, r185_87, r185_89, r185_92, r185_95, r185_97, ↓if_pos, ↓if_neg, m_carries hR hM hg hV, if_neg (fun q : bAt c b = 8 + w ∧ layOK g c w b y => h q.1), Option.bind_some, pushR_s]
end
