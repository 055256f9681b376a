/-! The calls that only look, in both: place, firm, walker, board, over, status, count, sign, limb. -/
def OUT (l : List Nat) (I J : MM) : Prop := ∀ a, a ∉ l → ∀ i, J a i = I a i
theorem OUT.refl (l : List Nat) (I : MM) : OUT l I I := fun _ _ _ => rfl
theorem OUT.mset {l : List Nat} {I : MM} {a : Nat} (i v : Int) (h : a ∈ l) : OUT l I (mset I a i v) := fun b hb j => by
  rw [mset_at, if_neg (fun q : b = a ∧ j = i => hb (q.1 ▸ h))]
theorem OUT.trans {l : List Nat} {I J K : MM} (h1 : OUT l I J) (h2 : OUT l J K) : OUT l I K := fun a ha i => (h2 a ha i).trans (h1 a ha i)
theorem OUT.mono {l m : List Nat} {I J : MM} (h : OUT l I J) (hs : ∀ a, a ∈ l → a ∈ m) : OUT m I J := fun a ha i => h a (fun q => ha (hs a q)) i
abbrev MC : List Nat := [70, 71, 72, 73, 74, 75, 76, 77, 78, 79, 80, 81, 82, 83, 84, 85, 86, 87, 88]
theorem Fr8.out {I J : MM} (f : Fr8 I J) : OUT MC I J := fun a ha i => f a i (fun q => ha (by simp [q])) (fun q => ha (by simp [q])) (fun q => ha (by simp [q])) (fun q => ha (by simp [q])) (fun q => ha (by simp [q.1]))
def bump (s : ST) (k : Int) : ST := up s 3 4 (fun i => if i = k then iadd (s 3 4 k) 1 else s 3 4 i)
theorem bumpd (s : ST) (k : Int) : bump s k = up s 3 4 (fun i => if i = k then iadd (s 3 4 k) 1 else s 3 4 i) := rfl
theorem OK.cnt {s : ST} (h : OK s) (v : Int → Int) : OK (up s 3 4 v) := h
theorem OK.bump {s : ST} (h : OK s) (k : Int) : OK (bump s k) := h
def xbump (I : MM) (k : Int) : MM := mset I 1 (11 + k) (iadd (I 1 (11 + k)) 1)
def mbump (I : MM) (k : Int) : MM := mset I 74 k (iadd (I 74 k) 1)
theorem xbump_o {I : MM} {k : Int} {a : Nat} (ha : a ≠ 1) (i : Int) : xbump I k a i = I a i := by rw [xbump, mset_at, if_neg (fun q => ha q.1)]
theorem mbump_o {I : MM} {k : Int} {a : Nat} (ha : a ≠ 74) (i : Int) : mbump I k a i = I a i := by rw [mbump, mset_at, if_neg (fun q => ha q.1)]
theorem XR.bump {I : MM} {s : ST} {k : Int} (h : XR I s) (hk : 0 ≤ k ∧ k < 3) : XR (xbump I k) (bump s k) := by
  refine ⟨h.B.cong (fun a a1 a2 i => xbump_o (by omega) i), h.T.cong (xbump_o (by decide) _) (xbump_o (by decide)), h.R.cong (xbump_o (by decide) _) (xbump_o (by decide)), h.P.cong (xbump_o (by decide) _) (xbump_o (by decide)), ?_, h.F.cong (xbump_o (by decide)) (xbump_o (by decide)) (xbump_o (by decide) _) (xbump_o (by decide) _), h.I0.cong (fun a a1 a2 i => xbump_o (by omega) i), h.I1.cong (fun a a1 a2 i => xbump_o (by omega) i), h.K.cong (xbump_o (by decide)) (xbump_o (by decide))⟩
  obtain ⟨c0, c1, c2⟩ := h.C
  rcases w012 hk with rfl | rfl | rfl <;> refine ⟨?_, ?_, ?_⟩ <;> simp [xbump, mset_at, bumpd, up_at, c0, c1, c2]
theorem MR.bump {I : MM} {s : ST} {k : Int} (hO : OK s) (h : MR I s) (hk : 0 ≤ k ∧ k < 3) : MR (mbump I k) (bump s k) := by
  refine ⟨h.N.cong (fun i _ _ => mbump_o (by decide) i) hO.1, h.T.cong (mbump_o (by decide) _) (mbump_o (by decide)), ?_, h.F.cong (mbump_o (by decide)) (mbump_o (by decide)) (mbump_o (by decide) _), h.I0.cong (mbump_o (by decide)) (mbump_o (by decide)) hO.2.2.2.2.1, h.I1.cong (mbump_o (by decide)) (mbump_o (by decide)) hO.2.2.2.2.2⟩
  obtain ⟨c0, c1, c2⟩ := h.C
  rcases w012 hk with rfl | rfl | rfl <;> refine ⟨?_, ?_, ?_⟩ <;> simp [mbump, mset_at, bumpd, up_at, c0, c1, c2]
section
variable {d : Nat} {I : MM} {s : ST} {g : G} {a c w x y b p v i : Int}
theorem x_bad : call (d + 1) 138 [vR 1, vI (-2), vI v] I = some (some (vI v), xbump I 0) := by
  rw [en138]; simp (disch := omega) only [r138_0, r138_1, r138_3, r138_6, r138_7, r138_8, r138_11, r138_12, r138_13, r138_16, r138_19, r138_20, r138_22, r138_25, r138_26, r138_27, r138_30, r138_31, r138_32, r138_35, r138_38, r138_39, r138_40, r138_43, r138_44, r138_45, r138_48, r138_49, ↓if_pos, ↓if_neg]; rfl
theorem x_no : call (d + 1) 138 [vR 1, vI (-3), vI v] I = some (some (vI v), xbump I 1) := by
  rw [en138]; simp (disch := omega) only [r138_0, r138_1, r138_3, r138_6, r138_7, r138_8, r138_11, r138_12, r138_13, r138_16, r138_19, r138_20, r138_22, r138_25, r138_26, r138_27, r138_30, r138_31, r138_32, r138_35, r138_38, r138_39, r138_40, r138_43, r138_44, r138_45, r138_48, r138_49, ↓if_pos, ↓if_neg]; rfl
theorem x_full : call (d + 1) 138 [vR 1, vI (-4), vI v] I = some (some (vI v), xbump I 2) := by
  rw [en138]; simp (disch := omega) only [r138_0, r138_1, r138_3, r138_6, r138_7, r138_8, r138_11, r138_12, r138_13, r138_16, r138_19, r138_20, r138_22, r138_25, r138_26, r138_27, r138_30, r138_31, r138_32, r138_35, r138_38, r138_39, r138_40, r138_43, r138_44, r138_45, r138_48, r138_49, ↓if_pos, ↓if_neg]; rfl
theorem m_bad : call (d + 1) 143 [vR 70, vI v] I = some (some (vI v), mbump I 0) := by
  rw [en143]; simp (disch := omega) only [r143_0, r143_1, r143_4, r143_5, r143_6, r143_7, r143_8, r143_9, r143_10, r143_11, ↓if_pos, ↓if_neg]; rfl
theorem m_no : call (d + 1) 144 [vR 70] I = some (some (vI (-3)), mbump I 1) := by
  rw [en144]; simp (disch := omega) only [r144_0, r144_1, r144_4, r144_5, r144_6, r144_7, r144_8, r144_9, r144_10, r144_12, ↓if_pos, ↓if_neg]; rfl
theorem m_full : call (d + 1) 145 [vR 70] I = some (some (vI (-4)), mbump I 2) := by
  rw [en145]; simp (disch := omega) only [r145_0, r145_1, r145_4, r145_5, r145_6, r145_7, r145_8, r145_9, r145_10, r145_12, ↓if_pos, ↓if_neg]; rfl
/-- an answer of the class; of the model -/
def XA (d z : Nat) (args : List AV) (l : List Nat) (I : MM) (r : Int) (s' : ST) : Prop := ∃ J, call d z (vR 1 :: args) I = some (some (vI r), J) ∧ XR J s' ∧ OUT l I J
def MA (d z : Nat) (args : List AV) (I : MM) (r : Int) (s' : ST) : Prop := ∃ J, call d z (vR 70 :: args) I = some (some (vI r), J) ∧ MR J s' ∧ OUT MC I J
theorem XA.bump {z : Nat} {args : List AV} {r k : Int} (h : XR I s) (hk : 0 ≤ k ∧ k < 3) (hc : call d z (vR 1 :: args) I = some (some (vI r), xbump I k)) : XA d z args [1] I r (bump s k) := ⟨_, hc, h.bump hk, fun a ha i => xbump_o (fun q => ha (by simp [q])) i⟩
theorem XA.same {z : Nat} {args : List AV} {r : Int} {l : List Nat} (h : XR I s) (hc : call d z (vR 1 :: args) I = some (some (vI r), I)) : XA d z args l I r s := ⟨_, hc, h, OUT.refl _ _⟩
theorem MA.bump {z : Nat} {args : List AV} {r k : Int} (hO : OK s) (h : MR I s) (hk : 0 ≤ k ∧ k < 3) (hc : call d z (vR 70 :: args) I = some (some (vI r), mbump I k)) : MA d z args I r (bump s k) := ⟨_, hc, h.bump hO hk, fun a ha i => mbump_o (fun q => ha (by simp [q])) i⟩
theorem MA.same {z : Nat} {args : List AV} {r : Int} (h : MR I s) (hc : call d z (vR 70 :: args) I = some (some (vI r), I)) : MA d z args I r s := ⟨_, hc, h, OUT.refl _ _⟩
theorem MA.fr8 {J : MM} {z : Nat} {args : List AV} {r : Int} (hO : OK s) (h : MR I s) (f : Fr8 I J) (hc : call d z (vR 70 :: args) I = some (some (vI r), J)) : MA d z args I r s := ⟨_, hc, h.fr8 hO f, f.out⟩
/-! place -/
def aPlace (s : ST) (p : Int) : Int := if 0 ≤ p ∧ p ≤ (gg s).last then ground (gg s) p else -2
def sPlace (s : ST) (p : Int) : ST := if 0 ≤ p ∧ p ≤ (gg s).last then s else bump s 0
theorem X_place (hX : XR I s) (hO : OK s) : XA (d + 2) 112 [vI p] [1] I (aPlace s p) (sPlace s p) := by
  unfold aPlace sPlace
  by_cases h : 0 ≤ p ∧ p ≤ (gg s).last
  · rw [if_pos h, if_pos h]; refine XA.same hX ?_
    rw [en112]; simp (disch := omega) only [r112_0, r112_1, r112_4, r112_5, r112_8, r112_11, r112_12, r112_14, r112_16, r112_19, r112_20, r112_21, r112_24, r112_25, r112_28, ↓if_pos, ↓if_neg, x_hasPlace hX.A, x_groundAt hX.A hO.W, Option.bind_some, pushR_s]
  · rw [if_neg h, if_neg h]; refine XA.bump hX (by omega) ?_
    rw [en112]; simp (disch := omega) only [r112_0, r112_1, r112_4, r112_5, r112_8, r112_11, r112_12, r112_14, r112_16, r112_19, r112_20, r112_21, r112_24, r112_25, r112_28, ↓if_pos, ↓if_neg, x_hasPlace hX.A, x_bad, Option.bind_some, pushR_s]
theorem M_place (hM : MR I s) (hO : OK s) : MA (d + 2) 230 [vI p] I (aPlace s p) (sPlace s p) := by
  unfold aPlace sPlace; have h7 := hO.W.last7
  by_cases h : 0 ≤ p ∧ p ≤ (gg s).last
  · rw [if_pos h, if_pos h]; refine MA.same hM ?_
    rw [en230]; simp (disch := omega) only [r230_0, r230_1, r230_2, r230_3, r230_4, r230_7, r230_8, r230_11, r230_14, r230_15, r230_18, r230_19, r230_20, r230_21, r230_22, r230_25, r230_26, r230_28, r230_31, ↓if_pos, ↓if_neg, m_last hM.R, m_in, iadd_eq, Int.zero_add, hM.R.pl h.1 h.2, Option.bind_some, pushR_s]
  · rw [if_neg h, if_neg h]; refine MA.bump hO hM (by omega) ?_
    rw [en230]; simp (disch := omega) only [r230_0, r230_1, r230_2, r230_3, r230_4, r230_7, r230_8, r230_11, r230_14, r230_15, r230_18, r230_19, r230_20, r230_21, r230_22, r230_25, r230_26, r230_28, r230_31, ↓if_pos, ↓if_neg, m_last hM.R, m_in, m_bad, Option.bind_some, pushR_s]
/-! firm -/
def aFirm (s : ST) (p : Int) : Int := if 0 ≤ p ∧ p ≤ (gg s).last then frm (gg s) (cd s) p else -2
theorem x_isFirmi (hA : At 2 I g) (hg : WG g) (hc : 0 ≤ c ∧ c < 131072) : call (d + 4) 25 [vR 2, vI c, vI p] I = some (some (vI (frm g c p)), I) := x_isFirm hA hg hc
theorem X_firm (hX : XR I s) (hO : OK s) : XA (d + 5) 113 [vI p] [1] I (aFirm s p) (sPlace s p) := by
  unfold aFirm sPlace
  by_cases h : 0 ≤ p ∧ p ≤ (gg s).last
  · rw [if_pos h, if_pos h]; refine XA.same hX ?_
    rw [en113]
    rcases frm_c (gg s) (cd s) p with ⟨k0, -⟩ | ⟨k0, -⟩ <;> rw [k0] <;> simp (disch := omega) only [r113_0, r113_1, r113_4, r113_5, r113_8, r113_11, r113_12, r113_14, r113_16, r113_19, r113_20, r113_21, r113_24, r113_25, r113_28, r113_31, r113_32, r113_35, r113_38, r113_39, r113_42, r113_43, ↓if_pos, ↓if_neg, x_hasPlace hX.A, hX.n, x_isFirmi hX.A hO.W hO.V.c, k0, Option.bind_some, pushR_s]
  · rw [if_neg h, if_neg h]; refine XA.bump hX (by omega) ?_
    rw [en113]; simp (disch := omega) only [r113_0, r113_1, r113_4, r113_5, r113_8, r113_11, r113_12, r113_14, r113_16, r113_19, r113_20, r113_21, r113_24, r113_25, r113_28, r113_31, r113_32, r113_35, r113_38, r113_39, r113_42, r113_43, ↓if_pos, ↓if_neg, x_hasPlace hX.A, x_bad, Option.bind_some, pushR_s]
theorem M_firm (hM : MR I s) (hO : OK s) : MA (d + 6) 231 [vI p] I (aFirm s p) (sPlace s p) := by
  unfold aFirm sPlace
  by_cases h : 0 ≤ p ∧ p ≤ (gg s).last
  · rw [if_pos h, if_pos h]
    have f := (memN_fr I).to8
    have hf := m_isFirmi (d := d) (p := p) (hM.R.cong (f.oth (by omega))) (memN_MS hO.W hM.S) hO.W
    refine MA.fr8 hO hM f ?_
    rw [en231]
    rcases frm_c (gg s) (cd s) p with ⟨k0, -⟩ | ⟨k0, -⟩ <;> rw [k0] at hf ⊢ <;> simp (disch := omega) only [r231_0, r231_1, r231_2, r231_3, r231_4, r231_7, r231_8, r231_11, r231_14, r231_15, r231_17, r231_20, r231_21, r231_22, r231_25, r231_26, r231_27, r231_30, r231_33, r231_34, r231_37, r231_38, ↓if_pos, ↓if_neg, m_last hM.R, m_in, m_takeNow, hf, Option.bind_some, pushR_s, pushR_n]
  · rw [if_neg h, if_neg h]; refine MA.bump hO hM (by omega) ?_
    rw [en231]; simp (disch := omega) only [r231_0, r231_1, r231_2, r231_3, r231_4, r231_7, r231_8, r231_11, r231_14, r231_15, r231_17, r231_20, r231_21, r231_22, r231_25, r231_26, r231_27, r231_30, r231_33, r231_34, r231_37, r231_38, ↓if_pos, ↓if_neg, m_last hM.R, m_in, m_bad, Option.bind_some, pushR_s]
/-! walker -/
abbrev kWalker (s : ST) (w x : Int) : Prop := (0 ≤ w ∧ w < (gg s).nW) ∧ 0 ≤ x ∧ x ≤ 3
def aWalker (s : ST) (w x : Int) : Int := if kWalker s w x then (if x = 0 then wAt (cd s) w else if x = 1 then goalP (gg s) w else if x = 2 then cby (gg s) (cd s) w else cnts (gg s) (cd s) w) else -10
def sWalker (s : ST) (w x : Int) : ST := if kWalker s w x then s else bump s 0
theorem X_walker (hX : XR I s) (hO : OK s) : XA (d + 3) 114 [vI w, vI x] [1] I (aWalker s w x) (sWalker s w x) := by
  unfold aWalker sWalker
  have e := hX.A.nW; have hn := hO.W.nW3; have hc := hO.V.c
  by_cases h : kWalker s w x
  · rw [if_pos h, if_pos h]; refine XA.same hX ?_
    rw [en114]
    obtain ⟨⟨h0, h1⟩, h2⟩ := h
    have hx : x = 0 ∨ x = 1 ∨ x = 2 ∨ x = 3 := by omega
    rcases hx with rfl | rfl | rfl | rfl <;> simp (disch := omega) only [r114_0, r114_1, r114_4, r114_5, r114_6, r114_9, r114_12, r114_15, r114_16, r114_19, r114_20, r114_21, r114_24, r114_25, r114_27, r114_29, r114_32, r114_33, r114_34, r114_34a, r114_34b, r114_34c, r114_60, r114_61, r114_64, r114_65, r114_68, r114_71, r114_72, r114_75, r114_76, r114_77, r114_80, r114_81, r114_84, r114_85, r114_86, r114_89, r114_90, r114_93, r114_96, r114_97, r114_100, r114_101, r114_102, r114_105, r114_106, r114_107, r114_110, r114_111, r114_114, r114_117, r114_120, r114_123, ↓if_pos, ↓if_neg, hX.n, x_walkerAt, x_goalPlace hX.A hO.W, x_carriedBy hX.A hO.W hc, x_ladenMask hX.A hO.W hc, x_counts hX.A hO.W, Option.bind_some, pushR_s]
  · rw [if_neg h, if_neg h]; refine XA.bump hX (by omega) ?_
    rw [en114]
    by_cases q0 : w < 0
    · simp (disch := omega) only [r114_0, r114_1, r114_4, r114_5, r114_6, r114_9, r114_12, r114_15, r114_16, r114_19, r114_20, r114_21, r114_24, r114_25, r114_27, r114_29, r114_32, r114_33, r114_34, r114_34a, r114_34b, r114_34c, r114_60, r114_61, r114_64, r114_65, r114_68, r114_71, r114_72, r114_75, r114_76, r114_77, r114_80, r114_81, r114_84, r114_85, r114_86, r114_89, r114_90, r114_93, r114_96, r114_97, r114_100, r114_101, r114_102, r114_105, r114_106, r114_107, r114_110, r114_111, r114_114, r114_117, r114_120, r114_123, ↓if_pos, ↓if_neg, x_bad, Option.bind_some, pushR_s]
    · by_cases q1 : (gg s).nW ≤ w
      · simp (disch := omega) only [r114_0, r114_1, r114_4, r114_5, r114_6, r114_9, r114_12, r114_15, r114_16, r114_19, r114_20, r114_21, r114_24, r114_25, r114_27, r114_29, r114_32, r114_33, r114_34, r114_34a, r114_34b, r114_34c, r114_60, r114_61, r114_64, r114_65, r114_68, r114_71, r114_72, r114_75, r114_76, r114_77, r114_80, r114_81, r114_84, r114_85, r114_86, r114_89, r114_90, r114_93, r114_96, r114_97, r114_100, r114_101, r114_102, r114_105, r114_106, r114_107, r114_110, r114_111, r114_114, r114_117, r114_120, r114_123, ↓if_pos, ↓if_neg, x_bad, Option.bind_some, pushR_s]
      · by_cases q2 : x < 0 <;> simp (disch := omega) only [r114_0, r114_1, r114_4, r114_5, r114_6, r114_9, r114_12, r114_15, r114_16, r114_19, r114_20, r114_21, r114_24, r114_25, r114_27, r114_29, r114_32, r114_33, r114_34, r114_34a, r114_34b, r114_34c, r114_60, r114_61, r114_64, r114_65, r114_68, r114_71, r114_72, r114_75, r114_76, r114_77, r114_80, r114_81, r114_84, r114_85, r114_86, r114_89, r114_90, r114_93, r114_96, r114_97, r114_100, r114_101, r114_102, r114_105, r114_106, r114_107, r114_110, r114_111, r114_114, r114_117, r114_120, r114_123, ↓if_pos, ↓if_neg, x_bad, Option.bind_some, pushR_s]
theorem M_walker (hM : MR I s) (hO : OK s) : MA (d + 4) 232 [vI w, vI x] I (aWalker s w x) (sWalker s w x) := by
  unfold aWalker sWalker
  have hn := hO.W.nW3
  by_cases h : kWalker s w x
  · rw [if_pos h, if_pos h]
    have f := (memN_fr I).to8
    have hR := hM.R.cong (J := memN I) (f.oth (by omega)); have hS := memN_MS hO.W hM.S
    refine MA.fr8 hO hM f ?_
    rw [en232]
    obtain ⟨⟨h0, h1⟩, h2⟩ := h
    have e := hS.1 w h0 h1
    have hx : x = 0 ∨ x = 1 ∨ x = 2 ∨ x = 3 := by omega
    rcases hx with rfl | rfl | rfl | rfl <;> simp (disch := omega) only [r232_0, r232_1, r232_2, r232_5, r232_8, r232_9, r232_10, r232_11, r232_14, r232_17, r232_20, r232_21, r232_23, r232_26, r232_27, r232_28, r232_31, r232_32, r232_35, r232_36, r232_39, r232_40, r232_41, r232_44, r232_45, r232_46, r232_49, r232_50, r232_51, r232_54, r232_57, r232_58, r232_59, r232_62, r232_63, r232_64, r232_67, r232_70, r232_71, r232_72, r232_75, ↓if_pos, ↓if_neg, m_isWalker hM.R hO.W, m_in, m_takeNow, e, m_goalOf hR hO.W, m_carries hR hS hO.W hO.V, m_countsOf hR hS hO.W hO.V, Option.bind_some, pushR_s, pushR_n]
  · rw [if_neg h, if_neg h]; refine MA.bump hO hM (by omega) ?_
    rw [en232]
    by_cases q0 : 0 ≤ w ∧ w < (gg s).nW <;> simp (disch := omega) only [r232_0, r232_1, r232_2, r232_5, r232_8, r232_9, r232_10, r232_11, r232_14, r232_17, r232_20, r232_21, r232_23, r232_26, r232_27, r232_28, r232_31, r232_32, r232_35, r232_36, r232_39, r232_40, r232_41, r232_44, r232_45, r232_46, r232_49, r232_50, r232_51, r232_54, r232_57, r232_58, r232_59, r232_62, r232_63, r232_64, r232_67, r232_70, r232_71, r232_72, r232_75, ↓if_pos, ↓if_neg, m_isWalker hM.R hO.W, m_in, m_bad, Option.bind_some, pushR_s]
/-! board -/
abbrev kBoard (s : ST) (w x : Int) : Prop := (0 ≤ w ∧ w < (gg s).nB) ∧ 0 ≤ x ∧ x ≤ 3
def aBoard (s : ST) (w x : Int) : Int := if kBoard s w x then (if x = 0 then (if bAt (cd s) w < 8 then bAt (cd s) w else -1) else if x = 1 then (gg s).sp w else if x = 2 then (gg s).st w else load (gg s) (cd s) w) else -10
def sBoard (s : ST) (w x : Int) : ST := if kBoard s w x then s else bump s 0
theorem X_board (hX : XR I s) (hO : OK s) : XA (d + 4) 115 [vI w, vI x] [1] I (aBoard s w x) (sBoard s w x) := by
  unfold aBoard sBoard
  have hn := hO.W.nB2; have hc := hO.V.c; have e1 := hX.A.sp w; have e2 := hX.A.st w
  by_cases h : kBoard s w x
  · rw [if_pos h, if_pos h]; refine XA.same hX ?_
    rw [en115]
    obtain ⟨⟨h0, h1⟩, h2⟩ := h
    have hx : x = 0 ∨ x = 1 ∨ x = 2 ∨ x = 3 := by omega
    rcases hx with rfl | rfl | rfl | rfl
    · by_cases hl : bAt (cd s) w < 8 <;> simp (disch := omega) only [r115_0, r115_1, r115_4, r115_5, r115_8, r115_11, r115_12, r115_15, r115_16, r115_17, r115_20, r115_21, r115_23, r115_25, r115_28, r115_29, r115_30, r115_30a, r115_30b, r115_30c, r115_56, r115_57, r115_60, r115_61, r115_64, r115_67, r115_68, r115_71, r115_74, r115_75, r115_78, r115_79, r115_82, r115_85, r115_86, r115_89, r115_92, r115_93, r115_94, r115_95, r115_98, r115_101, r115_102, r115_103, r115_104, r115_105, r115_108, r115_111, r115_112, r115_113, r115_114, r115_115, r115_118, r115_119, r115_122, r115_125, r115_126, r115_129, ↓if_pos, ↓if_neg, hX.n, x_hasBoard hX.A, x_isLying hc, x_boardAt, Option.bind_some, pushR_s]
    all_goals simp (disch := omega) only [r115_0, r115_1, r115_4, r115_5, r115_8, r115_11, r115_12, r115_15, r115_16, r115_17, r115_20, r115_21, r115_23, r115_25, r115_28, r115_29, r115_30, r115_30a, r115_30b, r115_30c, r115_56, r115_57, r115_60, r115_61, r115_64, r115_67, r115_68, r115_71, r115_74, r115_75, r115_78, r115_79, r115_82, r115_85, r115_86, r115_89, r115_92, r115_93, r115_94, r115_95, r115_98, r115_101, r115_102, r115_103, r115_104, r115_105, r115_108, r115_111, r115_112, r115_113, r115_114, r115_115, r115_118, r115_119, r115_122, r115_125, r115_126, r115_129, ↓if_pos, ↓if_neg, hX.n, e1, e2, x_hasBoard hX.A, x_loadOn hX.A hO.W hc, Option.bind_some, pushR_s]
  · rw [if_neg h, if_neg h]; refine XA.bump hX (by omega) ?_
    rw [en115]
    by_cases q0 : 0 ≤ w ∧ w < (gg s).nB
    · by_cases q2 : x < 0 <;> simp (disch := omega) only [r115_0, r115_1, r115_4, r115_5, r115_8, r115_11, r115_12, r115_15, r115_16, r115_17, r115_20, r115_21, r115_23, r115_25, r115_28, r115_29, r115_30, r115_30a, r115_30b, r115_30c, r115_56, r115_57, r115_60, r115_61, r115_64, r115_67, r115_68, r115_71, r115_74, r115_75, r115_78, r115_79, r115_82, r115_85, r115_86, r115_89, r115_92, r115_93, r115_94, r115_95, r115_98, r115_101, r115_102, r115_103, r115_104, r115_105, r115_108, r115_111, r115_112, r115_113, r115_114, r115_115, r115_118, r115_119, r115_122, r115_125, r115_126, r115_129, ↓if_pos, ↓if_neg, x_hasBoard hX.A, x_bad, Option.bind_some, pushR_s]
    · simp (disch := omega) only [r115_0, r115_1, r115_4, r115_5, r115_8, r115_11, r115_12, r115_15, r115_16, r115_17, r115_20, r115_21, r115_23, r115_25, r115_28, r115_29, r115_30, r115_30a, r115_30b, r115_30c, r115_56, r115_57, r115_60, r115_61, r115_64, r115_67, r115_68, r115_71, r115_74, r115_75, r115_78, r115_79, r115_82, r115_85, r115_86, r115_89, r115_92, r115_93, r115_94, r115_95, r115_98, r115_101, r115_102, r115_103, r115_104, r115_105, r115_108, r115_111, r115_112, r115_113, r115_114, r115_115, r115_118, r115_119, r115_122, r115_125, r115_126, r115_129, ↓if_pos, ↓if_neg, x_hasBoard hX.A, x_bad, Option.bind_some, pushR_s]
theorem M_board (hM : MR I s) (hO : OK s) : MA (d + 5) 233 [vI w, vI x] I (aBoard s w x) (sBoard s w x) := by
  unfold aBoard sBoard
  have hn := hO.W.nB2
  by_cases h : kBoard s w x
  · rw [if_pos h, if_pos h]
    have f := (memN_fr I).to8
    have hR := hM.R.cong (J := memN I) (f.oth (by omega)); have hS := memN_MS hO.W hM.S
    refine MA.fr8 hO hM f ?_
    rw [en233]
    obtain ⟨⟨h0, h1⟩, h2⟩ := h
    have e := hS.2 w h0 h1; have el := lie_lt (bAt (cd s) w)
    have hx : x = 0 ∨ x = 1 ∨ x = 2 ∨ x = 3 := by omega
    rcases hx with rfl | rfl | rfl | rfl
    · by_cases hl : bAt (cd s) w < 8
      · rw [lie_n hl] at e
        simp (disch := omega) only [r233_0, r233_1, r233_2, r233_5, r233_8, r233_9, r233_10, r233_11, r233_14, r233_17, r233_20, r233_21, r233_23, r233_26, r233_27, r233_28, r233_31, r233_32, r233_35, r233_36, r233_37, r233_40, r233_43, r233_44, r233_47, r233_48, r233_49, r233_52, r233_53, r233_56, r233_57, r233_58, r233_61, r233_62, r233_63, r233_66, r233_69, r233_70, r233_71, r233_74, r233_75, r233_76, r233_79, r233_82, r233_83, r233_84, r233_87, ↓if_pos, ↓if_neg, m_isBoard hM.R hO.W, m_in, m_takeNow, m_isLaid hS hO.W, e, Option.bind_some, pushR_s, pushR_n]
      · simp (disch := omega) only [r233_0, r233_1, r233_2, r233_5, r233_8, r233_9, r233_10, r233_11, r233_14, r233_17, r233_20, r233_21, r233_23, r233_26, r233_27, r233_28, r233_31, r233_32, r233_35, r233_36, r233_37, r233_40, r233_43, r233_44, r233_47, r233_48, r233_49, r233_52, r233_53, r233_56, r233_57, r233_58, r233_61, r233_62, r233_63, r233_66, r233_69, r233_70, r233_71, r233_74, r233_75, r233_76, r233_79, r233_82, r233_83, r233_84, r233_87, ↓if_pos, ↓if_neg, m_isBoard hM.R hO.W, m_in, m_takeNow, m_isLaid hS hO.W, Option.bind_some, pushR_s, pushR_n]
    all_goals simp (disch := omega) only [r233_0, r233_1, r233_2, r233_5, r233_8, r233_9, r233_10, r233_11, r233_14, r233_17, r233_20, r233_21, r233_23, r233_26, r233_27, r233_28, r233_31, r233_32, r233_35, r233_36, r233_37, r233_40, r233_43, r233_44, r233_47, r233_48, r233_49, r233_52, r233_53, r233_56, r233_57, r233_58, r233_61, r233_62, r233_63, r233_66, r233_69, r233_70, r233_71, r233_74, r233_75, r233_76, r233_79, r233_82, r233_83, r233_84, r233_87, ↓if_pos, ↓if_neg, m_isBoard hM.R hO.W, m_in, m_takeNow, m_longOfBoard hR hO.W, m_bears hR hO.W, m_loadOn hR hS hO.W hO.V, Option.bind_some, pushR_s, pushR_n]
  · rw [if_neg h, if_neg h]; refine MA.bump hO hM (by omega) ?_
    rw [en233]
    by_cases q0 : 0 ≤ w ∧ w < (gg s).nB <;> simp (disch := omega) only [r233_0, r233_1, r233_2, r233_5, r233_8, r233_9, r233_10, r233_11, r233_14, r233_17, r233_20, r233_21, r233_23, r233_26, r233_27, r233_28, r233_31, r233_32, r233_35, r233_36, r233_37, r233_40, r233_43, r233_44, r233_47, r233_48, r233_49, r233_52, r233_53, r233_56, r233_57, r233_58, r233_61, r233_62, r233_63, r233_66, r233_69, r233_70, r233_71, r233_74, r233_75, r233_76, r233_79, r233_82, r233_83, r233_84, r233_87, ↓if_pos, ↓if_neg, m_isBoard hM.R hO.W, m_in, m_bad, Option.bind_some, pushR_s]
end
