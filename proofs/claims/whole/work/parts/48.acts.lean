/-! clear, erase, write, in both; act and undo of the class. -/
theorem mcpy_at (I : MM) (a : Nat) (sp : Int) (b : Nat) (dp n : Int) (c : Nat) (j : Int) : mcpy I a sp b dp n c j = if c = b ∧ dp ≤ j ∧ j < dp + n then I a (sp + (j - dp)) else I c j := rfl
def setc (s : ST) (c : Int) : ST := up s 3 0 (fun _ => c)
def atm (f : Int → Int) (i v : Int) : Int → Int := fun j => if j = i then v else f j
def pushP (p : Int → Int) (c : Int) : Int → Int := if 8 ≤ p (-1) then (fun i => if i = -1 then 8 else if i = 7 then c else p (i + 1)) else (fun i => if i = -1 then p (-1) + 1 else if i = p (-1) then c else p i)
def SC0 (J : MM) : Prop := J 27 10 = -9 ∧ (J 32 0 = -9 ∧ J 32 1 = -9) ∧ (J 33 0 = -9 ∧ J 33 1 = -9 ∧ J 33 2 = -9)
def memF (I : MM) : MM := mset (mset (mset (mset (mset (mset I 27 10 (-9)) 32 0 (-9)) 32 1 (-9)) 33 0 (-9)) 33 1 (-9)) 33 2 (-9)
theorem memF_SC0 (I : MM) : SC0 (memF I) := by
  unfold SC0; simp [memF, mset_at]
theorem memF_o {I : MM} {a : Nat} (h1 : a ≠ 27) (h2 : a ≠ 32) (h3 : a ≠ 33) (i : Int) : memF I a i = I a i := by simp [memF, mset_at, h1, h2, h3]
theorem memF_5 (I : MM) {i : Int} (h : i ≠ 10) : memF I 27 i = I 27 i := by simp [memF, mset_at, h]
def memRem (I : MM) (c : Int) : MM := if 8 ≤ I 25 1 then mset (mset (mset (mcpy I 26 1 26 0 7) 25 1 7) 26 7 c) 25 1 8 else mset (mset I 26 (I 25 1) c) 25 1 (I 25 1 + 1)
theorem memRem_o {I : MM} {c : Int} {a : Nat} (h1 : a ≠ 25) (h2 : a ≠ 26) (i : Int) : memRem I c a i = I a i := by
  unfold memRem; split <;> simp [mset_at, mcpy_at, h1, h2]
section
variable {d : Nat} {I J : MM} {s : ST} {g : G} {a c w x y b p v i : Int}
theorem x_forget : call (d + 1) 83 [vR 27] I = some (none, memF I) := by
  rw [en83]
  simp (disch := omega) only [r83_0, r83_1, r83_3, r83_6, r83_7, r83_8, r83_9, r83_10, r83_13, r83_14, r83_17, r83_18, r83_21, r83_22, r83_24, r83_25, r83_28, r83_31, r83_32, r83_33, r83_34, r83_35, r83_38, r83_39, r83_42, r83_43, r83_46, r83_47, r83_49, r83_50, r83_53, r83_56, ↓if_pos, ↓if_neg, iadd_eq, Int.reduceAdd]
  rfl
theorem x_moveTo : call (d + 2) 140 [vR 1, vI c] I = some (none, memF (mset I 2 4 c)) := by
  rw [en140]
  simp (disch := omega) only [r140_0, r140_1, r140_4, r140_5, r140_8, r140_9, r140_12, r140_15, x_forget, Option.bind_some, pushR_n]
theorem x_remember (h : 0 ≤ I 25 1 ∧ I 25 1 ≤ 8) : call (d + 1) 56 [vR 25, vI c] I = some (none, memRem I c) := by
  rw [en56]
  by_cases h8 : 8 ≤ I 25 1
  · rw [memRem, if_pos h8]
    simp (disch := omega) only [r56_0, r56_1, r56_4, r56_6, r56_9, r56_10, r56_13, r56_14, r56_15, r56_18, r56_19, r56_21, r56_24, r56_25, r56_27, r56_30, r56_31, r56_34, r56_35, r56_38, r56_39, r56_40, r56_41, r56_42, r56_45, r56_46, r56_47, r56_50, ↓if_pos, ↓if_neg, iadd_eq, isub_eq, mset_at, Int.reduceAdd, Int.reduceSub]
  · rw [memRem, if_neg h8]
    simp (disch := omega) only [r56_0, r56_1, r56_4, r56_6, r56_9, r56_10, r56_13, r56_14, r56_15, r56_18, r56_19, r56_21, r56_24, r56_25, r56_27, r56_30, r56_31, r56_34, r56_35, r56_38, r56_39, r56_40, r56_41, r56_42, r56_45, r56_46, r56_47, r56_50, ↓if_pos, ↓if_neg, iadd_eq, mset_at]
theorem memRem_PX {q : Int → Int} (h : PX 25 I q) (hq : 0 ≤ q (-1) ∧ q (-1) ≤ 8) : PX 25 (memRem I c) (pushP q c) := by
  obtain ⟨h1, h2⟩ := h
  unfold memRem pushP
  rw [h1]
  split
  · rename_i h8
    refine ⟨by simp [mset_at], fun i i0 i1 => ?_⟩
    simp only [if_true] at i1
    by_cases h7 : i = 7
    · subst h7; simp [mset_at]
    · have := h2 (i + 1) (by omega) (by omega)
      simp (disch := omega) only [mset_at, mcpy_at, ↓if_pos, ↓if_neg]
      rw [← this]
      show I 26 _ = I 26 _
      congr 1; omega
  · rename_i h8
    refine ⟨by simp [mset_at], fun i i0 i1 => ?_⟩
    simp only [if_true] at i1
    by_cases h7 : i = q (-1)
    · subst h7; simp [mset_at]; omega
    · have := h2 i i0 (by omega)
      simp only [mset_at]
      rw [if_neg (by omega), if_neg (by omega), if_neg (by omega), if_neg (by omega)]
      exact this
theorem XR.text {t : Int → Int} (h : XR I s) (o : OUT [18, 19] I J) (ht : TX J t) : XR J (up s 3 1 t) := by
  have e : ∀ a, a ≠ 18 → a ≠ 19 → ∀ i, J a i = I a i := fun a h1 h2 i => o a (by simp [h1, h2]) i
  exact ⟨h.B.cong (fun a a1 a2 i => e a (by omega) (by omega) i), ht, h.R.cong (e _ (by decide) (by decide) _) (e _ (by decide) (by decide)), h.P.cong (e _ (by decide) (by decide) _) (e _ (by decide) (by decide)), h.C.cong (fun i _ => e _ (by decide) (by decide) i), h.F.cong (e _ (by decide) (by decide)) (e _ (by decide) (by decide)) (e _ (by decide) (by decide) _) (e _ (by decide) (by decide) _), h.I0.cong (fun a a1 a2 i => e a (by omega) (by omega) i), h.I1.cong (fun a a1 a2 i => e a (by omega) (by omega) i), h.K.cong (e _ (by decide) (by decide)) (e _ (by decide) (by decide))⟩
theorem XR.rule {t : Int → Int} (h : XR I s) (o : OUT [21, 22] I J) (ht : RX 21 J t) : XR J (up s 3 2 t) := by
  have e : ∀ a, a ≠ 21 → a ≠ 22 → ∀ i, J a i = I a i := fun a h1 h2 i => o a (by simp [h1, h2]) i
  exact ⟨h.B.cong (fun a a1 a2 i => e a (by omega) (by omega) i), h.T.cong (e _ (by decide) (by decide) _) (e _ (by decide) (by decide)), ht, h.P.cong (e _ (by decide) (by decide) _) (e _ (by decide) (by decide)), h.C.cong (fun i _ => e _ (by decide) (by decide) i), h.F.cong (e _ (by decide) (by decide)) (e _ (by decide) (by decide)) (e _ (by decide) (by decide) _) (e _ (by decide) (by decide) _), h.I0.cong (fun a a1 a2 i => e a (by omega) (by omega) i), h.I1.cong (fun a a1 a2 i => e a (by omega) (by omega) i), h.K.cong (e _ (by decide) (by decide)) (e _ (by decide) (by decide))⟩
/-- the code and the past move, the search forgets -/
theorem XR.move {q : Int → Int} (h : XR I s) (o : OUT [2, 25, 26, 27, 32, 33] I J) (o2 : ∀ i, i ≠ 4 → J 2 i = I 2 i) (hc : J 2 4 = c) (hp : PX 25 J q) : XR J (up (setc s c) 3 3 q) := by
  have e : ∀ a, a ≠ 2 → a ≠ 25 → a ≠ 26 → a ≠ 27 → a ≠ 32 → a ≠ 33 → ∀ i, J a i = I a i := fun a h1 h2 h3 h4 h5 h6 i => o a (by simp [h1, h2, h3, h4, h5, h6]) i
  refine ⟨⟨fun j i hj hn => ?_, hc⟩, h.T.cong (e _ (by decide) (by decide) (by decide) (by decide) (by decide) (by decide) _) (e _ (by decide) (by decide) (by decide) (by decide) (by decide) (by decide)), h.R.cong (e _ (by decide) (by decide) (by decide) (by decide) (by decide) (by decide) _) (e _ (by decide) (by decide) (by decide) (by decide) (by decide) (by decide)), hp, h.C.cong (fun i _ => e _ (by decide) (by decide) (by decide) (by decide) (by decide) (by decide) i), h.F.cong (e _ (by decide) (by decide) (by decide) (by decide) (by decide) (by decide)) (e _ (by decide) (by decide) (by decide) (by decide) (by decide) (by decide)) (e _ (by decide) (by decide) (by decide) (by decide) (by decide) (by decide) _) (e _ (by decide) (by decide) (by decide) (by decide) (by decide) (by decide) _), h.I0.cong (fun a a1 a2 i => e a (by omega) (by omega) (by omega) (by omega) (by omega) (by omega) i), h.I1.cong (fun a a1 a2 i => e a (by omega) (by omega) (by omega) (by omega) (by omega) (by omega) i), h.K.cong (e _ (by decide) (by decide) (by decide) (by decide) (by decide) (by decide)) (e _ (by decide) (by decide) (by decide) (by decide) (by decide) (by decide))⟩
  have hA := h.A j i hj hn
  by_cases h0 : j = 0
  · subst h0; exact (o2 i (fun q => by have h5 : 0 ≤ i ∧ i < 4 := hn; omega)).trans hA
  · exact (e (2 + j) (by omega) (by omega) (by omega) (by omega) (by omega) (by omega) i).trans hA
theorem OK.text {t : Int → Int} (h : OK s) (ht : 0 ≤ t (-1) ∧ t (-1) ≤ 200) : OK (up s 3 1 t) := ⟨h.1, ht, h.2.2⟩
theorem OK.rule {t : Int → Int} (h : OK s) (ht : 0 ≤ t (-1) ∧ t (-1) ≤ 40) (hc : ∀ i, 0 ≤ i → i < t (-1) → 0 ≤ t i ∧ t i < 128) : OK (up s 3 2 t) := ⟨⟨h.1.1, h.1.2.1, ht, hc, h.1.2.2.2.2⟩, h.2⟩
theorem OK.move {q : Int → Int} (h : OK s) (hV : VN (gg s) c) (hq : 0 ≤ q (-1) ∧ q (-1) ≤ 8) (hp : ∀ i, 0 ≤ i → i < q (-1) → VN (gg s) (q i)) : OK (up (setc s c) 3 3 q) := ⟨⟨h.1.1, hV, h.1.2.2.1, h.1.2.2.2.1, hq, hp⟩, h.2⟩
theorem OK.psz (h : OK s) : 0 ≤ s 3 3 (-1) ∧ s 3 3 (-1) ≤ 8 := h.1.2.2.2.2.1
theorem OK.rsz (h : OK s) : 0 ≤ s 3 2 (-1) ∧ s 3 2 (-1) ≤ 40 := h.1.2.2.1
theorem OK.tsz (h : OK s) : 0 ≤ s 3 1 (-1) ∧ s 3 1 (-1) ≤ 200 := h.2.1
/-! clear -/
def sClear (s : ST) : ST := up s 3 1 (atm (s 3 1) (-1) 0)
theorem X_clear (hX : XR I s) : XA (d + 1) 110 [] [18, 19] I (s 3 1 (-1)) (sClear s) := by
  have e := hX.T.1
  refine ⟨mset I 18 1 0, ?_, ?_, OUT.mset _ _ (by decide)⟩
  · rw [en110]; simp (disch := omega) only [r110_0, r110_1, r110_4, r110_7, r110_8, r110_9, r110_12, r110_13, r110_16, r110_17, ↓if_pos, ↓if_neg, e]
  · exact hX.text (OUT.mset _ _ (by decide)) ⟨by simp [mset_at, atm], fun i i0 i1 => by simp [atm] at i1; omega⟩
/-! erase -/
def sErase (s : ST) : ST := up s 3 2 (atm (s 3 2) (-1) 0)
theorem X_erase (hX : XR I s) : XQ (d + 2) 126 [] [21, 22] I (s 3 2 (-1)) (sErase s) (fun J => J 21 6 = 0) := by
  have e := hX.R.1
  have o : OUT [21, 22] I (mset (mset I 21 1 0) 21 6 0) := (OUT.mset (l := [21, 22]) _ _ (by decide)).trans (OUT.mset _ _ (by decide))
  have hE : call (d + 1) 60 [vR 21] I = some (none, mset (mset I 21 1 0) 21 6 0) := by
    rw [en60]; simp (disch := omega) only [r60_0, r60_1, r60_2, r60_5, r60_6, r60_7, r60_10, ↓if_pos, ↓if_neg]
  refine ⟨mset (mset I 21 1 0) 21 6 0, ?_, ?_, o, by simp [mset_at]⟩
  · rw [en126]; simp (disch := omega) only [r126_0, r126_1, r126_4, r126_7, r126_8, r126_9, r126_12, r126_15, r126_16, ↓if_pos, ↓if_neg, e, hE, Option.bind_some, pushR_n]
  · exact hX.rule o ⟨by simp [mset_at, atm], fun i i0 i1 => by simp [atm] at i1; omega⟩
/-! write -/
def aWrite (s : ST) (c : Int) : Int := if 0 ≤ c ∧ c ≤ 127 then (if 40 ≤ s 3 2 (-1) then -4 else s 3 2 (-1) + 1) else -2
def sWrite (s : ST) (c : Int) : ST := if 0 ≤ c ∧ c ≤ 127 then (if 40 ≤ s 3 2 (-1) then bump s 2 else up s 3 2 (atm (atm (s 3 2) (s 3 2 (-1)) c) (-1) (s 3 2 (-1) + 1))) else bump s 0
theorem X_write (hX : XR I s) (hO : OK s) : XQ (d + 2) 125 [vI c] [1, 21, 22] I (aWrite s c) (sWrite s c) (fun J => J 21 6 = 0 ∨ (∀ a, a ≠ 1 → ∀ i, J a i = I a i)) := by
  have hz := hO.rsz; obtain ⟨e, e2⟩ := hX.R
  unfold aWrite sWrite
  by_cases h : 0 ≤ c ∧ c ≤ 127
  · rw [if_pos h, if_pos h]
    by_cases h4 : 40 ≤ s 3 2 (-1)
    · rw [if_pos h4, if_pos h4]
      refine ⟨xbump I 2, ?_, hX.bump (by omega), fun a ha i => xbump_o (fun q => ha (by simp [q])) i, Or.inr (fun a ha i => xbump_o ha i)⟩
      rw [en125]; simp (disch := omega) only [r125_0, r125_1, r125_4, r125_5, r125_7, r125_10, r125_11, r125_13, r125_15, r125_18, r125_19, r125_20, r125_23, r125_26, r125_28, r125_31, r125_32, r125_34, r125_36, r125_39, r125_40, r125_41, r125_44, r125_45, r125_48, r125_49, r125_52, r125_55, ↓if_pos, ↓if_neg, x_full, Option.bind_some, pushR_s]
    · rw [if_neg h4, if_neg h4]
      have o : OUT [21, 22] I (mset (mset (mset I 22 (s 3 2 (-1)) c) 21 1 (s 3 2 (-1) + 1)) 21 6 0) := ((OUT.mset (l := [21, 22]) _ _ (by decide)).trans (OUT.mset _ _ (by decide))).trans (OUT.mset _ _ (by decide))
      have hE : call (d + 1) 59 [vR 21, vI c] I = some (none, mset (mset (mset I 22 (s 3 2 (-1)) c) 21 1 (s 3 2 (-1) + 1)) 21 6 0) := by
        rw [en59]; simp (disch := omega) only [r59_0, r59_1, r59_4, r59_6, r59_9, r59_10, r59_13, r59_14, r59_17, r59_18, r59_19, r59_20, r59_21, r59_24, r59_25, r59_26, r59_29, r59_30, r59_31, r59_34, ↓if_pos, ↓if_neg, e, iadd_eq, mset_at]
      refine ⟨_, ?_, ?_, o.mono (by simp), Or.inl (by simp [mset_at])⟩
      · rw [en125]; simp (disch := omega) only [r125_0, r125_1, r125_4, r125_5, r125_7, r125_10, r125_11, r125_13, r125_15, r125_18, r125_19, r125_20, r125_23, r125_26, r125_28, r125_31, r125_32, r125_34, r125_36, r125_39, r125_40, r125_41, r125_44, r125_45, r125_48, r125_49, r125_52, r125_55, ↓if_pos, ↓if_neg, hE, Option.bind_some, pushR_n, mset_at]
      · refine hX.rule o ⟨by simp [mset_at, atm], fun i i0 i1 => ?_⟩
        simp only [atm, if_true] at i1
        by_cases hi : i = s 3 2 (-1)
        · subst hi; simp [mset_at, atm]; intro; omega
        · have := e2 i i0 (by omega)
          simp only [mset_at, atm]
          rw [if_neg (by omega), if_neg (by omega), if_neg (by omega), if_neg (by omega), if_neg hi]; exact this
  · rw [if_neg h, if_neg h]
    refine ⟨xbump I 0, ?_, hX.bump (by omega), fun a ha i => xbump_o (fun q => ha (by simp [q])) i, Or.inr (fun a ha i => xbump_o ha i)⟩
    rw [en125]
    by_cases q : c < 0 <;> simp (disch := omega) only [r125_0, r125_1, r125_4, r125_5, r125_7, r125_10, r125_11, r125_13, r125_15, r125_18, r125_19, r125_20, r125_23, r125_26, r125_28, r125_31, r125_32, r125_34, r125_36, r125_39, r125_40, r125_41, r125_44, r125_45, r125_48, r125_49, r125_52, r125_55, ↓if_pos, ↓if_neg, x_bad, Option.bind_some, pushR_s]
/-! act -/
def aAct (s : ST) (a : Int) : Int := if why (gg s) (cd s) a < 0 then -3 else 1
def sAct (s : ST) (a : Int) : ST := if why (gg s) (cd s) a < 0 then bump s 1 else up (setc s (why (gg s) (cd s) a)) 3 3 (pushP (s 3 3) (cd s))
theorem X_act (hX : XR I s) (hO : OK s) : XQ (d + 6) 117 [vI a] [1, 2, 25, 26, 27, 32, 33] I (aAct s a) (sAct s a) (fun J => (SC0 J ∧ ∀ i, i ≠ 10 → J 27 i = I 27 i) ∨ (∀ a, a ≠ 1 → ∀ i, J a i = I a i)) := by
  have hz := hO.psz; have e := hX.P.1
  unfold aAct sAct
  by_cases h : why (gg s) (cd s) a < 0
  · rw [if_pos h, if_pos h]
    refine ⟨xbump I 1, ?_, hX.bump (by omega), fun a ha i => xbump_o (fun q => ha (by simp [q])) i, Or.inr (fun a ha i => xbump_o ha i)⟩
    rw [en117]; simp (disch := omega) only [r117_0, r117_1, r117_2, r117_5, r117_6, r117_7, r117_10, r117_11, r117_13, r117_15, r117_18, r117_19, r117_20, r117_23, r117_24, r117_27, r117_30, r117_33, r117_34, r117_35, r117_38, r117_39, ↓if_pos, ↓if_neg, x_outcomeNow hX.A hO.W hX.n hO.V, x_no, Option.bind_some, pushR_s]
  · rw [if_neg h, if_neg h]
    refine ⟨memF (mset (memRem I (cd s)) 2 4 (why (gg s) (cd s) a)), ?_, ?_, ?_, Or.inl ⟨memF_SC0 _, fun i hi => ?_⟩⟩
    · rw [en117]; simp (disch := omega) only [r117_0, r117_1, r117_2, r117_5, r117_6, r117_7, r117_10, r117_11, r117_13, r117_15, r117_18, r117_19, r117_20, r117_23, r117_24, r117_27, r117_30, r117_33, r117_34, r117_35, r117_38, r117_39, ↓if_pos, ↓if_neg, x_outcomeNow hX.A hO.W hX.n hO.V, hX.n, x_remember, x_moveTo, Option.bind_some, pushR_s, pushR_n]
    · refine hX.move ?_ (fun i hi => ?_) ?_ ?_
      · intro b hb i
        simp only [List.mem_cons, List.not_mem_nil, or_false, not_or] at hb
        rw [memF_o hb.2.2.2.1 hb.2.2.2.2.1 hb.2.2.2.2.2, mset_at, if_neg (fun q => hb.1 q.1), memRem_o hb.2.1 hb.2.2.1]
      · rw [memF_o (by decide) (by decide) (by decide), mset_at, if_neg (fun q => hi q.2), memRem_o (by decide) (by decide)]
      · rw [memF_o (by decide) (by decide) (by decide), mset_at, if_pos ⟨rfl, rfl⟩]
      · refine (memRem_PX (c := cd s) hX.P hz).cong ?_ (fun i => ?_)
        · rw [memF_o (by decide) (by decide) (by decide), mset_at, if_neg (by decide)]
        · rw [memF_o (by decide) (by decide) (by decide), mset_at, if_neg (fun q => absurd q.1 (by decide))]
    · intro b hb i
      simp only [List.mem_cons, List.not_mem_nil, or_false, not_or] at hb
      rw [memF_o hb.2.2.2.2.1 hb.2.2.2.2.2.1 hb.2.2.2.2.2.2, mset_at, if_neg (fun q => hb.2.1 q.1), memRem_o hb.2.2.1 hb.2.2.2.1]
    · rw [memF_5 _ hi, mset_at, if_neg (fun q => absurd q.1 (by decide)), memRem_o (by decide) (by decide)]
/-! undo -/
def aUndo (s : ST) : Int := if s 3 3 (-1) = 0 then -3 else 1
def sUndo (s : ST) : ST := if s 3 3 (-1) = 0 then bump s 1 else up (setc s (s 3 3 (s 3 3 (-1) - 1))) 3 3 (atm (s 3 3) (-1) (s 3 3 (-1) - 1))
theorem X_undo (hX : XR I s) (hO : OK s) : XQ (d + 3) 118 [] [1, 2, 25, 26, 27, 32, 33] I (aUndo s) (sUndo s) (fun J => (SC0 J ∧ ∀ i, i ≠ 10 → J 27 i = I 27 i) ∨ (∀ a, a ≠ 1 → ∀ i, J a i = I a i)) := by
  have hz := hO.psz; obtain ⟨e, e2⟩ := hX.P
  unfold aUndo sUndo
  by_cases h : s 3 3 (-1) = 0
  · rw [if_pos h, if_pos h]
    refine ⟨xbump I 1, ?_, hX.bump (by omega), fun a ha i => xbump_o (fun q => ha (by simp [q])) i, Or.inr (fun a ha i => xbump_o ha i)⟩
    rw [en118]; simp (disch := omega) only [r118_0, r118_1, r118_4, r118_7, r118_10, r118_11, r118_13, r118_15, r118_18, r118_19, r118_20, r118_21, r118_24, r118_27, r118_30, r118_31, ↓if_pos, ↓if_neg, x_no, Option.bind_some, pushR_s]
  · rw [if_neg h, if_neg h]
    have hv := e2 (s 3 3 (-1) - 1) (by omega) (by omega)
    simp only [Nat.reduceAdd] at hv
    have hT : call (d + 2) 57 [vR 25] I = some (some (vI (s 3 3 (s 3 3 (-1) - 1))), mset I 25 1 (s 3 3 (-1) - 1)) := by
      rw [en57]
      simp (disch := omega) only [r57_0, r57_1, r57_4, r57_5, r57_8, r57_9, r57_12, r57_14, r57_17, r57_18, r57_19, r57_20, r57_21, r57_24, r57_25, r57_26, r57_29, r57_30, r57_33, r57_34, r57_37, r57_38, ↓if_pos, ↓if_neg, e, isub_eq, mset_at, hv]
    refine ⟨memF (mset (mset I 25 1 (s 3 3 (-1) - 1)) 2 4 (s 3 3 (s 3 3 (-1) - 1))), ?_, ?_, ?_, Or.inl ⟨memF_SC0 _, fun i hi => ?_⟩⟩
    · rw [en118]; simp (disch := omega) only [r118_0, r118_1, r118_4, r118_7, r118_10, r118_11, r118_13, r118_15, r118_18, r118_19, r118_20, r118_21, r118_24, r118_27, r118_30, r118_31, ↓if_pos, ↓if_neg, hT, x_moveTo, Option.bind_some, pushR_s, pushR_n]
    · refine hX.move ?_ (fun i hi => ?_) ?_ ⟨?_, fun i i0 i1 => ?_⟩
      · intro b hb i
        simp only [List.mem_cons, List.not_mem_nil, or_false, not_or] at hb
        rw [memF_o hb.2.2.2.1 hb.2.2.2.2.1 hb.2.2.2.2.2, mset_at, if_neg (fun q => hb.1 q.1), mset_at, if_neg (fun q => hb.2.1 q.1)]
      · rw [memF_o (by decide) (by decide) (by decide), mset_at, if_neg (fun q => hi q.2), mset_at, if_neg (fun q => absurd q.1 (by decide))]
      · rw [memF_o (by decide) (by decide) (by decide), mset_at, if_pos ⟨rfl, rfl⟩]
      · rw [memF_o (by decide) (by decide) (by decide), mset_at, if_neg (by decide), mset_at, if_pos ⟨rfl, rfl⟩]; simp [atm]
      · simp only [atm, if_true] at i1
        rw [memF_o (by decide) (by decide) (by decide), mset_at, if_neg (fun q => absurd q.1 (by decide)), mset_at, if_neg (fun q => absurd q.1 (by decide)), atm, if_neg (by omega)]
        exact e2 i i0 (by omega)
    · intro b hb i
      simp only [List.mem_cons, List.not_mem_nil, or_false, not_or] at hb
      rw [memF_o hb.2.2.2.2.1 hb.2.2.2.2.2.1 hb.2.2.2.2.2.2, mset_at, if_neg (fun q => hb.2.1 q.1), mset_at, if_neg (fun q => hb.2.2.1 q.1)]
    · rw [memF_5 _ hi, mset_at, if_neg (fun q => absurd q.1 (by decide)), mset_at, if_neg (fun q => absurd q.1 (by decide))]
end
