/-! The rule: the levels, in both. -/
section
variable {r L : Int → Int} {c i x a b n o v l m s y1 y2 lo : Int} {V S V1 S1 V' S' X st us : List Int} {p q q' : PS} {k : Nat} {F U : PS → PS} {q0 q1 : MQS}
theorem OKc.pre (R : RUN r L q0 q1) (h : OKc r L l o q1 V S X k p) : OKc r L l o q0 V S X k p := by
  obtain ⟨a', V', S', v, R2, d⟩ := h
  exact ⟨a', V', S', v, R.trans R2, d⟩
theorem BRc.pre (R : RUN r L q0 q1) (h : BRc r L q1 b) : BRc r L q0 b := by
  obtain ⟨a', V', S', o', w', R2⟩ := h
  exact ⟨a', V', S', o', w', R.trans R2⟩
theorem s_stop (e2 : q'.2 = q.2) (es : sk r q'.1 = sk r q.1) (eg : q.1 ≤ q'.1) (ha : 0 ≤ a ∧ a ≤ r (-1)) (hs : sk r a = sk r q.1) (hw : wD l S' V' = some (v :: V, S)) (he : evU L q.2.2 = v :: X) (hl : (V'.length : Int) ≤ q.1 ∧ (S'.length : Int) ≤ q.1 ∧ (q.2.2.length : Int) + k ≤ q.1) (nx : NX r l a V' S') : OKc r L l o (a, -1, V', S', o, 0, 1) V S X k q' :=
  ⟨a, V', S', v, RUN.refl, ha, hs.trans es.symm, hw, by rw [e2]; exact he, by rw [e2]; omega, nx⟩
theorem isM_rk : isM c = true ↔ rk c = 5 := ⟨fun z => rk_5.mpr (of_decide_eq_true z), fun z => decide_eq_true (rk_5.mp z)⟩
theorem isA_rk : isA c = true ↔ rk c = 4 := ⟨fun z => rk_4.mpr (of_decide_eq_true z), fun z => decide_eq_true (rk_4.mp z)⟩
theorem isH_rk : isH c = true ↔ rk c = 3 := ⟨fun z => rk_3.mpr (of_decide_eq_true z), fun z => decide_eq_true (rk_3.mp z)⟩
theorem s_lpTerm (h : RB r) (ho : 0 ≤ o ∧ o ≤ 8) (hU : SIM r L 6 o U) (ht : topOK 5 S) : ∀ (f : Nat) (q : PS) (a : Int) (V' S' : List Int) (v : Int), PB r q → q.2.1 = -1 → r (-1) ≤ q.1 + f → (0 ≤ a ∧ a ≤ r (-1)) → sk r a = sk r q.1 → wD 5 S' V' = some (v :: V, S) → evU L q.2.2 = v :: X → ((V'.length : Int) ≤ q.1 ∧ (S'.length : Int) ≤ q.1 ∧ (q.2.2.length : Int) + k ≤ q.1) → NX r 6 a V' S' → PB r (lpS r isM U f q) ∧ ((lpS r isM U f q).2.1 = -1 → q.1 ≤ (lpS r isM U f q).1 ∧ OKc r L 5 o (a, -1, V', S', o, 0, 1) V S X k (lpS r isM U f q)) ∧ ((lpS r isM U f q).2.1 ≠ -1 → BRc r L (a, -1, V', S', o, 0, 1) (lpS r isM U f q).2.1) := by
  have h40 := h.1
  intro f
  induction f with
  | zero =>
    intro q a V' S' v hp hb hf ha hs hw he hl nx
    have hp1 := hp.1
    have e0 : sk r q.1 = q.1 := rE_n (by omega)
    have hn : nA r q = q := by
      have e1 : (nA r q).1 = q.1 := (nA_sk hb).trans e0
      exact Prod.ext e1 nA_2
    have hz : lpS r isM U 0 q = q := by first | exact hn | rfl
    rw [hz]
    refine ⟨hp, fun _ => ⟨Int.le_refl _, s_stop rfl rfl (Int.le_refl _) ha hs hw he hl (Or.inl ?_)⟩, fun z => absurd hb z⟩
    rw [hs, e0]
    unfold chr
    rw [if_neg (by omega)]
    decide
  | succ f ih =>
    intro q a V' S' v hp hb hf ha hs hw he hl nx
    have hp1 := hp.1
    have hsb := sk_b (t := r) hp.1
    have e1 : (nA r q).1 = sk r q.1 := nA_sk hb
    have e2 : (nA r q).2 = q.2 := nA_2
    have ec : nC r q = chr r (sk r a) := by rw [nC_sk hb, hs]
    rw [lpS]
    by_cases hc : rk (nC r q) = 5
    · rw [if_pos (isM_rk.mpr hc)]
      try rw [show -(38 : Int) = -(nC r q) by rw [rk_2.mp hc]]
      try rw [show -(124 : Int) = -(nC r q) by rw [rk_1.mp hc]]
      have hne := rk_c (c := nC r q) (by omega)
      have hin := (nC_in (r := r) (p := q) (by omega)).2.1
      have hcb := nC_b (p := q) h
      have hlen := wD_len _ _ _ _ hw
      have hl1 := hl.1
      have hl2 := hl.2.1
      have R1 := u_op (r := r) (L := L) (V := V') (S := S') (V1 := v :: V) (S1 := S) (o := o) h ha (by omega) (by omega) (by rw [← ec, hc]; decide) (by rw [← ec, hc]; exact hw) (by rw [← ec, hc]; exact fun z => absurd z.1 (by decide))
      rw [← ec, hs] at R1
      have e3 : (adv (nA r q)).1 = sk r q.1 + 1 := by show (nA r q).1 + 1 = _; rw [e1]
      have e4 : (adv (nA r q)).2 = q.2 := e2
      obtain ⟨b3, g1, g2⟩ := hU (adv (nA r q)) (sk r q.1 + 1) (v :: V) (nC r q :: S) (k + 1) (adv_b h hp (by omega)) (by rw [e4]; exact hb) ⟨by omega, by omega⟩ (by rw [e3]) (by rw [e3, e4]; simp only [List.length_cons] at *; omega) (topOK_c hcb (by omega))
      rw [e3, e4] at g1
      generalize U (adv (nA r q)) = w at *
      by_cases hwb : w.2.1 = -1
      · obtain ⟨hlt, a3, V3, S3, v2, R2, a32, s3, w3, ev3, l3, nx3⟩ := g1 hwb
        have b31 := b3.1
        rw [he] at ev3
        have hwj := wD_join (l := 5) (by decide) w3 (s := nC r q) ⟨by omega, by omega⟩ ht
        have h22 : (emt (-(nC r q)) w).2.2 = -(nC r q) :: w.2.2 := emt_22 (by omega)
        obtain ⟨i1, i2, i3⟩ := ih (emt (-(nC r q)) w) a3 V3 S3 (jn (nC r q) v v2) (emt_b b3) (by rw [emt_21]; exact hwb) (by rw [emt_1]; omega) a32 (by rw [emt_1]; exact s3) hwj (by rw [h22]; exact evU_op ev3 (by omega)) (by rw [emt_1, h22]; simp only [List.length_cons]; omega) nx3
        rw [emt_1] at i2
        exact ⟨i1, fun z => ⟨by have := (i2 z).1; omega, (i2 z).2.pre (R1.trans R2)⟩, fun z => (i3 z).pre (R1.trans R2)⟩
      · rw [lpS_br (show isM (-1) = false by decide) (by rw [emt_21]; exact hwb)]
        refine ⟨emt_b b3, fun z => absurd (by rw [emt_21] at z; exact z) hwb, fun _ => ?_⟩
        rw [emt_21]
        exact (g2 hwb).pre R1
    · rw [if_neg (fun z => hc (isM_rk.mp z))]
      refine ⟨nA_b h hp, fun _ => ⟨by omega, s_stop e2 (by rw [e1, sk_sk]) (by omega) ha hs hw he hl ?_⟩, fun z => absurd (by rw [e2]; exact hb) z⟩
      rw [ec] at hc
      rcases nx with nx | nx
      · exact Or.inl (by omega)
      · exact Or.inr nx
theorem s_lvTerm (h : RB r) (ho : 0 ≤ o ∧ o ≤ 8) (hU : SIM r L 6 o U) : SIM r L 5 o (fun p => lpS r isM U 40 (U p)) := by
  intro p a V S k hp hb ha hs hl ht
  obtain ⟨b1, g1, g2⟩ := hU p a V S k hp hb ha hs hl (topOK_le (by decide) ht)
  show PB r (lpS r isM U 40 (U p)) ∧ ((lpS r isM U 40 (U p)).2.1 = -1 → p.1 < (lpS r isM U 40 (U p)).1 ∧ OKc r L 5 o (a, -1, V, S, o, 1, 1) V S (evU L p.2.2) k (lpS r isM U 40 (U p))) ∧ ((lpS r isM U 40 (U p)).2.1 ≠ -1 → BRc r L (a, -1, V, S, o, 1, 1) (lpS r isM U 40 (U p)).2.1)
  by_cases hw : (U p).2.1 = -1
  · obtain ⟨hlt, a', V', S', v, R, a2, s2, w2, ev2, l2, nx⟩ := g1 hw
    have w2' : wD 5 S' V' = some (v :: V, S) := by
      rw [wD_mono (l := 5) (by decide) _ _ _ _ w2]; exact wD_top ht
    have hb1 := b1.1
    have h40 := h.1
    obtain ⟨i1, i2, i3⟩ := s_lpTerm (L := L) (k := k) (V := V) (X := evU L p.2.2) h ho hU ht 40 (U p) a' V' S' v b1 hw (by omega) a2 s2 w2' ev2 l2 nx
    exact ⟨i1, fun z => ⟨by have := (i2 z).1; omega, (i2 z).2.pre R⟩, fun z => (i3 z).pre R⟩
  · rw [lpS_br (show isM (-1) = false by decide) hw]
    exact ⟨b1, fun z => absurd z hw, g2⟩
theorem s_lpSum (h : RB r) (ho : 0 ≤ o ∧ o ≤ 8) (hU : SIM r L 5 o U) (ht : topOK 4 S) : ∀ (f : Nat) (q : PS) (a : Int) (V' S' : List Int) (v : Int), PB r q → q.2.1 = -1 → r (-1) ≤ q.1 + f → (0 ≤ a ∧ a ≤ r (-1)) → sk r a = sk r q.1 → wD 4 S' V' = some (v :: V, S) → evU L q.2.2 = v :: X → ((V'.length : Int) ≤ q.1 ∧ (S'.length : Int) ≤ q.1 ∧ (q.2.2.length : Int) + k ≤ q.1) → NX r 5 a V' S' → PB r (lpS r isA U f q) ∧ ((lpS r isA U f q).2.1 = -1 → q.1 ≤ (lpS r isA U f q).1 ∧ OKc r L 4 o (a, -1, V', S', o, 0, 1) V S X k (lpS r isA U f q)) ∧ ((lpS r isA U f q).2.1 ≠ -1 → BRc r L (a, -1, V', S', o, 0, 1) (lpS r isA U f q).2.1) := by
  have h40 := h.1
  intro f
  induction f with
  | zero =>
    intro q a V' S' v hp hb hf ha hs hw he hl nx
    have hp1 := hp.1
    have e0 : sk r q.1 = q.1 := rE_n (by omega)
    have hn : nA r q = q := by
      have e1 : (nA r q).1 = q.1 := (nA_sk hb).trans e0
      exact Prod.ext e1 nA_2
    have hz : lpS r isA U 0 q = q := by first | exact hn | rfl
    rw [hz]
    refine ⟨hp, fun _ => ⟨Int.le_refl _, s_stop rfl rfl (Int.le_refl _) ha hs hw he hl (Or.inl ?_)⟩, fun z => absurd hb z⟩
    rw [hs, e0]
    unfold chr
    rw [if_neg (by omega)]
    decide
  | succ f ih =>
    intro q a V' S' v hp hb hf ha hs hw he hl nx
    have hp1 := hp.1
    have hsb := sk_b (t := r) hp.1
    have e1 : (nA r q).1 = sk r q.1 := nA_sk hb
    have e2 : (nA r q).2 = q.2 := nA_2
    have ec : nC r q = chr r (sk r a) := by rw [nC_sk hb, hs]
    rw [lpS]
    by_cases hc : rk (nC r q) = 4
    · rw [if_pos (isA_rk.mpr hc)]
      try rw [show -(38 : Int) = -(nC r q) by rw [rk_2.mp hc]]
      try rw [show -(124 : Int) = -(nC r q) by rw [rk_1.mp hc]]
      have hne := rk_c (c := nC r q) (by omega)
      have hin := (nC_in (r := r) (p := q) (by omega)).2.1
      have hcb := nC_b (p := q) h
      have hlen := wD_len _ _ _ _ hw
      have hl1 := hl.1
      have hl2 := hl.2.1
      have R1 := u_op (r := r) (L := L) (V := V') (S := S') (V1 := v :: V) (S1 := S) (o := o) h ha (by omega) (by omega) (by rw [← ec, hc]; decide) (by rw [← ec, hc]; exact hw) (by rw [← ec, hc]; exact fun z => absurd z.1 (by decide))
      rw [← ec, hs] at R1
      have e3 : (adv (nA r q)).1 = sk r q.1 + 1 := by show (nA r q).1 + 1 = _; rw [e1]
      have e4 : (adv (nA r q)).2 = q.2 := e2
      obtain ⟨b3, g1, g2⟩ := hU (adv (nA r q)) (sk r q.1 + 1) (v :: V) (nC r q :: S) (k + 1) (adv_b h hp (by omega)) (by rw [e4]; exact hb) ⟨by omega, by omega⟩ (by rw [e3]) (by rw [e3, e4]; simp only [List.length_cons] at *; omega) (topOK_c hcb (by omega))
      rw [e3, e4] at g1
      generalize U (adv (nA r q)) = w at *
      by_cases hwb : w.2.1 = -1
      · obtain ⟨hlt, a3, V3, S3, v2, R2, a32, s3, w3, ev3, l3, nx3⟩ := g1 hwb
        have b31 := b3.1
        rw [he] at ev3
        have hwj := wD_join (l := 4) (by decide) w3 (s := nC r q) ⟨by omega, by omega⟩ ht
        have h22 : (emt (-(nC r q)) w).2.2 = -(nC r q) :: w.2.2 := emt_22 (by omega)
        obtain ⟨i1, i2, i3⟩ := ih (emt (-(nC r q)) w) a3 V3 S3 (jn (nC r q) v v2) (emt_b b3) (by rw [emt_21]; exact hwb) (by rw [emt_1]; omega) a32 (by rw [emt_1]; exact s3) hwj (by rw [h22]; exact evU_op ev3 (by omega)) (by rw [emt_1, h22]; simp only [List.length_cons]; omega) nx3
        rw [emt_1] at i2
        exact ⟨i1, fun z => ⟨by have := (i2 z).1; omega, (i2 z).2.pre (R1.trans R2)⟩, fun z => (i3 z).pre (R1.trans R2)⟩
      · rw [lpS_br (show isA (-1) = false by decide) (by rw [emt_21]; exact hwb)]
        refine ⟨emt_b b3, fun z => absurd (by rw [emt_21] at z; exact z) hwb, fun _ => ?_⟩
        rw [emt_21]
        exact (g2 hwb).pre R1
    · rw [if_neg (fun z => hc (isA_rk.mp z))]
      refine ⟨nA_b h hp, fun _ => ⟨by omega, s_stop e2 (by rw [e1, sk_sk]) (by omega) ha hs hw he hl ?_⟩, fun z => absurd (by rw [e2]; exact hb) z⟩
      rw [ec] at hc
      rcases nx with nx | nx
      · exact Or.inl (by omega)
      · exact Or.inr nx
theorem s_lvSum (h : RB r) (ho : 0 ≤ o ∧ o ≤ 8) (hU : SIM r L 5 o U) : SIM r L 4 o (fun p => lpS r isA U 40 (U p)) := by
  intro p a V S k hp hb ha hs hl ht
  obtain ⟨b1, g1, g2⟩ := hU p a V S k hp hb ha hs hl (topOK_le (by decide) ht)
  show PB r (lpS r isA U 40 (U p)) ∧ ((lpS r isA U 40 (U p)).2.1 = -1 → p.1 < (lpS r isA U 40 (U p)).1 ∧ OKc r L 4 o (a, -1, V, S, o, 1, 1) V S (evU L p.2.2) k (lpS r isA U 40 (U p))) ∧ ((lpS r isA U 40 (U p)).2.1 ≠ -1 → BRc r L (a, -1, V, S, o, 1, 1) (lpS r isA U 40 (U p)).2.1)
  by_cases hw : (U p).2.1 = -1
  · obtain ⟨hlt, a', V', S', v, R, a2, s2, w2, ev2, l2, nx⟩ := g1 hw
    have w2' : wD 4 S' V' = some (v :: V, S) := by
      rw [wD_mono (l := 4) (by decide) _ _ _ _ w2]; exact wD_top ht
    have hb1 := b1.1
    have h40 := h.1
    obtain ⟨i1, i2, i3⟩ := s_lpSum (L := L) (k := k) (V := V) (X := evU L p.2.2) h ho hU ht 40 (U p) a' V' S' v b1 hw (by omega) a2 s2 w2' ev2 l2 nx
    exact ⟨i1, fun z => ⟨by have := (i2 z).1; omega, (i2 z).2.pre R⟩, fun z => (i3 z).pre R⟩
  · rw [lpS_br (show isA (-1) = false by decide) hw]
    exact ⟨b1, fun z => absurd z hw, g2⟩
theorem s_lpBoth (h : RB r) (ho : 0 ≤ o ∧ o ≤ 8) (hU : SIM r L 3 o U) (ht : topOK 2 S) : ∀ (f : Nat) (q : PS) (a : Int) (V' S' : List Int) (v : Int), PB r q → q.2.1 = -1 → r (-1) ≤ q.1 + f → (0 ≤ a ∧ a ≤ r (-1)) → sk r a = sk r q.1 → wD 2 S' V' = some (v :: V, S) → evU L q.2.2 = v :: X → ((V'.length : Int) ≤ q.1 ∧ (S'.length : Int) ≤ q.1 ∧ (q.2.2.length : Int) + k ≤ q.1) → NX r 3 a V' S' → PB r (lpB r 38 U f q) ∧ ((lpB r 38 U f q).2.1 = -1 → q.1 ≤ (lpB r 38 U f q).1 ∧ OKc r L 2 o (a, -1, V', S', o, 0, 1) V S X k (lpB r 38 U f q)) ∧ ((lpB r 38 U f q).2.1 ≠ -1 → BRc r L (a, -1, V', S', o, 0, 1) (lpB r 38 U f q).2.1) := by
  have h40 := h.1
  intro f
  induction f with
  | zero =>
    intro q a V' S' v hp hb hf ha hs hw he hl nx
    have hp1 := hp.1
    have e0 : sk r q.1 = q.1 := rE_n (by omega)
    have hn : nA r q = q := by
      have e1 : (nA r q).1 = q.1 := (nA_sk hb).trans e0
      exact Prod.ext e1 nA_2
    have hz : lpB r 38 U 0 q = q := by first | exact hn | rfl
    rw [hz]
    refine ⟨hp, fun _ => ⟨Int.le_refl _, s_stop rfl rfl (Int.le_refl _) ha hs hw he hl (Or.inl ?_)⟩, fun z => absurd hb z⟩
    rw [hs, e0]
    unfold chr
    rw [if_neg (by omega)]
    decide
  | succ f ih =>
    intro q a V' S' v hp hb hf ha hs hw he hl nx
    have hp1 := hp.1
    have hsb := sk_b (t := r) hp.1
    have e1 : (nA r q).1 = sk r q.1 := nA_sk hb
    have e2 : (nA r q).2 = q.2 := nA_2
    have ec : nC r q = chr r (sk r a) := by rw [nC_sk hb, hs]
    rw [lpB]
    by_cases hc : rk (nC r q) = 2
    · rw [if_pos ((Iff.symm rk_2).mpr hc)]
      try rw [show -(38 : Int) = -(nC r q) by rw [rk_2.mp hc]]
      try rw [show -(124 : Int) = -(nC r q) by rw [rk_1.mp hc]]
      have hne := rk_c (c := nC r q) (by omega)
      have hin := (nC_in (r := r) (p := q) (by omega)).2.1
      have hcb := nC_b (p := q) h
      have hlen := wD_len _ _ _ _ hw
      have hl1 := hl.1
      have hl2 := hl.2.1
      have R1 := u_op (r := r) (L := L) (V := V') (S := S') (V1 := v :: V) (S1 := S) (o := o) h ha (by omega) (by omega) (by rw [← ec, hc]; decide) (by rw [← ec, hc]; exact hw) (by rw [← ec, hc]; exact fun z => absurd z.1 (by decide))
      rw [← ec, hs] at R1
      have e3 : (adv (nA r q)).1 = sk r q.1 + 1 := by show (nA r q).1 + 1 = _; rw [e1]
      have e4 : (adv (nA r q)).2 = q.2 := e2
      obtain ⟨b3, g1, g2⟩ := hU (adv (nA r q)) (sk r q.1 + 1) (v :: V) (nC r q :: S) (k + 1) (adv_b h hp (by omega)) (by rw [e4]; exact hb) ⟨by omega, by omega⟩ (by rw [e3]) (by rw [e3, e4]; simp only [List.length_cons] at *; omega) (topOK_c hcb (by omega))
      rw [e3, e4] at g1
      generalize U (adv (nA r q)) = w at *
      by_cases hwb : w.2.1 = -1
      · obtain ⟨hlt, a3, V3, S3, v2, R2, a32, s3, w3, ev3, l3, nx3⟩ := g1 hwb
        have b31 := b3.1
        rw [he] at ev3
        have hwj := wD_join (l := 2) (by decide) w3 (s := nC r q) ⟨by omega, by omega⟩ ht
        have h22 : (emt (-(nC r q)) w).2.2 = -(nC r q) :: w.2.2 := emt_22 (by omega)
        obtain ⟨i1, i2, i3⟩ := ih (emt (-(nC r q)) w) a3 V3 S3 (jn (nC r q) v v2) (emt_b b3) (by rw [emt_21]; exact hwb) (by rw [emt_1]; omega) a32 (by rw [emt_1]; exact s3) hwj (by rw [h22]; exact evU_op ev3 (by omega)) (by rw [emt_1, h22]; simp only [List.length_cons]; omega) nx3
        rw [emt_1] at i2
        exact ⟨i1, fun z => ⟨by have := (i2 z).1; omega, (i2 z).2.pre (R1.trans R2)⟩, fun z => (i3 z).pre (R1.trans R2)⟩
      · rw [lpB_br (show (38 : Int) ≠ -1 by decide) (by rw [emt_21]; exact hwb)]
        refine ⟨emt_b b3, fun z => absurd (by rw [emt_21] at z; exact z) hwb, fun _ => ?_⟩
        rw [emt_21]
        exact (g2 hwb).pre R1
    · rw [if_neg (fun z => hc ((Iff.symm rk_2).mp z))]
      refine ⟨nA_b h hp, fun _ => ⟨by omega, s_stop e2 (by rw [e1, sk_sk]) (by omega) ha hs hw he hl ?_⟩, fun z => absurd (by rw [e2]; exact hb) z⟩
      rw [ec] at hc
      rcases nx with nx | nx
      · exact Or.inl (by omega)
      · exact Or.inr nx
theorem s_lvBoth (h : RB r) (ho : 0 ≤ o ∧ o ≤ 8) (hU : SIM r L 3 o U) : SIM r L 2 o (fun p => lpB r 38 U 40 (U p)) := by
  intro p a V S k hp hb ha hs hl ht
  obtain ⟨b1, g1, g2⟩ := hU p a V S k hp hb ha hs hl (topOK_le (by decide) ht)
  show PB r (lpB r 38 U 40 (U p)) ∧ ((lpB r 38 U 40 (U p)).2.1 = -1 → p.1 < (lpB r 38 U 40 (U p)).1 ∧ OKc r L 2 o (a, -1, V, S, o, 1, 1) V S (evU L p.2.2) k (lpB r 38 U 40 (U p))) ∧ ((lpB r 38 U 40 (U p)).2.1 ≠ -1 → BRc r L (a, -1, V, S, o, 1, 1) (lpB r 38 U 40 (U p)).2.1)
  by_cases hw : (U p).2.1 = -1
  · obtain ⟨hlt, a', V', S', v, R, a2, s2, w2, ev2, l2, nx⟩ := g1 hw
    have w2' : wD 2 S' V' = some (v :: V, S) := by
      rw [wD_mono (l := 2) (by decide) _ _ _ _ w2]; exact wD_top ht
    have hb1 := b1.1
    have h40 := h.1
    obtain ⟨i1, i2, i3⟩ := s_lpBoth (L := L) (k := k) (V := V) (X := evU L p.2.2) h ho hU ht 40 (U p) a' V' S' v b1 hw (by omega) a2 s2 w2' ev2 l2 nx
    exact ⟨i1, fun z => ⟨by have := (i2 z).1; omega, (i2 z).2.pre R⟩, fun z => (i3 z).pre R⟩
  · rw [lpB_br (show (38 : Int) ≠ -1 by decide) hw]
    exact ⟨b1, fun z => absurd z hw, g2⟩
theorem s_lpValue (h : RB r) (ho : 0 ≤ o ∧ o ≤ 8) (hU : SIM r L 2 o U) (ht : topOK 1 S) : ∀ (f : Nat) (q : PS) (a : Int) (V' S' : List Int) (v : Int), PB r q → q.2.1 = -1 → r (-1) ≤ q.1 + f → (0 ≤ a ∧ a ≤ r (-1)) → sk r a = sk r q.1 → wD 1 S' V' = some (v :: V, S) → evU L q.2.2 = v :: X → ((V'.length : Int) ≤ q.1 ∧ (S'.length : Int) ≤ q.1 ∧ (q.2.2.length : Int) + k ≤ q.1) → NX r 2 a V' S' → PB r (lpB r 124 U f q) ∧ ((lpB r 124 U f q).2.1 = -1 → q.1 ≤ (lpB r 124 U f q).1 ∧ OKc r L 1 o (a, -1, V', S', o, 0, 1) V S X k (lpB r 124 U f q)) ∧ ((lpB r 124 U f q).2.1 ≠ -1 → BRc r L (a, -1, V', S', o, 0, 1) (lpB r 124 U f q).2.1) := by
  have h40 := h.1
  intro f
  induction f with
  | zero =>
    intro q a V' S' v hp hb hf ha hs hw he hl nx
    have hp1 := hp.1
    have e0 : sk r q.1 = q.1 := rE_n (by omega)
    have hn : nA r q = q := by
      have e1 : (nA r q).1 = q.1 := (nA_sk hb).trans e0
      exact Prod.ext e1 nA_2
    have hz : lpB r 124 U 0 q = q := by first | exact hn | rfl
    rw [hz]
    refine ⟨hp, fun _ => ⟨Int.le_refl _, s_stop rfl rfl (Int.le_refl _) ha hs hw he hl (Or.inl ?_)⟩, fun z => absurd hb z⟩
    rw [hs, e0]
    unfold chr
    rw [if_neg (by omega)]
    decide
  | succ f ih =>
    intro q a V' S' v hp hb hf ha hs hw he hl nx
    have hp1 := hp.1
    have hsb := sk_b (t := r) hp.1
    have e1 : (nA r q).1 = sk r q.1 := nA_sk hb
    have e2 : (nA r q).2 = q.2 := nA_2
    have ec : nC r q = chr r (sk r a) := by rw [nC_sk hb, hs]
    rw [lpB]
    by_cases hc : rk (nC r q) = 1
    · rw [if_pos ((Iff.symm rk_1).mpr hc)]
      try rw [show -(38 : Int) = -(nC r q) by rw [rk_2.mp hc]]
      try rw [show -(124 : Int) = -(nC r q) by rw [rk_1.mp hc]]
      have hne := rk_c (c := nC r q) (by omega)
      have hin := (nC_in (r := r) (p := q) (by omega)).2.1
      have hcb := nC_b (p := q) h
      have hlen := wD_len _ _ _ _ hw
      have hl1 := hl.1
      have hl2 := hl.2.1
      have R1 := u_op (r := r) (L := L) (V := V') (S := S') (V1 := v :: V) (S1 := S) (o := o) h ha (by omega) (by omega) (by rw [← ec, hc]; decide) (by rw [← ec, hc]; exact hw) (by rw [← ec, hc]; exact fun z => absurd z.1 (by decide))
      rw [← ec, hs] at R1
      have e3 : (adv (nA r q)).1 = sk r q.1 + 1 := by show (nA r q).1 + 1 = _; rw [e1]
      have e4 : (adv (nA r q)).2 = q.2 := e2
      obtain ⟨b3, g1, g2⟩ := hU (adv (nA r q)) (sk r q.1 + 1) (v :: V) (nC r q :: S) (k + 1) (adv_b h hp (by omega)) (by rw [e4]; exact hb) ⟨by omega, by omega⟩ (by rw [e3]) (by rw [e3, e4]; simp only [List.length_cons] at *; omega) (topOK_c hcb (by omega))
      rw [e3, e4] at g1
      generalize U (adv (nA r q)) = w at *
      by_cases hwb : w.2.1 = -1
      · obtain ⟨hlt, a3, V3, S3, v2, R2, a32, s3, w3, ev3, l3, nx3⟩ := g1 hwb
        have b31 := b3.1
        rw [he] at ev3
        have hwj := wD_join (l := 1) (by decide) w3 (s := nC r q) ⟨by omega, by omega⟩ ht
        have h22 : (emt (-(nC r q)) w).2.2 = -(nC r q) :: w.2.2 := emt_22 (by omega)
        obtain ⟨i1, i2, i3⟩ := ih (emt (-(nC r q)) w) a3 V3 S3 (jn (nC r q) v v2) (emt_b b3) (by rw [emt_21]; exact hwb) (by rw [emt_1]; omega) a32 (by rw [emt_1]; exact s3) hwj (by rw [h22]; exact evU_op ev3 (by omega)) (by rw [emt_1, h22]; simp only [List.length_cons]; omega) nx3
        rw [emt_1] at i2
        exact ⟨i1, fun z => ⟨by have := (i2 z).1; omega, (i2 z).2.pre (R1.trans R2)⟩, fun z => (i3 z).pre (R1.trans R2)⟩
      · rw [lpB_br (show (124 : Int) ≠ -1 by decide) (by rw [emt_21]; exact hwb)]
        refine ⟨emt_b b3, fun z => absurd (by rw [emt_21] at z; exact z) hwb, fun _ => ?_⟩
        rw [emt_21]
        exact (g2 hwb).pre R1
    · rw [if_neg (fun z => hc ((Iff.symm rk_1).mp z))]
      refine ⟨nA_b h hp, fun _ => ⟨by omega, s_stop e2 (by rw [e1, sk_sk]) (by omega) ha hs hw he hl ?_⟩, fun z => absurd (by rw [e2]; exact hb) z⟩
      rw [ec] at hc
      rcases nx with nx | nx
      · exact Or.inl (by omega)
      · exact Or.inr nx
theorem s_lvValue (h : RB r) (ho : 0 ≤ o ∧ o ≤ 8) (hU : SIM r L 2 o U) : SIM r L 1 o (fun p => lpB r 124 U 40 (U p)) := by
  intro p a V S k hp hb ha hs hl ht
  obtain ⟨b1, g1, g2⟩ := hU p a V S k hp hb ha hs hl (topOK_le (by decide) ht)
  show PB r (lpB r 124 U 40 (U p)) ∧ ((lpB r 124 U 40 (U p)).2.1 = -1 → p.1 < (lpB r 124 U 40 (U p)).1 ∧ OKc r L 1 o (a, -1, V, S, o, 1, 1) V S (evU L p.2.2) k (lpB r 124 U 40 (U p))) ∧ ((lpB r 124 U 40 (U p)).2.1 ≠ -1 → BRc r L (a, -1, V, S, o, 1, 1) (lpB r 124 U 40 (U p)).2.1)
  by_cases hw : (U p).2.1 = -1
  · obtain ⟨hlt, a', V', S', v, R, a2, s2, w2, ev2, l2, nx⟩ := g1 hw
    have w2' : wD 1 S' V' = some (v :: V, S) := by
      rw [wD_mono (l := 1) (by decide) _ _ _ _ w2]; exact wD_top ht
    have hb1 := b1.1
    have h40 := h.1
    obtain ⟨i1, i2, i3⟩ := s_lpValue (L := L) (k := k) (V := V) (X := evU L p.2.2) h ho hU ht 40 (U p) a' V' S' v b1 hw (by omega) a2 s2 w2' ev2 l2 nx
    exact ⟨i1, fun z => ⟨by have := (i2 z).1; omega, (i2 z).2.pre R⟩, fun z => (i3 z).pre R⟩
  · rw [lpB_br (show (124 : Int) ≠ -1 by decide) hw]
    exact ⟨b1, fun z => absurd z hw, g2⟩
theorem s_held (h : RB r) (ho : 0 ≤ o ∧ o ≤ 8) (hU : SIM r L 4 o (pSum r o F)) : SIM r L 3 o (pHeld r o F) := by
  intro p a V S k hp hb ha hs hl ht
  have h40 := h.1
  have hU0 := hU
  obtain ⟨b1, g1, g2⟩ := hU p a V S k hp hb ha hs hl (topOK_le (by decide) ht)
  unfold pHeld
  generalize pSum r o F p = q at *
  by_cases hq : q.2.1 = -1
  · obtain ⟨hlt, a', V', S', v, R, a2, s2, w2, ev2, l2, nx⟩ := g1 hq
    have hq1 := b1.1
    have hsb := sk_b (t := r) b1.1
    have e1 : (nA r q).1 = sk r q.1 := nA_sk hq
    have e2 : (nA r q).2 = q.2 := nA_2
    have ec : nC r q = chr r (sk r a') := by rw [nC_sk hq, s2]
    have hlen := wD_len _ _ _ _ w2
    by_cases hc : rk (nC r q) = 3
    · rw [if_pos (isH_rk.mpr hc)]
      have hne := rk_c (c := nC r q) (by omega)
      have hin := (nC_in (r := r) (p := q) (by omega)).2.1
      have hcb := nC_b (p := q) h
      have R1 := u_op (r := r) (L := L) (V := V') (S := S') (V1 := v :: V) (S1 := S) (o := o) h a2 (by omega) (by omega) (by rw [← ec, hc]; decide) (by rw [← ec, hc]; exact w2) (by
        rintro ⟨-, z⟩
        cases S with
        | nil => cases z
        | cons s S2 =>
          have z2 : s < 1000 ∧ rk s = 3 := of_decide_eq_true z
          have := (ht s S2 rfl).2 z2.1
          omega)
      rw [← ec, s2] at R1
      have e3 : (adv (nA r q)).1 = sk r q.1 + 1 := by show (nA r q).1 + 1 = _; rw [e1]
      have e4 : (adv (nA r q)).2 = q.2 := e2
      obtain ⟨b3, g3, g4⟩ := hU0 (adv (nA r q)) (sk r q.1 + 1) (v :: V) (nC r q :: S) (k + 1) (adv_b h b1 (by omega)) (by rw [e4]; exact hq) ⟨by omega, by omega⟩ (by rw [e3]) (by rw [e3, e4]; simp only [List.length_cons] at *; omega) (topOK_c hcb (by omega))
      rw [e3, e4] at g3
      generalize pSum r o F (adv (nA r q)) = w at *
      by_cases hwb : w.2.1 = -1
      · obtain ⟨hlt3, a3, V3, S3, v2, R2, a32, s3, w3, ev3, l3, nx3⟩ := g3 hwb
        have b31 := b3.1
        rw [ev2] at ev3
        have hwj := wD_join (l := 3) (by decide) w3 (s := nC r q) ⟨by omega, by omega⟩ ht
        have h22 : (emt (-(nC r q)) w).2.2 = -(nC r q) :: w.2.2 := emt_22 (by omega)
        refine ⟨emt_b b3, fun _ => ⟨by rw [emt_1]; omega, a3, V3, S3, _, (R.trans R1).trans R2, a32, by rw [emt_1]; exact s3, hwj, by rw [h22]; exact evU_op ev3 (by omega), by rw [emt_1, h22]; simp only [List.length_cons]; omega, ?_⟩, fun z => absurd (by rw [emt_21]; exact hwb) z⟩
        rcases nx3 with n3 | n3
        · by_cases h3 : rk (chr r (sk r a3)) = 3
          · exact Or.inr ⟨h3, _, _, _, w3, by omega, hc⟩
          · exact Or.inl (by omega)
        · exact Or.inr n3
      · refine ⟨emt_b b3, fun z => absurd (by rw [emt_21] at z; exact z) hwb, fun _ => ?_⟩
        rw [emt_21]
        exact (g4 hwb).pre (R.trans R1)
    · rw [if_neg (fun z => hc (isH_rk.mp z))]
      have w3' : wD 3 S' V' = some (v :: V, S) := by
        rw [wD_mono (l := 3) (by decide) _ _ _ _ w2]; exact wD_top ht
      refine ⟨nA_b h b1, fun _ => ⟨by omega, (s_stop e2 (by rw [e1, sk_sk]) (by omega) a2 s2 w3' ev2 l2 ?_).pre R⟩, fun z => absurd (by rw [e2]; exact hq) z⟩
      rw [ec] at hc
      rcases nx with nx | nx
      · exact Or.inl (by omega)
      · exact Or.inr nx
  · rw [nC_br hq, if_neg (by decide), nA_br hq]
    exact ⟨b1, fun z => absurd z hq, g2⟩
theorem s_level (h : RB r) (ho : 0 ≤ o ∧ o ≤ 8) (hF : o < 8 → SIM r L 1 (o + 1) F) : SIM r L 1 o (pVal r o F) :=
  s_lvValue h ho (s_lvBoth h ho (s_held h ho (s_lvSum h ho (s_lvTerm h ho (s_unit h ho hF)))))
theorem s_pV (h : RB r) : ∀ n : Nat, n ≤ 8 → SIM r L 1 (8 - (n : Int)) (pV r n)
  | 0, _ => s_level h (by omega) (fun z => absurd z (by omega))
  | n + 1, hn => by
    have ih := s_pV h n (by omega)
    refine s_level h (by omega) (fun _ => ?_)
    rw [show (8 : Int) - ((n + 1 : Nat) : Int) + 1 = 8 - (n : Int) by omega]
    exact ih
end
