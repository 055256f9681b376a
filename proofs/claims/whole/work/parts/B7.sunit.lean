/-! The rule: a unit, in both. -/
section
variable {r L : Int → Int} {c i x a b n o v l m s y1 y2 lo : Int} {V S V1 S1 X st us : List Int} {p q : PS} {k : Nat} {F : PS → PS}
theorem sgL_blank : ∀ (f : Nat) (x y : Int), y = x + f → lo ≤ x → (∀ i, x ≤ i → i < y → chr r i = 32) → sgL r lo (y - lo).toNat = sgL r lo (x - lo).toNat := by
  intro f
  induction f with
  | zero => intro x y e hl hb; rw [show y = x by omega]
  | succ f ih =>
    intro x y e hl hb
    have h1 := ih x (y - 1) (by omega) hl (fun i i0 i1 => hb i i0 (by omega))
    have e1 : (y - lo).toNat = (y - 1 - lo).toNat + 1 := by omega
    rw [e1, sgL, h1]
    have e2 : lo + (((y - 1 - lo).toNat : Nat) : Int) = y - 1 := by omega
    rw [e2, hb (y - 1) (by omega) (by omega)]
    rfl
theorem sgL_sk (ha : 0 ≤ a ∧ a ≤ r (-1)) (hl : lo ≤ a) : sgL r lo (sk r a - lo).toNat = sgL r lo (a - lo).toNat := by
  have hs := sk_b (t := r) ha
  exact sgL_blank (sk r a - a).toNat a (sk r a) (by omega) hl (fun i i0 i1 => sk_all ha.1 i0 i1)
theorem sgO_fold : ∀ (f : Nat) (q : PS), sgO r lo f q = (sgL r lo f).foldl emU q
  | 0, _ => rfl
  | f + 1, q => by
    rw [sgO, sgL, List.foldl_append, sgO_fold f]
    congr 1
    unfold emS sg1
    by_cases h1 : chr r (lo + f) = 33
    · rw [if_pos h1, if_pos h1]; rfl
    · rw [if_neg h1, if_neg h1]
      by_cases h2 : chr r (lo + f) = 45
      · rw [if_pos h2, if_pos h2]; rfl
      · rw [if_neg h2, if_neg h2]; rfl
theorem stU_app (ht : topOK l S) : ∀ (us : List Int) (v : Int), (∀ u, u ∈ us → u = 1001 ∨ u = 1002) → stU (us ++ S) v = (us.foldl (fun v u => un1 u v) v, S)
  | [], v, _ => stU_top ht
  | u :: us, v, h => by
    have hu := h u (by simp)
    show stU (u :: (us ++ S)) v = _
    rw [stU, if_pos (by omega), stU_app ht us _ (fun w hw => h w (by simp [hw]))]
    rfl
theorem fold_1 : ∀ (us : List Int) (q : PS), (us.foldl emU q).1 = q.1 ∧ (us.foldl emU q).2.1 = q.2.1
  | [], _ => ⟨rfl, rfl⟩
  | u :: us, q => by
    obtain ⟨h1, h2⟩ := fold_1 us (emU q u)
    exact ⟨h1.trans emt_1, h2.trans emt_21⟩
theorem fold_ev : ∀ (us : List Int) (q : PS) (v : Int), (∀ u, u ∈ us → u = 1001 ∨ u = 1002) → evU L q.2.2 = v :: X → q.2.2.length + us.length ≤ 40 → evU L (us.foldl emU q).2.2 = (us.foldl (fun v u => un1 u v) v) :: X ∧ (us.foldl emU q).2.2.length = q.2.2.length + us.length
  | [], _, _, _, h, _ => ⟨h, rfl⟩
  | u :: us, q, v, hu, h, hl => by
    have h0 := hu u (by simp)
    simp only [List.length_cons] at hl
    have e1 : (emU q u).2.2 = (if u = 1001 then -33 else -126) :: q.2.2 := emt_22 (by omega)
    have e2 : evU L (emU q u).2.2 = un1 u v :: X := by
      rw [e1, evU, h]
      unfold un1
      rcases h0 with rfl | rfl
      · rw [if_pos rfl, if_pos rfl]
        have hs : ¬ isS (ineg (-33)) = true := by decide
        unfold apU
        rw [if_neg (by omega), if_neg hs, if_pos rfl]
        rfl
      · rw [if_neg (by decide), if_neg (by decide)]
        have hs : ¬ isS (ineg (-126)) = true := by decide
        unfold apU
        rw [if_neg (by omega), if_neg hs, if_neg (by decide), if_pos rfl]
        rfl
    have e3 : (emU q u).2.2.length = q.2.2.length + 1 := by rw [e1]; simp
    obtain ⟨g1, g2⟩ := fold_ev us (emU q u) (un1 u v) (fun w hw => hu w (by simp [hw])) e2 (by omega)
    refine ⟨g1, ?_⟩
    simp only [List.length_cons]
    have : (us.foldl emU (emU q u)).2.2.length = q.2.2.length + (us.length + 1) := by omega
    exact this
/-- the signs ahead of a unit: in both -/
theorem s_signs (h : RB r) (hlo : 0 ≤ lo) : ∀ (f : Nat) (p : PS) (a : Int) (us : List Int), PB r p → p.2.1 = -1 → r (-1) ≤ p.1 + f → (0 ≤ a ∧ a ≤ r (-1)) → sk r a = sk r p.1 → lo ≤ p.1 → us = sgL r lo (p.1 - lo).toNat → (us.length : Int) ≤ p.1 - lo → (S.length : Int) ≤ lo → (∀ u, u ∈ us → u = 1001 ∨ u = 1002) → ∃ a1 us1, RUN r L (a, -1, V, us ++ S, o, 1, 1) (a1, -1, V, us1 ++ S, o, 1, 1) ∧ (0 ≤ a1 ∧ a1 ≤ r (-1)) ∧ sk r a1 = sk r (sgE r f p).1 ∧ PB r (sgE r f p) ∧ (sgE r f p).2 = p.2 ∧ p.1 ≤ (sgE r f p).1 ∧ us1 = sgL r lo ((sgE r f p).1 - lo).toNat ∧ (us1.length : Int) ≤ (sgE r f p).1 - lo ∧ (∀ u, u ∈ us1 → u = 1001 ∨ u = 1002) ∧ ¬ (nC r (sgE r f p) = 33 ∨ nC r (sgE r f p) = 45) := by
  have h40 := h.1
  intro f
  induction f with
  | zero =>
    intro p a us hp hb hf ha hs hl hus hul hS hu
    have hp1 := hp.1
    have e0 : sk r p.1 = p.1 := rE_n (by omega)
    refine ⟨a, us, RUN.refl, ha, hs, hp, rfl, Int.le_refl _, hus, hul, hu, ?_⟩
    show ¬ (nC r p = 33 ∨ nC r p = 45)
    rw [nC_sk hb, e0]
    unfold chr
    rw [if_neg (by omega)]
    omega
  | succ f ih =>
    intro p a us hp hb hf ha hs hl hus hul hS hu
    have hp1 := hp.1
    have hsb := sk_b (t := r) hp.1
    have e1 : (nA r p).1 = sk r p.1 := nA_sk hb
    have e2 : (nA r p).2 = p.2 := nA_2
    have ec : nC r p = chr r (sk r a) := by rw [nC_sk hb, hs]
    rw [sgE]
    by_cases hc : nC r p = 33 ∨ nC r p = 45
    · rw [if_pos hc]
      have hin := (nC_in (r := r) (p := p) (by omega)).2.1
      have hR := u_sign (r := r) (L := L) (V := V) (S := us ++ S) (o := o) h ha (by simp only [List.length_append]; omega) (by rw [← ec]; exact hc)
      rw [← ec, hs] at hR
      have e3 : (adv (nA r p)).1 = sk r p.1 + 1 := by show (nA r p).1 + 1 = _; rw [e1]
      have e4 : (adv (nA r p)).2 = p.2 := e2
      have hus1 : (if nC r p = 33 then 1001 else 1002) :: us = sgL r lo ((adv (nA r p)).1 - lo).toNat := by
        rw [e3, show (sk r p.1 + 1 - lo).toNat = (sk r p.1 - lo).toNat + 1 by omega, sgL, sgL_sk hp.1 hl, ← hus]
        rw [show lo + (((sk r p.1 - lo).toNat : Nat) : Int) = sk r p.1 by omega, ← nC_sk hb]
        unfold sg1
        by_cases h33 : nC r p = 33
        · rw [if_pos h33, if_pos h33]; rfl
        · rw [if_neg h33, if_neg h33, if_pos (by omega)]; rfl
      obtain ⟨a1, us1, R2, g1, g2, g3, g4, g5, g6, g7, g8, g9⟩ := ih (adv (nA r p)) (sk r p.1 + 1) ((if nC r p = 33 then 1001 else 1002) :: us) (adv_b h hp (by omega)) (by rw [e4]; exact hb) (by rw [e3]; omega) ⟨by omega, by omega⟩ (by rw [e3]) (by rw [e3]; omega) hus1 (by rw [e3]; simp only [List.length_cons]; omega) hS (fun u hu' => by
        rcases List.mem_cons.mp hu' with z | z
        · subst z; split <;> omega
        · exact hu u z)
      exact ⟨a1, us1, hR.trans R2, g1, g2, g3, g4.trans e4, by rw [e3] at g5; omega, g6, g7, g8, g9⟩
    · rw [if_neg hc]
      refine ⟨a, us, RUN.refl, ha, by rw [e1, sk_sk]; exact hs, nA_b h hp, e2, by omega, ?_, by omega, hu, by rw [nC_nA]; exact hc⟩
      rw [e1, sgL_sk hp.1 hl]; exact hus
theorem s_unit (h : RB r) (ho : 0 ≤ o ∧ o ≤ 8) (hF : o < 8 → SIM r L 1 (o + 1) F) : SIM r L 6 o (pUnit r o F) := by
  intro p a V S k hp hb ha hs hl ht
  have h40 := h.1
  have hp1 := hp.1
  obtain ⟨a1, us, R1, g1, g2, g3, g4, g5, g6, g7, g8, g9⟩ := s_signs (r := r) (L := L) (V := V) (S := S) (o := o) h hp1.1 40 p a [] hp hb (by omega) ha hs (Int.le_refl _) (by rw [show (p.1 - p.1).toNat = 0 by omega]; rfl) (by show ((0 : Nat) : Int) ≤ p.1 - p.1; omega) hl.2.1 (fun u hu => by cases hu)
  unfold pUnit
  rw [sgO_fold, ← g6]
  have hg3 := g3.1
  obtain ⟨c1, c2, c3⟩ := s_core (r := r) (L := L) (V := V) (S := us ++ S) (k := k + us.length) h ho hF g3 (by rw [g4]; exact hb) g1 g2 (by rw [g4]; simp only [List.length_append]; omega) g9
  rw [g4] at c2
  generalize sgE r 40 p = p1 at *
  generalize pCore r o F p1 = w at *
  obtain ⟨f1, f2⟩ := fold_1 us w
  have hw1 := c1.1
  have hPB : PB r (us.foldl emU w) := by
    rw [g6, ← sgO_fold]
    exact sgO_b _ _ c1
  refine ⟨hPB, fun z => ?_, fun z => ?_⟩
  · rw [f2] at z
    obtain ⟨d1, a', v, R2, d2, d3, d4, d5⟩ := c2 z
    rw [stU_app ht us v g8] at R2
    obtain ⟨e1, e2⟩ := fold_ev us w v g8 d4 (by omega)
    rw [f1]
    refine ⟨by omega, a', _, S, _, R1.trans R2, d2, by rw [f1]; exact d3, wD_top ht, e1, ?_, Or.inl ?_⟩
    · rw [f1, e2]
      simp only [List.length_cons]
      omega
    · have := rk_b (c := chr r (sk r a')); omega
  · rw [f2] at z
    obtain ⟨a', V', S', o', w', R2⟩ := c3 z
    rw [f2]
    exact ⟨_, _, _, _, _, R1.trans R2⟩
end
