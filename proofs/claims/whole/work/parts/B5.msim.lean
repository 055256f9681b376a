/-! The rule: what the class tells by steps is what the model works out. Words and pure rows. -/
def apU (L : Int → Int) (x : Int) (st : List Int) : List Int :=
  if 0 ≤ x then x :: st
  else if isS (ineg x) = true then L (ineg x) :: st
  else if x = -33 then (if st.headD 0 = 0 then 1 else 0) :: st.tail
  else if x = -126 then lneg (st.headD 0) :: st.tail
  else jn (ineg x) (st.tail.headD 0) (st.headD 0) :: st.tail.tail
def evU (L : Int → Int) : List Int → List Int
  | [] => []
  | x :: l => apU L x (evU L l)
def topOK (l : Int) (S : List Int) : Prop := ∀ s S', S = s :: S' → s ≤ 1000 ∧ (s < 1000 → rk s < l)
def NX (r : Int → Int) (l a : Int) (V S : List Int) : Prop := rk (chr r (sk r a)) < l ∨ (rk (chr r (sk r a)) = 3 ∧ ∃ V1 s S1, wD 4 S V = some (V1, s :: S1) ∧ s < 1000 ∧ rk s = 3)
def OKc (r L : Int → Int) (l o : Int) (q0 : MQS) (V S X : List Int) (k : Nat) (p' : PS) : Prop := ∃ a' V' S' v, RUN r L q0 (a', -1, V', S', o, 0, 1) ∧ (0 ≤ a' ∧ a' ≤ r (-1)) ∧ sk r a' = sk r p'.1 ∧ wD l S' V' = some (v :: V, S) ∧ evU L p'.2.2 = v :: X ∧ ((V'.length : Int) ≤ p'.1 ∧ (S'.length : Int) ≤ p'.1 ∧ (p'.2.2.length : Int) + k ≤ p'.1) ∧ NX r l a' V' S'
def BRc (r L : Int → Int) (q0 : MQS) (b : Int) : Prop := ∃ a' V' S' o' w', RUN r L q0 (a', b, V', S', o', w', 1)
def SIM (r L : Int → Int) (l o : Int) (F : PS → PS) : Prop := ∀ (p : PS) (a : Int) (V S : List Int) (k : Nat), PB r p → p.2.1 = -1 → (0 ≤ a ∧ a ≤ r (-1)) → sk r a = sk r p.1 → ((V.length : Int) ≤ p.1 ∧ (S.length : Int) ≤ p.1 ∧ (p.2.2.length : Int) + k ≤ p.1) → topOK l S → PB r (F p) ∧ ((F p).2.1 = -1 → p.1 < (F p).1 ∧ OKc r L l o (a, -1, V, S, o, 1, 1) V S (evU L p.2.2) k (F p)) ∧ ((F p).2.1 ≠ -1 → BRc r L (a, -1, V, S, o, 1, 1) (F p).2.1)
section
variable {r L : Int → Int} {c i x a b n o v l m s y1 y2 : Int} {V S V1 S1 X st : List Int} {p q : PS} {k : Nat}
theorem rk_b : 0 ≤ rk c ∧ rk c ≤ 5 := by
  unfold rk
  split
  · omega
  split
  · omega
  split
  · omega
  split
  · omega
  split <;> omega
theorem rk_1 : rk c = 1 ↔ c = 124 := by unfold rk; (repeat' split) <;> omega
theorem rk_2 : rk c = 2 ↔ c = 38 := by unfold rk; (repeat' split) <;> omega
theorem rk_3 : rk c = 3 ↔ c = 60 ∨ c = 62 ∨ c = 61 := by unfold rk; (repeat' split) <;> omega
theorem rk_4 : rk c = 4 ↔ c = 43 ∨ c = 45 := by unfold rk; (repeat' split) <;> omega
theorem rk_5 : rk c = 5 ↔ c = 42 ∨ c = 47 := by unfold rk; (repeat' split) <;> omega
theorem rk_c (h : 0 < rk c) : c = 124 ∨ c = 38 ∨ c = 60 ∨ c = 62 ∨ c = 61 ∨ c = 43 ∨ c = 45 ∨ c = 42 ∨ c = 47 := by
  have h5 := rk_b (c := c)
  have : rk c = 1 ∨ rk c = 2 ∨ rk c = 3 ∨ rk c = 4 ∨ rk c = 5 := by omega
  rcases this with z | z | z | z | z
  · have := rk_1.mp z; omega
  · have := rk_2.mp z; omega
  · have := rk_3.mp z; omega
  · have := rk_4.mp z; omega
  · have := rk_5.mp z; omega
theorem wD_top (h : topOK l S) : wD l S V = some (V, S) := by
  cases S with
  | nil => rfl
  | cons s S' =>
    obtain ⟨h1, h2⟩ := h s S' rfl
    rw [wD, if_neg]
    rintro ⟨z1, z2⟩
    have := h2 z1
    omega
theorem wD_mono (hl : l ≤ m) : ∀ (S V : List Int) (V1 S1 : List Int), wD m S V = some (V1, S1) → wD l S V = wD l S1 V1 := by
  intro S
  induction S with
  | nil => intro V V1 S1 h; cases h; rfl
  | cons s S ih =>
    intro V V1 S1 h
    rw [wD] at h
    by_cases hc : s < 1000 ∧ m ≤ rk s
    · rw [if_pos hc] at h
      rw [wD, if_pos ⟨hc.1, by omega⟩]
      cases hV1 : wO s V with
      | none => rw [hV1] at h; cases h
      | some V2 =>
        rw [hV1] at h
        exact ih V2 V1 S1 h
    · rw [if_neg hc] at h
      cases h; rfl
/-- an operator more, worked out -/
theorem wD_join (hl : l ≤ m) (hw : wD m S1 V1 = some (y2 :: y1 :: V, s :: S)) (hs : s < 1000 ∧ l ≤ rk s) (ht : topOK l S) : wD l S1 V1 = some (jn s y1 y2 :: V, S) := by
  rw [wD_mono hl _ _ _ _ hw, wD, if_pos hs]
  exact wD_top ht
theorem topOK_c (hc : -1 ≤ c ∧ c < 128) (h : rk c < l) : topOK l (c :: S) := fun s S' e => by
  have : c = s := (List.cons.inj e).1
  subst this
  exact ⟨by omega, fun _ => h⟩
theorem topOK_p : topOK l (1000 :: S) := fun s S' e => by
  have : 1000 = s := (List.cons.inj e).1
  subst this
  exact ⟨Int.le_refl _, fun z => absurd z (by omega)⟩
theorem topOK_n : topOK l [] := fun s S' e => by cases e
theorem topOK_le (hl : l ≤ m) (h : topOK l S) : topOK m S := fun s S' e => ⟨(h s S' e).1, fun z => by have := (h s S' e).2 z; omega⟩
theorem stU_top (h : topOK l S) : stU S v = (v, S) := by
  cases S with
  | nil => rfl
  | cons s S' =>
    have h1 := (h s S' rfl).1
    rw [stU, if_neg (by omega)]
theorem evU_op (h : evU L X = y2 :: y1 :: st) (hr : 0 < rk c) : evU L (-c :: X) = jn c y1 y2 :: st := by
  have hc := rk_c hr
  have e : ineg (-c) = c := by rw [ineg_eq (by omega)]; omega
  rw [evU, h]
  unfold apU
  have hs : ¬ isS c = true := fun z => by have := of_decide_eq_true z; omega
  rw [if_neg (by omega), e, if_neg hs, if_neg (by omega), if_neg (by omega)]
  rfl
theorem evU_len : ∀ l : List Int, (evU L l).length ≤ l.length
  | [] => Nat.le_refl _
  | x :: l => by
    have ih := evU_len l
    rw [evU]
    unfold apU
    have h1 : ∀ st : List Int, st.tail.length ≤ st.length := fun st => by cases st <;> simp
    have h2 := h1 (evU L l)
    have h3 := h1 (evU L l).tail
    split
    · simp only [List.length_cons]; omega
    split
    · simp only [List.length_cons]; omega
    split
    · simp only [List.length_cons]; omega
    split
    · simp only [List.length_cons]; omega
    · simp only [List.length_cons]; omega
theorem evS_evU : ∀ l : List Int, l.length ≤ 40 → evS L l = evU L l
  | [], _ => rfl
  | x :: l, h => by
    simp only [List.length_cons] at h
    have ih := evS_evU l (by omega)
    have hl := evU_len (L := L) l
    rw [evS, evU, ih]
    have h1 : ∀ st : List Int, st.tail.length ≤ st.length := fun st => by cases st <;> simp
    have h2 := h1 (evU L l)
    have h3 := h1 (evU L l).tail
    unfold apS apU psh
    rw [if_pos (show (evU L l).length < 40 by omega), if_pos (show (evU L l).length < 40 by omega), if_pos (show (evU L l).tail.length < 40 by omega), if_pos (show (evU L l).tail.length < 40 by omega), if_pos (show (evU L l).tail.tail.length < 40 by omega)]
/-- blanks -/
theorem rE_all {P : Int → Bool} {t : Int → Int} {n : Int} : ∀ (f : Nat) (k : Int), (n - k).toNat ≤ f → ∀ i, k ≤ i → i < rE P t n k → i < n ∧ P (t i) = true := by
  intro f
  induction f with
  | zero =>
    intro k hf i i0 i1
    rw [rE_n (by omega)] at i1; omega
  | succ f ih =>
    intro k hf i i0 i1
    by_cases h : k < n ∧ P (t k) = true
    · by_cases hi : i = k
      · subst hi; exact h
      · rw [rE_y h.1 h.2] at i1
        exact ih (k + 1) (by omega) i (by omega) i1
    · rw [rE_n h] at i1; omega
theorem sk_all (ha : 0 ≤ a) (h1 : a ≤ i) (h2 : i < sk r a) : chr r i = 32 := by
  obtain ⟨z1, z2⟩ := rE_all (r (-1) - a).toNat a (Nat.le_refl _) i h1 h2
  unfold chr
  rw [if_pos ⟨by omega, z1⟩]
  exact of_decide_eq_true z2
theorem nA_sk (hb : p.2.1 = -1) : (nA r p).1 = sk r p.1 := by unfold nA; rw [if_pos hb]
theorem nA_2 : (nA r p).2 = p.2 := by unfold nA; split <;> rfl
theorem nC_sk (hb : p.2.1 = -1) : nC r p = chr r (sk r p.1) := by unfold nC; rw [if_pos hb]
theorem nC_br (hb : p.2.1 ≠ -1) : nC r p = -1 := by unfold nC; rw [if_neg hb]
theorem nA_br (hb : p.2.1 ≠ -1) : nA r p = p := by unfold nA; rw [if_neg hb]
theorem emt_1 : (emt x p).1 = p.1 := by unfold emt; split <;> rfl
theorem emt_21 : (emt x p).2.1 = p.2.1 := by unfold emt; split <;> rfl
theorem emt_22 (h : p.2.2.length < 40) : (emt x p).2.2 = x :: p.2.2 := by unfold emt; rw [if_pos h]
theorem lpS_br {op : Int → Bool} {U : PS → PS} (hop : op (-1) = false) (hb : p.2.1 ≠ -1) : ∀ f : Nat, lpS r op U f p = p
  | 0 => nA_br hb
  | f + 1 => by rw [lpS, nC_br hb, hop, if_neg (by decide), nA_br hb]
theorem lpB_br {U : PS → PS} (hc : c ≠ -1) (hb : p.2.1 ≠ -1) : ∀ f : Nat, lpB r c U f p = p
  | 0 => rfl
  | f + 1 => by rw [lpB, nC_br hb, if_neg (fun z => hc z.symm), nA_br hb]
end
