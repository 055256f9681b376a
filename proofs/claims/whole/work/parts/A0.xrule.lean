/-! The rule of the class: its parser's leaves. A state: where, the fault (-1: none), the steps told, the newest first. -/
abbrev PS : Type := Int × Int × List Int
def chr (r : Int → Int) (i : Int) : Int := if 0 ≤ i ∧ i < r (-1) then r i else -1
def nA (r : Int → Int) (p : PS) : PS := if p.2.1 = -1 then (sk r p.1, p.2) else p
def nC (r : Int → Int) (p : PS) : Int := if p.2.1 = -1 then chr r (sk r p.1) else -1
def adv (p : PS) : PS := (p.1 + 1, p.2)
def brk (k : Int) (p : PS) : PS := if p.2.1 = -1 then (p.1, 10 * p.1 + k, p.2.2) else p
def emt (x : Int) (p : PS) : PS := if p.2.2.length < 40 then (p.1, p.2.1, x :: p.2.2) else p
/-- a pile in an array, its newest at the end -/
def SK (f : Int → Int) : List Int → Prop
  | [] => True
  | x :: l => f l.length = x ∧ SK f l
theorem SK.cong {f f' : Int → Int} : ∀ {l : List Int}, (∀ i, 0 ≤ i → i < l.length → f' i = f i) → SK f l → SK f' l
  | [], _, _ => trivial
  | x :: l, e, h => ⟨(e _ (by omega) (by simp only [List.length_cons]; omega)).trans h.1, SK.cong (fun i i0 i1 => e i i0 (by simp only [List.length_cons]; omega)) h.2⟩
def RB (r : Int → Int) : Prop := (0 ≤ r (-1) ∧ r (-1) ≤ 40) ∧ ∀ i, 0 ≤ i → i < r (-1) → 0 ≤ r i ∧ r i < 128
def PB (r : Int → Int) (p : PS) : Prop := (0 ≤ p.1 ∧ p.1 ≤ r (-1)) ∧ -1 ≤ p.2.1 ∧ p.2.2.length ≤ 40
def QX (r : Int → Int) (J : MM) (p : PS) : Prop := RX 21 J r ∧ J 21 7 = p.1 ∧ J 21 8 = p.2.1 ∧ J 21 3 = p.2.2.length ∧ SK (J 23) p.2.2
def FrQ (I J : MM) : Prop := ∀ a i, a ≠ 23 → ¬ (a = 21 ∧ (i = 3 ∨ i = 7 ∨ i = 8)) → J a i = I a i
theorem FrQ.trans {I J K : MM} (f : FrQ I J) (f' : FrQ J K) : FrQ I K := fun a i h h' => (f' a i h h').trans (f a i h h')
theorem FrQ.refl {I : MM} : FrQ I I := fun _ _ _ _ => rfl
section
variable {d : Nat} {I J K : MM} {r : Int → Int} {p : PS} {c i k x a n : Int}
theorem sk_r (h : RB r) (hk : 0 ≤ k ∧ k ≤ r (-1)) : k ≤ sk r k ∧ sk r k ≤ r (-1) := sk_b hk
theorem chr_b (h : RB r) : -1 ≤ chr r i ∧ chr r i < 128 := by
  unfold chr; split
  · rename_i z; have := h.2 i z.1 z.2; omega
  · omega
theorem chr_in (h : chr r i ≠ -1) : 0 ≤ i ∧ i < r (-1) := by
  unfold chr at h; split at h
  · assumption
  · exact absurd rfl h
theorem nC_b (h : RB r) : -1 ≤ nC r p ∧ nC r p < 128 := by
  unfold nC; split
  · exact chr_b h
  · omega
theorem nA_b (h : RB r) (hp : PB r p) : PB r (nA r p) := by
  have := sk_r h hp.1
  unfold nA; split
  · exact ⟨⟨Int.le_trans hp.1.1 this.1, this.2⟩, hp.2⟩
  · exact hp
theorem nA_ge (h : RB r) (hp : PB r p) : p.1 ≤ (nA r p).1 := by
  have := sk_r h hp.1
  unfold nA; split
  · exact this.1
  · exact Int.le_refl _
theorem nC_in (h : nC r p ≠ -1) : p.2.1 = -1 ∧ (nA r p).1 < r (-1) ∧ nC r p = chr r (nA r p).1 := by
  unfold nC at h; unfold nC nA; split at h
  · rename_i z
    have := chr_in h
    rw [if_pos z, if_pos z]
    exact ⟨z, this.2, rfl⟩
  · exact absurd rfl h
theorem adv_b (h : RB r) (hp : PB r p) (hc : nC r p ≠ -1) : PB r (adv (nA r p)) := by
  have h1 := nA_b h hp
  have h2 := (nC_in hc).2.1
  exact ⟨⟨by show 0 ≤ (nA r p).1 + 1; have := h1.1; omega, by show (nA r p).1 + 1 ≤ r (-1); omega⟩, h1.2⟩
theorem brk_b (hp : PB r p) (hk : 0 ≤ k) : PB r (brk k p) := by
  unfold brk; split
  · exact ⟨hp.1, by show -1 ≤ 10 * p.1 + k; have := hp.1; omega, hp.2.2⟩
  · exact hp
theorem emt_b (hp : PB r p) : PB r (emt x p) := by
  unfold emt; split
  · exact ⟨hp.1, hp.2.1, by show (x :: p.2.2).length ≤ 40; simp only [List.length_cons]; omega⟩
  · exact hp
theorem RX.set {v : Int} (h : RX 21 J r) (ha : a = 3 ∨ a = 5 ∨ a = 6 ∨ a = 7 ∨ a = 8) : RX 21 (mset J 21 a v) r := h.cong (by rw [mset_at, if_neg (by omega)]) (fun j => by rw [mset_at, if_neg (by omega)])
theorem x_chr (hR : RX 21 I r) (h : RB r) : call (d + 1) 71 [vR 21, vI i] I = some (some (vI (chr r i)), I) := by
  have e := hR.1
  have h40 := h.1
  rw [en71]
  unfold chr
  by_cases h0 : 0 ≤ i ∧ i < r (-1)
  · rw [if_pos h0]
    have e2 := hR.2 i h0.1 h0.2
    simp (disch := omega) only [r71_0, r71_1, r71_4, r71_5, r71_6, r71_9, r71_12, r71_13, r71_15, r71_18, r71_19, r71_22, r71_23, r71_24, r71_27, r71_28, e, e2, ↓if_pos, ↓if_neg]
  · rw [if_neg h0]
    by_cases h1 : i < 0 <;> simp (disch := omega) only [r71_0, r71_1, r71_4, r71_5, r71_6, r71_9, r71_12, r71_13, r71_15, r71_18, r71_19, r71_22, r71_23, r71_24, r71_27, r71_28, e, ↓if_pos, ↓if_neg]
theorem x_blanks (h : RB r) : ∀ (f : Nat) (k : Int) (J : MM), (r (-1) - k).toNat ≤ f → 0 ≤ k → k ≤ r (-1) → RX 21 J r → J 21 7 = k → J 21 8 = -1 → runs (call (d + 1)) 72 0 [vR 21] [] J = runs (call (d + 1)) 72 45 [vR 21] [] (mset J 21 7 (sk r k)) := by
  unfold sk
  intro f
  induction f with
  | zero =>
    intro k J hf k0 hk hT h1 h8
    have e := hT.1
    rw [rE_n (by omega)]
    have : mset J 21 7 k = J := by
      funext a j; rw [mset_at]; split
      · rename_i q; rw [q.1, q.2, h1]
      · rfl
    rw [this]
    simp (disch := omega) only [r72_0, r72_1, r72_4, r72_5, r72_8, r72_11, r72_12, r72_13, r72_16, r72_19, r72_21, r72_24, r72_25, r72_28, r72_29, r72_32, r72_33, r72_34, r72_37, r72_38, r72_39, r72_42, r72_46, r72_49, r72_50, r72_53, r72_54, r72_55, r72_58, r72_61, r72_64, r72_65, ↓if_pos, ↓if_neg]
  | succ f ih =>
    intro k J hf k0 hk hT h1 h8
    have e := hT.1
    have same : mset J 21 7 k = J := by
      funext a j; rw [mset_at]; split
      · rename_i q; rw [q.1, q.2, h1]
      · rfl
    by_cases hl : k < r (-1)
    · have hb := x_chr (d := d) (i := k) hT h
      unfold chr at hb
      rw [if_pos ⟨k0, hl⟩] at hb
      by_cases h32 : r k = 32
      · rw [rE_y hl (decide_eq_true h32)]
        have hih := ih (k + 1) (mset J 21 7 (k + 1)) (by omega) (by omega) (by omega) (hT.set (by omega)) (by rw [mset_at, if_pos ⟨rfl, rfl⟩]) (by rw [mset_at, if_neg (by omega)]; exact h8)
        have em : mset (mset J 21 7 (k + 1)) 21 7 (rE isB r (r (-1)) (k + 1)) = mset J 21 7 (rE isB r (r (-1)) (k + 1)) := by
          funext a j; simp only [mset_at]; split <;> rfl
        rw [em] at hih
        have := h.1
        rw [← hih, r72_0]
        simp (disch := omega) only [r72_1, r72_4, r72_5, r72_8, r72_11, r72_12, r72_13, r72_16, r72_19, r72_21, r72_24, r72_25, r72_28, r72_29, r72_32, r72_33, r72_34, r72_37, r72_38, r72_39, r72_42, r72_46, r72_49, r72_50, r72_53, r72_54, r72_55, r72_58, r72_61, r72_64, r72_65, ↓if_pos, ↓if_neg, h1, h8, hb, iadd_eq, Option.bind_some, pushR_s]
      · rw [rE_n (fun q => h32 (of_decide_eq_true q.2)), same]
        simp (disch := omega) only [r72_0, r72_1, r72_4, r72_5, r72_8, r72_11, r72_12, r72_13, r72_16, r72_19, r72_21, r72_24, r72_25, r72_28, r72_29, r72_32, r72_33, r72_34, r72_37, r72_38, r72_39, r72_42, r72_46, r72_49, r72_50, r72_53, r72_54, r72_55, r72_58, r72_61, r72_64, r72_65, ↓if_pos, ↓if_neg, h1, hb, Option.bind_some, pushR_s]
    · rw [rE_n (by omega), same]
      simp (disch := omega) only [r72_0, r72_1, r72_4, r72_5, r72_8, r72_11, r72_12, r72_13, r72_16, r72_19, r72_21, r72_24, r72_25, r72_28, r72_29, r72_32, r72_33, r72_34, r72_37, r72_38, r72_39, r72_42, r72_46, r72_49, r72_50, r72_53, r72_54, r72_55, r72_58, r72_61, r72_64, r72_65, ↓if_pos, ↓if_neg]
theorem x_next (h : RB r) (hp : PB r p) (hQ : QX r I p) : ∃ J, call (d + 2) 72 [vR 21] I = some (some (vI (nC r p)), J) ∧ QX r J (nA r p) ∧ FrQ I J := by
  obtain ⟨hR, h7, h8, h3, hS⟩ := hQ
  have h40 := h.1
  have e1 := hR.1
  rw [en72]
  unfold nC nA
  by_cases hb : p.2.1 = -1
  · rw [if_pos hb, if_pos hb, x_blanks (d := d) h _ p.1 I (Nat.le_refl _) hp.1.1 hp.1.2 hR h7 (h8.trans hb)]
    have hc := x_chr (d := d) (I := mset I 21 7 (sk r p.1)) (i := sk r p.1) (hR.set (by omega)) h
    have h8' := h8.trans hb
    refine ⟨mset I 21 7 (sk r p.1), ?_, ⟨hR.set (by omega), by rw [mset_at, if_pos ⟨rfl, rfl⟩], by rw [mset_at, if_neg (by omega)]; exact h8, by rw [mset_at, if_neg (by omega)]; exact h3, SK.cong (fun i _ _ => by rw [mset_at, if_neg (by omega)]) hS⟩, fun a i h1 h2 => by rw [mset_at, if_neg (by omega)]⟩
    simp (disch := omega) only [r72_0, r72_1, r72_4, r72_5, r72_8, r72_11, r72_12, r72_13, r72_16, r72_19, r72_21, r72_24, r72_25, r72_28, r72_29, r72_32, r72_33, r72_34, r72_37, r72_38, r72_39, r72_42, r72_45, r72_46, r72_49, r72_50, r72_53, r72_54, r72_55, r72_58, r72_61, r72_64, r72_65, ↓if_pos, ↓if_neg, mset_at, h8', hc, Option.bind_some, pushR_s]
  · rw [if_neg hb, if_neg hb]
    refine ⟨I, ?_, ⟨hR, h7, h8, h3, hS⟩, FrQ.refl⟩
    have hc := fun i => x_chr (d := d) (I := I) (i := i) hR h
    by_cases hl : p.1 < r (-1)
    · by_cases h32 : chr r p.1 = 32 <;> simp (disch := omega) only [r72_0, r72_1, r72_4, r72_5, r72_8, r72_11, r72_12, r72_13, r72_16, r72_19, r72_21, r72_24, r72_25, r72_28, r72_29, r72_32, r72_33, r72_34, r72_37, r72_38, r72_39, r72_42, r72_45, r72_46, r72_49, r72_50, r72_53, r72_54, r72_55, r72_58, r72_61, r72_64, r72_65, ↓if_pos, ↓if_neg, h7, hc, Option.bind_some, pushR_s]
    · simp (disch := omega) only [r72_0, r72_1, r72_4, r72_5, r72_8, r72_11, r72_12, r72_13, r72_16, r72_19, r72_21, r72_24, r72_25, r72_28, r72_29, r72_32, r72_33, r72_34, r72_37, r72_38, r72_39, r72_42, r72_45, r72_46, r72_49, r72_50, r72_53, r72_54, r72_55, r72_58, r72_61, r72_64, r72_65, ↓if_pos, ↓if_neg, h7, hc, Option.bind_some, pushR_s]
def tkP (r : Int → Int) (c : Int) (p : PS) : PS := if nC r p = c then adv (nA r p) else nA r p
theorem tkP_b (h : RB r) (hp : PB r p) (hc : 0 ≤ c) : PB r (tkP r c p) := by
  unfold tkP; split
  · exact adv_b h hp (by omega)
  · exact nA_b h hp
theorem x_takes (h : RB r) (hp : PB r p) (hQ : QX r I p) (hc : 0 ≤ c) : ∃ J, call (d + 3) 73 [vR 21, vI c] I = some (some (vI (if nC r p = c then 1 else 0)), J) ∧ QX r J (tkP r c p) ∧ FrQ I J := by
  obtain ⟨J, c1, q1, f1⟩ := x_next (d := d) h hp hQ
  have h40 := h.1
  have hb := nA_b h hp
  rw [en73]
  unfold tkP
  by_cases he : nC r p = c
  · rw [if_pos he, if_pos he]
    obtain ⟨hR, h7, h8, h3, hS⟩ := q1
    have h7b := hb.1
    refine ⟨mset J 21 7 ((nA r p).1 + 1), ?_, ⟨hR.set (by omega), by rw [mset_at, if_pos ⟨rfl, rfl⟩]; rfl, by rw [mset_at, if_neg (by omega)]; exact h8, by rw [mset_at, if_neg (by omega)]; exact h3, SK.cong (fun i _ _ => by rw [mset_at, if_neg (by omega)]) hS⟩, f1.trans (fun a i h1 h2 => by rw [mset_at, if_neg (by omega)])⟩
    simp (disch := omega) only [r73_0, r73_1, r73_4, r73_5, r73_8, r73_9, r73_10, r73_11, r73_12, r73_15, r73_16, r73_17, r73_20, r73_21, ↓if_pos, ↓if_neg, c1, h7, iadd_eq, Option.bind_some, pushR_s]
  · rw [if_neg he, if_neg he]
    refine ⟨J, ?_, q1, f1⟩
    simp (disch := omega) only [r73_0, r73_1, r73_4, r73_5, r73_8, r73_9, r73_10, r73_11, r73_12, r73_15, r73_16, r73_17, r73_20, r73_21, ↓if_pos, ↓if_neg, c1, Option.bind_some, pushR_s]
theorem x_brk (h : RB r) (hp : PB r p) (hQ : QX r I p) (hk : 0 ≤ k ∧ k ≤ 9) : ∃ J, call (d + 1) 74 [vR 21, vI k] I = some (none, J) ∧ QX r J (brk k p) ∧ FrQ I J := by
  obtain ⟨hR, h7, h8, h3, hS⟩ := hQ
  have h40 := h.1
  have hb := hp.1
  rw [en74]
  unfold brk
  by_cases he : p.2.1 = -1
  · rw [if_pos he]
    have h8' := h8.trans he
    refine ⟨mset I 21 8 (10 * p.1 + k), ?_, ⟨hR.set (by omega), by rw [mset_at, if_neg (by omega)]; exact h7, by rw [mset_at, if_pos ⟨rfl, rfl⟩], by rw [mset_at, if_neg (by omega)]; exact h3, SK.cong (fun i _ _ => by rw [mset_at, if_neg (by omega)]) hS⟩, fun a i h1 h2 => by rw [mset_at, if_neg (by omega)]⟩
    simp (disch := omega) only [r74_0, r74_1, r74_4, r74_5, r74_8, r74_9, r74_11, r74_12, r74_15, r74_16, r74_17, r74_18, r74_21, ↓if_pos, ↓if_neg, h7, h8', imul_eq, iadd_eq]
  · rw [if_neg he]
    refine ⟨I, ?_, ⟨hR, h7, h8, h3, hS⟩, FrQ.refl⟩
    simp (disch := omega) only [r74_0, r74_1, r74_4, r74_5, r74_8, r74_9, r74_11, r74_12, r74_15, r74_16, r74_17, r74_18, r74_21, ↓if_pos, ↓if_neg, h8]
theorem x_emt (hp : PB r p) (hQ : QX r I p) : ∃ J, call (d + 1) 75 [vR 21, vI x] I = some (none, J) ∧ QX r J (emt x p) ∧ FrQ I J := by
  obtain ⟨hR, h7, h8, h3, hS⟩ := hQ
  have hb := hp.2.2
  rw [en75]
  unfold emt
  by_cases he : p.2.2.length < 40
  · rw [if_pos he]
    refine ⟨mset (mset I 23 p.2.2.length x) 21 3 (p.2.2.length + 1), ?_, ⟨?_, ?_, ?_, ?_, ?_, ?_⟩, fun a i h1 h2 => ?_⟩
    · simp (disch := omega) only [r75_0, r75_1, r75_4, r75_6, r75_9, r75_10, r75_13, r75_14, r75_17, r75_18, r75_19, r75_20, r75_21, r75_24, r75_25, r75_26, r75_29, ↓if_pos, ↓if_neg, h3, mset_at, iadd_eq]
    · exact hR.cong (by rw [mset_at, if_neg (by omega), mset_at, if_neg (by omega)]) (fun j => by rw [mset_at, if_neg (by omega), mset_at, if_neg (by omega)])
    · rw [mset_at, if_neg (by omega), mset_at, if_neg (by omega)]; exact h7
    · rw [mset_at, if_neg (by omega), mset_at, if_neg (by omega)]; exact h8
    · rw [mset_at, if_pos ⟨rfl, rfl⟩]; simp
    · rw [mset_at, if_neg (by omega), mset_at, if_pos ⟨rfl, rfl⟩]
    · exact SK.cong (fun i i0 i1 => by rw [mset_at, if_neg (by omega), mset_at, if_neg (by omega)]) hS
    · rw [mset_at, if_neg (by omega), mset_at, if_neg (by omega)]
  · rw [if_neg he]
    refine ⟨I, ?_, ⟨hR, h7, h8, h3, hS⟩, FrQ.refl⟩
    simp (disch := omega) only [r75_0, r75_1, r75_4, r75_6, r75_9, r75_10, r75_13, r75_14, r75_17, r75_18, r75_19, r75_20, r75_21, r75_24, r75_25, r75_26, r75_29, ↓if_pos, ↓if_neg, h3]
theorem x_isDigit : call (d + 1) 76 [vR 21, vI c] I = some (some (vI (if isF c = true then 1 else 0)), I) := by
  have e : isF c = true ↔ (48 ≤ c ∧ c ≤ 57) := ⟨of_decide_eq_true, decide_eq_true⟩
  rw [en76]
  by_cases h : 48 ≤ c ∧ c ≤ 57
  · rw [if_pos (e.mpr h)]
    simp (disch := omega) only [r76_0, r76_1, r76_3, r76_6, r76_7, r76_9, r76_12, r76_13, r76_16, r76_17, ↓if_pos, ↓if_neg]
  · rw [if_neg (fun z => h (e.mp z))]
    clear e
    by_cases h1 : c < 48 <;> simp (disch := omega) only [r76_0, r76_1, r76_3, r76_6, r76_7, r76_9, r76_12, r76_13, r76_16, r76_17, ↓if_pos, ↓if_neg]
def isS (c : Int) : Bool := decide (c = 97 ∨ c = 110 ∨ c = 99 ∨ c = 98 ∨ c = 107 ∨ c = 116)
theorem x_isSeen : call (d + 1) 77 [vR 21, vI c] I = some (some (vI (if isS c = true then 1 else 0)), I) := by
  have e : isS c = true ↔ (c = 97 ∨ c = 110 ∨ c = 99 ∨ c = 98 ∨ c = 107 ∨ c = 116) := ⟨of_decide_eq_true, decide_eq_true⟩
  rw [en77]
  by_cases h : c = 97 ∨ c = 110 ∨ c = 99 ∨ c = 98 ∨ c = 107 ∨ c = 116
  · rw [if_pos (e.mpr h)]
    clear e
    rcases h with rfl | rfl | rfl | rfl | rfl | rfl <;> simp (disch := omega) only [r77_0, r77_1, r77_3, r77_6, r77_7, r77_9, r77_12, r77_13, r77_15, r77_18, r77_19, r77_21, r77_24, r77_25, r77_27, r77_30, r77_31, r77_33, r77_36, r77_37, r77_40, r77_41, ↓if_pos, ↓if_neg]
  · rw [if_neg (fun z => h (e.mp z))]
    clear e
    simp (disch := omega) only [r77_0, r77_1, r77_3, r77_6, r77_7, r77_9, r77_12, r77_13, r77_15, r77_18, r77_19, r77_21, r77_24, r77_25, r77_27, r77_30, r77_31, r77_33, r77_36, r77_37, r77_40, r77_41, ↓if_pos, ↓if_neg]
end
