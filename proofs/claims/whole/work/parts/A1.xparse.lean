/-! The rule of the class: numbers, a core, a unit. -/
def dig (r : Int → Int) : Nat → Int → Int → Int × Int
  | 0, a, n => (a, n)
  | f + 1, a, n => if isF (chr r a) = true then dig r f (a + 1) (10 * n + chr r a - 48) else (a, n)
def pNum (r : Int → Int) (p : PS) : PS := if isF (chr r (dig r 6 p.1 0).1) = true then emt (dig r 6 p.1 0).2 (brk 2 p) else emt (dig r 6 p.1 0).2 ((dig r 6 p.1 0).1, p.2)
def pCore (r : Int → Int) (o : Int) (V : PS → PS) (p : PS) : PS :=
  if isF (nC r p) = true then pNum r (nA r p)
  else if isS (nC r p) = true then emt (-(nC r p)) (adv (nA r p))
  else if nC r p = 40 then (if 8 ≤ o then brk 3 (nA r p) else if nC r (V (adv (nA r p))) = 41 then adv (nA r (V (adv (nA r p)))) else brk 1 (nA r (V (adv (nA r p)))))
  else brk 1 (nA r p)
/-- the signs ahead of a unit -/
def sgE (r : Int → Int) : Nat → PS → PS
  | 0, p => p
  | f + 1, p => if nC r p = 33 ∨ nC r p = 45 then sgE r f (adv (nA r p)) else nA r p
def emS (c : Int) (q : PS) : PS := if c = 33 then emt (-33) q else if c = 45 then emt (-126) q else q
/-- they are told, the nearest first -/
def sgO (r : Int → Int) (lo : Int) : Nat → PS → PS
  | 0, q => q
  | f + 1, q => sgO r lo f (emS (chr r (lo + f)) q)
def pUnit (r : Int → Int) (o : Int) (V : PS → PS) (p : PS) : PS := sgO r p.1 ((sgE r 40 p).1 - p.1).toNat (pCore r o V (sgE r 40 p))
def XP (r : Int → Int) (D z : Nat) (args : List AV) (F : PS → PS) : Prop := ∀ (p : PS) (I : MM), PB r p → QX r I p → ∃ J, call D z (vR 21 :: args) I = some (none, J) ∧ PB r (F p) ∧ QX r J (F p) ∧ FrQ I J
def bnd : Nat → Int
  | 0 => 999999
  | 1 => 99999
  | 2 => 9999
  | 3 => 999
  | 4 => 99
  | 5 => 9
  | _ => 0
section
variable {d : Nat} {I J K : MM} {r : Int → Int} {p : PS} {c i k x a n o : Int} {V : PS → PS}
theorem rE_stop {P : Int → Bool} {t : Int → Int} {n : Int} : ∀ (f : Nat) (k : Int), (n - k).toNat ≤ f → ¬ (rE P t n k < n ∧ P (t (rE P t n k)) = true) := by
  intro f
  induction f with
  | zero => intro k hf; rw [rE_n (by omega)]; omega
  | succ f ih =>
    intro k hf
    by_cases h : k < n ∧ P (t k) = true
    · rw [rE_y h.1 h.2]; exact ih (k + 1) (by omega)
    · rw [rE_n h]; exact h
theorem sk_sk : sk r (sk r k) = sk r k := rE_n (rE_stop _ k (Nat.le_refl _))
theorem nA_nA : nA r (nA r p) = nA r p := by
  unfold nA
  by_cases h : p.2.1 = -1
  · rw [if_pos h, if_pos h]; simp only [sk_sk]
  · rw [if_neg h, if_neg h]
theorem nC_nA : nC r (nA r p) = nC r p := by
  unfold nC nA
  by_cases h : p.2.1 = -1
  · rw [if_pos h, if_pos h, if_pos h]; simp only [sk_sk]
  · rw [if_neg h, if_neg h]
theorem tkP_y (h : nC r p = c) : tkP r c (nA r p) = adv (nA r p) := by unfold tkP; rw [nC_nA, if_pos h, nA_nA]
theorem tkP_n (h : nC r p ≠ c) : tkP r c (nA r p) = nA r p := by unfold tkP; rw [nC_nA, if_neg h, nA_nA]
theorem tkP_y' (h : nC r p = c) : tkP r c p = adv (nA r p) := by unfold tkP; rw [if_pos h]
theorem tkP_n' (h : nC r p ≠ c) : tkP r c p = nA r p := by unfold tkP; rw [if_neg h]
theorem isF_b (h : isF c = true) : 48 ≤ c ∧ c ≤ 57 := of_decide_eq_true h
theorem dig_b (h : RB r) : ∀ (f : Nat) (a n : Int), f ≤ 6 → (0 ≤ a ∧ a ≤ r (-1)) → 0 ≤ n ∧ n ≤ bnd f → (a ≤ (dig r f a n).1 ∧ (dig r f a n).1 ≤ r (-1)) ∧ 0 ≤ (dig r f a n).2 ∧ (dig r f a n).2 ≤ 999999 := by
  intro f
  induction f with
  | zero => intro a n hf ha hn; exact ⟨⟨Int.le_refl _, ha.2⟩, hn⟩
  | succ f ih =>
    intro a n hf ha hn
    have hb : n ≤ 99999 ∧ 10 * n + 9 ≤ bnd f := by
      have : f = 0 ∨ f = 1 ∨ f = 2 ∨ f = 3 ∨ f = 4 ∨ f = 5 := by omega
      rcases this with rfl | rfl | rfl | rfl | rfl | rfl <;> simp only [bnd] at * <;> omega
    rw [dig]
    split
    · rename_i z
      have h9 := isF_b z
      have hc := chr_in (r := r) (i := a) (by omega)
      obtain ⟨h1, h2⟩ := ih (a + 1) (10 * n + chr r a - 48) (by omega) (by omega) (by omega)
      exact ⟨⟨by omega, h1.2⟩, h2⟩
    · exact ⟨⟨Int.le_refl _, ha.2⟩, hn.1, by show n ≤ 999999; omega⟩
theorem QX.at (hQ : QX r J p) (h : 0 = 0) : QX r (mset J 21 7 a) (a, p.2) := by
  obtain ⟨hR, h7, h8, h3, hS⟩ := hQ
  exact ⟨hR.set (by omega), by rw [mset_at, if_pos ⟨rfl, rfl⟩], by rw [mset_at, if_neg (by omega)]; exact h8, by rw [mset_at, if_neg (by omega)]; exact h3, SK.cong (fun i _ _ => by rw [mset_at, if_neg (by omega)]) hS⟩
theorem FrQ.at : FrQ J (mset J 21 7 a) := fun b i h1 h2 => by rw [mset_at, if_neg (by omega)]
theorem x_dig (h : RB r) (b : Int × List Int) (u : Int) : ∀ (f : Nat) (i a n : Int) (J : MM), 0 ≤ i → i + f = 6 → (0 ≤ a ∧ a ≤ r (-1)) → 0 ≤ n ∧ n ≤ bnd f → QX r J (a, b) → ∃ K i', runs (call (d + 1)) 70 9 [vR 21, vI u, vI n, vI i] [] J = runs (call (d + 1)) 70 63 [vR 21, vI u, vI (dig r f a n).2, vI i'] [] K ∧ QX r K ((dig r f a n).1, b) ∧ FrQ J K := by
  intro f
  induction f with
  | zero =>
    intro i a n J i0 hi ha hn hQ
    refine ⟨J, i, ?_, hQ, FrQ.refl⟩
    simp (disch := omega) only [r70_0, r70_1, r70_4, r70_5, r70_6, r70_7, r70_8, r70_9, r70_10, r70_12, r70_15, r70_16, r70_17, r70_18, r70_21, r70_24, r70_27, r70_30, r70_32, r70_33, r70_34, r70_35, r70_36, r70_39, r70_42, r70_43, r70_45, r70_46, r70_47, r70_48, r70_49, r70_52, r70_53, r70_54, r70_57, r70_60, r70_64, r70_65, r70_66, r70_69, r70_72, r70_75, r70_78, r70_79, r70_80, r70_83, r70_84, r70_85, r70_88, r70_89, r70_90, r70_93, ↓if_pos, ↓if_neg, dig]
  | succ f ih =>
    intro i a n J i0 hi ha hn hQ
    have hb : n ≤ 99999 ∧ 10 * n + 9 ≤ bnd f := by
      have : f = 0 ∨ f = 1 ∨ f = 2 ∨ f = 3 ∨ f = 4 ∨ f = 5 := by omega
      rcases this with rfl | rfl | rfl | rfl | rfl | rfl <;> simp only [bnd] at * <;> omega
    have hc := x_chr (d := d) (i := a) hQ.1 h
    have h7 : J 21 7 = a := hQ.2.1
    have h40 := h.1
    rw [dig]
    by_cases hd : isF (chr r a) = true
    · rw [if_pos hd]
      have h9 := isF_b hd
      have hin := chr_in (r := r) (i := a) (by omega)
      have hdd := x_isDigit (d := d) (I := J) (c := chr r a)
      rw [if_pos hd] at hdd
      obtain ⟨K, i', c1, q1, f1⟩ := ih (i + 1) (a + 1) (10 * n + chr r a - 48) (mset J 21 7 (a + 1)) (by omega) (by omega) (by omega) (by omega) (hQ.at rfl)
      refine ⟨K, i', ?_, q1, FrQ.at.trans f1⟩
      rw [← c1, r70_9]
      generalize chr r a = ch at *
      simp (disch := omega) only [r70_0, r70_1, r70_4, r70_5, r70_6, r70_7, r70_8, r70_10, r70_12, r70_15, r70_16, r70_17, r70_18, r70_21, r70_24, r70_27, r70_30, r70_32, r70_33, r70_34, r70_35, r70_36, r70_39, r70_42, r70_43, r70_45, r70_46, r70_47, r70_48, r70_49, r70_52, r70_53, r70_54, r70_57, r70_60, r70_64, r70_65, r70_66, r70_69, r70_72, r70_75, r70_78, r70_79, r70_80, r70_83, r70_84, r70_85, r70_88, r70_89, r70_90, r70_93, ↓if_pos, ↓if_neg, h7, hc, hdd, imul_eq, iadd_eq, isub_eq, Option.bind_some, pushR_s]
    · rw [if_neg hd]
      have hdd := x_isDigit (d := d) (I := J) (c := chr r a)
      rw [if_neg hd] at hdd
      refine ⟨J, i, ?_, hQ, FrQ.refl⟩
      simp (disch := omega) only [r70_0, r70_1, r70_4, r70_5, r70_6, r70_7, r70_8, r70_9, r70_10, r70_12, r70_15, r70_16, r70_17, r70_18, r70_21, r70_24, r70_27, r70_30, r70_32, r70_33, r70_34, r70_35, r70_36, r70_39, r70_42, r70_43, r70_45, r70_46, r70_47, r70_48, r70_49, r70_52, r70_53, r70_54, r70_57, r70_60, r70_64, r70_65, r70_66, r70_69, r70_72, r70_75, r70_78, r70_79, r70_80, r70_83, r70_84, r70_85, r70_88, r70_89, r70_90, r70_93, ↓if_pos, ↓if_neg, h7, hc, hdd, Option.bind_some, pushR_s]
theorem x_pNum (h : RB r) : XP r (d + 2) 70 [] (pNum r) := by
  intro p I hp hQ
  have h7 := hQ.2.1
  obtain ⟨K, i', c1, q1, f1⟩ := x_dig (d := d) h p.2 p.1 6 0 p.1 0 I (by omega) (by omega) hp.1 (by simp [bnd]) hQ
  have hb := dig_b h 6 p.1 0 (by omega) hp.1 (by simp [bnd])
  unfold pNum
  generalize dig r 6 p.1 0 = q at *
  have hc := x_chr (d := d) (i := q.1) q1.1 h
  have hdd := x_isDigit (d := d) (I := K) (c := chr r q.1)
  have k7 : K 21 7 = q.1 := q1.2.1
  have hgo : call (d + 2) 70 [vR 21] I = runs (call (d + 1)) 70 63 [vR 21, vI p.1, vI q.2, vI i'] [] K := by
    rw [← c1, en70]
    simp (disch := omega) only [r70_0, r70_1, r70_4, r70_5, r70_6, r70_7, r70_8, r70_10, r70_12, r70_15, r70_16, r70_17, r70_18, r70_21, r70_24, r70_27, r70_30, r70_32, r70_33, r70_34, r70_35, r70_36, r70_39, r70_42, r70_43, r70_45, r70_46, r70_47, r70_48, r70_49, r70_52, r70_53, r70_54, r70_57, r70_60, r70_63, r70_64, r70_65, r70_66, r70_69, r70_72, r70_75, r70_78, r70_79, r70_80, r70_83, r70_84, r70_85, r70_88, r70_89, r70_90, r70_93, h7]
  by_cases hd : isF (chr r q.1) = true
  · rw [if_pos hd] at hdd ⊢
    have qa : QX r (mset K 21 7 p.1) (p.1, p.2) := q1.at rfl
    have hpp : PB r (p.1, p.2) := hp
    obtain ⟨K2, c2, q2, f2⟩ := x_brk (d := d) (k := 2) h hpp qa (by omega)
    have hb2 : PB r (brk 2 (p.1, p.2)) := brk_b hpp (by omega)
    obtain ⟨K3, c3, q3, f3⟩ := x_emt (d := d) (x := q.2) hb2 q2
    refine ⟨K3, ?_, emt_b hb2, q3, ((f1.trans FrQ.at).trans f2).trans f3⟩
    rw [hgo]
    simp (disch := omega) only [r70_0, r70_1, r70_4, r70_5, r70_6, r70_7, r70_8, r70_10, r70_12, r70_15, r70_16, r70_17, r70_18, r70_21, r70_24, r70_27, r70_30, r70_32, r70_33, r70_34, r70_35, r70_36, r70_39, r70_42, r70_43, r70_45, r70_46, r70_47, r70_48, r70_49, r70_52, r70_53, r70_54, r70_57, r70_60, r70_63, r70_64, r70_65, r70_66, r70_69, r70_72, r70_75, r70_78, r70_79, r70_80, r70_83, r70_84, r70_85, r70_88, r70_89, r70_90, r70_93, ↓if_pos, ↓if_neg, k7, hc, hdd, c2, c3, Option.bind_some, pushR_s, pushR_n]
  · rw [if_neg hd] at hdd ⊢
    have hb2 : PB r (q.1, p.2) := ⟨⟨by show 0 ≤ q.1; have := hp.1; omega, hb.1.2⟩, hp.2⟩
    obtain ⟨K3, c3, q3, f3⟩ := x_emt (d := d) (x := q.2) hb2 q1
    refine ⟨K3, ?_, emt_b hb2, q3, f1.trans f3⟩
    rw [hgo]
    simp (disch := omega) only [r70_0, r70_1, r70_4, r70_5, r70_6, r70_7, r70_8, r70_10, r70_12, r70_15, r70_16, r70_17, r70_18, r70_21, r70_24, r70_27, r70_30, r70_32, r70_33, r70_34, r70_35, r70_36, r70_39, r70_42, r70_43, r70_45, r70_46, r70_47, r70_48, r70_49, r70_52, r70_53, r70_54, r70_57, r70_60, r70_63, r70_64, r70_65, r70_66, r70_69, r70_72, r70_75, r70_78, r70_79, r70_80, r70_83, r70_84, r70_85, r70_88, r70_89, r70_90, r70_93, ↓if_pos, ↓if_neg, k7, hc, hdd, c3, Option.bind_some, pushR_s, pushR_n]
theorem x_core {e : Nat} (h : RB r) (ho : 0 ≤ o ∧ o ≤ 8) (hV : o < 8 → XP r (e + 3) 63 [vI (o + 1)] V) : XP r (e + 4) 69 [vI o] (pCore r o V) := by
  intro p I hp hQ
  obtain ⟨J, c1, q1, f1⟩ := x_next (d := e + 1) h hp hQ
  have hb := nA_b h hp
  have hd := x_isDigit (d := e + 2) (I := J) (c := nC r p)
  have hs := x_isSeen (d := e + 2) (I := J) (c := nC r p)
  have hcb := nC_b (p := p) h
  unfold pCore
  by_cases h1 : isF (nC r p) = true
  · rw [if_pos h1] at hd ⊢
    obtain ⟨K, c2, b2, q2, f2⟩ := x_pNum (d := e + 1) h _ J hb q1
    refine ⟨K, ?_, b2, q2, f1.trans f2⟩
    rw [en69]
    simp (disch := omega) only [r69_0, r69_1, r69_4, r69_5, r69_6, r69_7, r69_10, r69_13, r69_14, r69_17, r69_20, r69_21, r69_22, r69_25, r69_28, r69_29, r69_30, r69_33, r69_34, r69_35, r69_36, r69_37, r69_40, r69_43, r69_44, r69_46, r69_49, r69_50, r69_52, r69_55, r69_56, r69_57, r69_60, r69_63, r69_64, r69_66, r69_69, r69_72, r69_73, r69_74, r69_75, r69_76, r69_79, r69_80, r69_82, r69_85, r69_88, r69_89, r69_90, r69_93, r69_96, r69_97, r69_98, r69_101, ↓if_pos, ↓if_neg, c1, hd, c2, Option.bind_some, pushR_s, pushR_n]
  · rw [if_neg h1] at hd ⊢
    by_cases h2 : isS (nC r p) = true
    · rw [if_pos h2] at hs ⊢
      have hc0 : nC r p = 97 ∨ nC r p = 110 ∨ nC r p = 99 ∨ nC r p = 98 ∨ nC r p = 107 ∨ nC r p = 116 := of_decide_eq_true h2
      obtain ⟨K, c2, q2, f2⟩ := x_takes (d := e) (c := nC r p) h hb q1 (by omega)
      rw [nC_nA, if_pos rfl] at c2
      rw [tkP_y rfl] at q2
      have hb2 := adv_b h hp (by omega)
      obtain ⟨K3, c3, q3, f3⟩ := x_emt (d := e + 2) (x := -(nC r p)) hb2 q2
      refine ⟨K3, ?_, emt_b hb2, q3, (f1.trans f2).trans f3⟩
      have en : ineg (nC r p) = -(nC r p) := ineg_eq (by omega)
      rw [en69]
      clear hc0 q1 q2 q3 hQ
      simp (disch := omega) only [r69_0, r69_1, r69_4, r69_5, r69_6, r69_7, r69_10, r69_13, r69_14, r69_17, r69_20, r69_21, r69_22, r69_25, r69_28, r69_29, r69_30, r69_33, r69_34, r69_35, r69_36, r69_37, r69_40, r69_43, r69_44, r69_46, r69_49, r69_50, r69_52, r69_55, r69_56, r69_57, r69_60, r69_63, r69_64, r69_66, r69_69, r69_72, r69_73, r69_74, r69_75, r69_76, r69_79, r69_80, r69_82, r69_85, r69_88, r69_89, r69_90, r69_93, r69_96, r69_97, r69_98, r69_101, ↓if_pos, ↓if_neg, c1, hd, hs, c2, en, c3, Option.bind_some, pushR_s, pushR_n]
    · rw [if_neg h2] at hs ⊢
      by_cases h3 : nC r p = 40
      · rw [if_pos h3]
        by_cases h4 : 8 ≤ o
        · rw [if_pos h4]
          obtain ⟨K, c2, q2, f2⟩ := x_brk (d := e + 2) (k := 3) h hb q1 (by omega)
          refine ⟨K, ?_, brk_b hb (by omega), q2, f1.trans f2⟩
          rw [en69]
          simp (disch := omega) only [r69_0, r69_1, r69_4, r69_5, r69_6, r69_7, r69_10, r69_13, r69_14, r69_17, r69_20, r69_21, r69_22, r69_25, r69_28, r69_29, r69_30, r69_33, r69_34, r69_35, r69_36, r69_37, r69_40, r69_43, r69_44, r69_46, r69_49, r69_50, r69_52, r69_55, r69_56, r69_57, r69_60, r69_63, r69_64, r69_66, r69_69, r69_72, r69_73, r69_74, r69_75, r69_76, r69_79, r69_80, r69_82, r69_85, r69_88, r69_89, r69_90, r69_93, r69_96, r69_97, r69_98, r69_101, ↓if_pos, ↓if_neg, c1, hd, hs, c2, Option.bind_some, pushR_s, pushR_n]
        · rw [if_neg h4]
          obtain ⟨K, c2, q2, f2⟩ := x_takes (d := e) (c := 40) h hb q1 (by omega)
          rw [nC_nA, if_pos h3] at c2
          rw [tkP_y h3] at q2
          have hb2 := adv_b h hp (by omega)
          obtain ⟨K3, c3, b3, q3, f3⟩ := hV (by omega) _ K hb2 q2
          generalize V (adv (nA r p)) = w at *
          obtain ⟨K4, c4, q4, f4⟩ := x_takes (d := e) (c := 41) h b3 q3 (by omega)
          by_cases h5 : nC r w = 41
          · rw [if_pos h5] at c4 ⊢
            rw [tkP_y' h5] at q4
            refine ⟨K4, ?_, adv_b h b3 (by omega), q4, ((f1.trans f2).trans f3).trans f4⟩
            rw [en69]
            clear q1 q2 q3 q4 hQ
            simp (disch := omega) only [r69_0, r69_1, r69_4, r69_5, r69_6, r69_7, r69_10, r69_13, r69_14, r69_17, r69_20, r69_21, r69_22, r69_25, r69_28, r69_29, r69_30, r69_33, r69_34, r69_35, r69_36, r69_37, r69_40, r69_43, r69_44, r69_46, r69_49, r69_50, r69_52, r69_55, r69_56, r69_57, r69_60, r69_63, r69_64, r69_66, r69_69, r69_72, r69_73, r69_74, r69_75, r69_76, r69_79, r69_80, r69_82, r69_85, r69_88, r69_89, r69_90, r69_93, r69_96, r69_97, r69_98, r69_101, ↓if_pos, ↓if_neg, c1, hd, hs, c2, c3, c4, iadd_eq, Option.bind_some, pushR_s, pushR_n]
          · rw [if_neg h5] at c4 ⊢
            rw [tkP_n' h5] at q4
            have hb5 := nA_b h b3
            obtain ⟨K5, c5, q5, f5⟩ := x_brk (d := e + 2) (k := 1) h hb5 q4 (by omega)
            refine ⟨K5, ?_, brk_b hb5 (by omega), q5, (((f1.trans f2).trans f3).trans f4).trans f5⟩
            rw [en69]
            clear q1 q2 q3 q4 hQ
            simp (disch := omega) only [r69_0, r69_1, r69_4, r69_5, r69_6, r69_7, r69_10, r69_13, r69_14, r69_17, r69_20, r69_21, r69_22, r69_25, r69_28, r69_29, r69_30, r69_33, r69_34, r69_35, r69_36, r69_37, r69_40, r69_43, r69_44, r69_46, r69_49, r69_50, r69_52, r69_55, r69_56, r69_57, r69_60, r69_63, r69_64, r69_66, r69_69, r69_72, r69_73, r69_74, r69_75, r69_76, r69_79, r69_80, r69_82, r69_85, r69_88, r69_89, r69_90, r69_93, r69_96, r69_97, r69_98, r69_101, ↓if_pos, ↓if_neg, c1, hd, hs, c2, c3, c4, c5, iadd_eq, Option.bind_some, pushR_s, pushR_n]
      · rw [if_neg h3]
        obtain ⟨K, c2, q2, f2⟩ := x_takes (d := e) (c := 40) h hb q1 (by omega)
        rw [nC_nA, if_neg h3] at c2
        rw [tkP_n h3] at q2
        obtain ⟨K5, c5, q5, f5⟩ := x_brk (d := e + 2) (k := 1) h hb q2 (by omega)
        refine ⟨K5, ?_, brk_b hb (by omega), q5, (f1.trans f2).trans f5⟩
        rw [en69]
        clear q1 q2 q5 hQ
        simp (disch := omega) only [r69_0, r69_1, r69_4, r69_5, r69_6, r69_7, r69_10, r69_13, r69_14, r69_17, r69_20, r69_21, r69_22, r69_25, r69_28, r69_29, r69_30, r69_33, r69_34, r69_35, r69_36, r69_37, r69_40, r69_43, r69_44, r69_46, r69_49, r69_50, r69_52, r69_55, r69_56, r69_57, r69_60, r69_63, r69_64, r69_66, r69_69, r69_72, r69_73, r69_74, r69_75, r69_76, r69_79, r69_80, r69_82, r69_85, r69_88, r69_89, r69_90, r69_93, r69_96, r69_97, r69_98, r69_101, ↓if_pos, ↓if_neg, c1, hd, hs, c2, c5, Option.bind_some, pushR_s, pushR_n]
end
