/-! row of the class. -/
def rowV (g : G) (c : Int) (p : Nat) (i : Int) : Int := qa (fq g p (Q0 c)) (anc (fq g p (Q0 c)) (qd (fq g p (Q0 c)) p - 1 - i).toNat p)
def RowR (s : ST) (i r : Int) : Prop := (i < 0 ∧ r = -10) ∨ (0 ≤ i ∧ fw (gg s) (cd s) ≤ i ∧ r = -5) ∨ (0 ≤ i ∧ i < fw (gg s) (cd s) ∧ ∃ p, PI (gg s) (cd s) p ∧ r = rowV (gg s) (cd s) p i)
theorem RowR.uniq {s : ST} {i r1 r2 : Int} (h1 : RowR s i r1) (h2 : RowR s i r2) : r1 = r2 := by
  rcases h1 with ⟨a, b⟩ | ⟨a, a2, b⟩ | ⟨a, a2, p, hp, b⟩ <;> rcases h2 with ⟨c, d⟩ | ⟨c, c2, d⟩ | ⟨c, c2, q, hq, d⟩ <;> try omega
  rw [b, d, hp.uniq hq]
def sRow (s : ST) (i : Int) : ST := if i < 0 then bump s 0 else s
theorem row_dec {c a : Int} (hc : 0 ≤ c ∧ c < 131072) (ha : 0 ≤ a ∧ a < 1024) : ishr (c * 1024 + a) 10 = c ∧ iand (c * 1024 + a) 1023 = a := by
  constructor
  · rw [ishr_i (by omega) (by omega), show (2 : Int) ^ (10 : Int).toNat = 1024 from rfl]; omega
  · rw [iand_1023 (by omega)]; omega
section
variable {d : Nat} {I J K : MM} {s : ST} {g : G} {a c w x y b v i m f : Int} {Q : List QE} {p : Nat}
theorem x_cameFromAt (hc : 0 ≤ c ∧ c < 131072) : call (d + 1) 86 [vR 27, vI c] I = some (some (vI (I 30 c)), I) := by
  rw [en86]
  simp (disch := omega) only [r86_0, r86_1, r86_4, r86_5, r86_6, r86_9, r86_10, r86_13, r86_14, r86_17, r86_18, r86_19, r86_22, r86_23, ↓if_pos, ↓if_neg]
theorem rowAct_loop (hI : QI g Q) (hH : HQ g Q p 0) (hp : p < Q.length) (hC : ∀ j : Nat, 0 < j → j ≤ p → I 30 (qc Q j) = qc Q (qp Q j).toNat * 1024 + qa Q j) (h73 : Q.length ≤ 131072) (hdp : qd Q p ≤ p) (hi : 0 ≤ i ∧ i < qd Q p) : ∀ (n t : Nat), (t : Int) + n = qd Q p - 1 - i → runs (call (d + 1)) 85 12 [vR 27, vI i, vI (qc Q (anc Q t p)), vI (qd Q p - 1 - t)] [] I = some (some (vI (qa Q (anc Q (qd Q p - 1 - i).toNat p))), I) := by
  intro n
  induction n with
  | zero =>
    intro t ht
    obtain ⟨d1, d2⟩ := anc_d hH hp t (by omega)
    have hpos := anc_pos hH hp (n := t) (by omega)
    obtain ⟨⟨q1, q2, q3, q4⟩, q5, q6, q7⟩ := hH.1 (anc Q t p) hpos (by omega)
    have hc1 := (hI.1 (anc Q t p) (by omega)).c
    have hc2 := (hI.1 (qp Q (anc Q t p)).toNat (by omega)).c
    have e30 := hC (anc Q t p) hpos d1
    obtain ⟨r1, r2⟩ := row_dec hc2 q5
    have et : (qd Q p - 1 - i).toNat = t := by omega
    rw [et]
    clear q6 hC
    simp (disch := omega) only [r85_0, r85_1, r85_4, r85_5, r85_6, r85_9, r85_10, r85_11, r85_12, r85_13, r85_14, r85_17, r85_18, r85_19, r85_22, r85_24, r85_25, r85_26, r85_29, r85_32, r85_33, r85_34, r85_37, r85_40, r85_41, ↓if_pos, ↓if_neg, x_cameFromAt, e30, r2, Option.bind_some, pushR_s]
  | succ n ih =>
    intro t ht
    push_cast at ht
    obtain ⟨d1, d2⟩ := anc_d hH hp t (by omega)
    have hpos := anc_pos hH hp (n := t) (by omega)
    obtain ⟨⟨q1, q2, q3, q4⟩, q5, q6, q7⟩ := hH.1 (anc Q t p) hpos (by omega)
    have hc1 := (hI.1 (anc Q t p) (by omega)).c
    have hc2 := (hI.1 (qp Q (anc Q t p)).toNat (by omega)).c
    have e30 := hC (anc Q t p) hpos d1
    obtain ⟨r1, r2⟩ := row_dec hc2 q5
    rw [← ih (t + 1) (by push_cast; omega), r85_12]
    have ea : anc Q (t + 1) p = (qp Q (anc Q t p)).toNat := rfl
    rw [ea]
    have e1 : qd Q p - 1 - ((t + 1 : Nat) : Int) = qd Q p - 1 - t + -1 := by push_cast; omega
    rw [e1]
    clear q6 hC
    simp (disch := omega) only [r85_0, r85_1, r85_4, r85_5, r85_6, r85_9, r85_10, r85_11, r85_13, r85_14, r85_17, r85_18, r85_19, r85_22, r85_24, r85_25, r85_26, r85_29, r85_32, r85_33, r85_34, r85_37, r85_40, r85_41, ↓if_pos, ↓if_neg, x_cameFromAt, e30, r1, iadd_eq, Option.bind_some, pushR_s]
theorem X_row (hX : XR I s) (hO : OK s) (hC : SCh I (gg s) (cd s)) (hm : SMk I m) (hm2 : m < 2147483645) : ∃ r, RowR s i r ∧ XSB (d + 8) 121 [vI i] I r (sRow s i) m := by
  unfold sRow
  by_cases h : i < 0
  · rw [if_pos h]
    refine ⟨-10, Or.inl ⟨h, rfl⟩, xbump I 0, ?_, hX.bump (by omega), fun a ha i => xbump_o (fun q => ha (by simp [q])) i, hC.bump, hm.bump.mono⟩
    rw [en121]
    simp (disch := omega) only [r121_0, r121_1, r121_4, r121_5, r121_7, r121_9, r121_12, r121_13, r121_14, r121_17, r121_18, r121_21, r121_24, r121_25, r121_26, r121_27, r121_30, r121_31, r121_34, r121_35, r121_38, r121_41, r121_43, ↓if_pos, ↓if_neg, x_bad, Option.bind_some, pushR_s]
  · rw [if_neg h]
    obtain ⟨J, j1, j2, j3, j4, j5, j6, j7⟩ := x_rowLength (d := d) hX hO hC hm hm2
    by_cases hl : i < fw (gg s) (cd s)
    · rcases j7 with j7 | ⟨p, hp, hf, h9, hP, hcf⟩
      · omega
      · have hall := hp.all hO.W hO.V
        have hH := HQ.fq (g := gg s) (c := cd s) p (fun j hj => hp.1 j (by omega))
        have hpl := hp.1 p (Nat.le_refl p)
        have hlen := hall.2.1.len
        have hdp := hall.2.2 p hpl
        have hrow := rowAct_loop (d := d + 5) (I := J) (i := i) hall.2.1 hH hpl hcf hlen hdp.2 ⟨by omega, by omega⟩ (qd (fq (gg s) p (Q0 (cd s))) p - 1 - i).toNat 0 (by omega)
        refine ⟨rowV (gg s) (cd s) p i, Or.inr (Or.inr ⟨by omega, hl, p, hp, rfl⟩), J, ?_, j2, j3.mono (by simp), j4, j5⟩
        have hA : call (d + 7) 85 [vR 27, vI i] J = some (some (vI (rowV (gg s) (cd s) p i)), J) := by
          rw [en85]
          have e0 : anc (fq (gg s) p (Q0 (cd s))) 0 p = p := rfl
          rw [e0] at hrow
          have e1 : qd (fq (gg s) p (Q0 (cd s))) p - 1 - ((0 : Nat) : Int) = fw (gg s) (cd s) - 1 := by rw [hf]; simp
          rw [e1] at hrow
          have hb : fw (gg s) (cd s) ≤ 131072 := by omega
          rw [rowV, ← hrow]
          clear hrow hcf hH
          simp (disch := omega) only [r85_0, r85_1, r85_4, r85_5, r85_6, r85_9, r85_10, r85_11, r85_13, r85_14, r85_17, r85_18, r85_19, r85_22, r85_24, r85_25, r85_26, r85_29, r85_32, r85_33, r85_34, r85_37, r85_40, r85_41, ↓if_pos, ↓if_neg, h9, j6, isub_eq]
        rw [en121]
        simp (disch := omega) only [r121_0, r121_1, r121_4, r121_5, r121_7, r121_9, r121_12, r121_13, r121_14, r121_17, r121_18, r121_21, r121_24, r121_25, r121_26, r121_27, r121_30, r121_31, r121_34, r121_35, r121_38, r121_41, r121_43, ↓if_pos, ↓if_neg, j1, hA, Option.bind_some, pushR_s]
    · refine ⟨-5, Or.inr (Or.inl ⟨by omega, by omega, rfl⟩), J, ?_, j2, j3.mono (by simp), j4, j5⟩
      rw [en121]
      simp (disch := omega) only [r121_0, r121_1, r121_4, r121_5, r121_7, r121_9, r121_12, r121_13, r121_14, r121_17, r121_18, r121_21, r121_24, r121_25, r121_26, r121_27, r121_30, r121_31, r121_34, r121_35, r121_38, r121_41, r121_43, ↓if_pos, ↓if_neg, j1, Option.bind_some, pushR_s]
end
