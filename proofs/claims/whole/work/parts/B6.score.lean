/-! The rule: a core, a unit, in both. -/
/-- the signs that stand from lo on, the farthest first -/
def sg1 (c : Int) : List Int := if c = 33 then [1001] else if c = 45 then [1002] else []
def sgL (r : Int → Int) (lo : Int) : Nat → List Int
  | 0 => []
  | f + 1 => sg1 (chr r (lo + f)) ++ sgL r lo f
def emU (q : PS) (u : Int) : PS := emt (if u = 1001 then -33 else -126) q
section
variable {r L : Int → Int} {c i x a b n o v l m s y1 y2 lo : Int} {V S V1 S1 X st us : List Int} {p q : PS} {k : Nat} {F : PS → PS}
theorem dig_gt (hc : isF (chr r a) = true) (h : RB r) (ha : 0 ≤ a ∧ a ≤ r (-1)) : a < (dig r 6 a 0).1 := by
  have h9 := isF_b hc
  have hin := chr_in (r := r) (i := a) (by omega)
  rw [dig, if_pos hc]
  have := dig_b h 5 (a + 1) (10 * 0 + chr r a - 48) (by omega) (by omega) (by simp [bnd]; omega)
  omega
theorem s_core (h : RB r) (ho : 0 ≤ o ∧ o ≤ 8) (hF : o < 8 → SIM r L 1 (o + 1) F) (hp : PB r p) (hb : p.2.1 = -1) (ha : 0 ≤ a ∧ a ≤ r (-1)) (hs : sk r a = sk r p.1) (hl : (V.length : Int) ≤ p.1 ∧ (S.length : Int) ≤ p.1 ∧ (p.2.2.length : Int) + k ≤ p.1) (h33 : ¬ (nC r p = 33 ∨ nC r p = 45)) : PB r (pCore r o F p) ∧ ((pCore r o F p).2.1 = -1 → p.1 < (pCore r o F p).1 ∧ ∃ a' v, RUN r L (a, -1, V, S, o, 1, 1) (a', -1, (stU S v).1 :: V, (stU S v).2, o, 0, 1) ∧ (0 ≤ a' ∧ a' ≤ r (-1)) ∧ sk r a' = sk r (pCore r o F p).1 ∧ evU L (pCore r o F p).2.2 = v :: evU L p.2.2 ∧ ((pCore r o F p).2.2.length : Int) + k ≤ (pCore r o F p).1) ∧ ((pCore r o F p).2.1 ≠ -1 → BRc r L (a, -1, V, S, o, 1, 1) (pCore r o F p).2.1) := by
  have h40 := h.1
  have hp1 := hp.1
  have hsb := sk_b (t := r) hp.1
  have hA := nA_b h hp
  have e1 : (nA r p).1 = sk r p.1 := nA_sk hb
  have e2 : (nA r p).2 = p.2 := nA_2
  have ec : nC r p = chr r (sk r a) := by rw [nC_sk hb, hs]
  have lV : V.length ≤ 50 := by omega
  have lS : S.length ≤ 100 := by omega
  have hcb : -1 ≤ nC r p ∧ nC r p < 128 := nC_b h
  unfold pCore
  by_cases h1 : isF (nC r p) = true
  · rw [if_pos h1]
    have h9 := isF_b h1
    have hin := (nC_in (r := r) (p := p) (by omega)).2.1
    have hR := u_num (r := r) (L := L) (o := o) h ha lV lS (by rw [← ec]; exact h1)
    rw [hs] at hR
    unfold pNum
    rw [e1]
    rw [ec, hs] at h1
    have hdb := dig_b h 6 (sk r p.1) 0 (by omega) ⟨by omega, hsb.2⟩ (by simp [bnd])
    have hgt := dig_gt h1 h ⟨by omega, hsb.2⟩
    generalize dig r 6 (sk r p.1) 0 = D at *
    by_cases hd : isF (chr r D.1) = true
    · rw [if_pos hd]
      rw [if_pos hd, if_pos hd] at hR
      have hbk : (brk 2 (nA r p)).2.1 = 10 * sk r p.1 + 2 := by
        unfold brk; rw [if_pos (by rw [e2]; exact hb)]; show 10 * (nA r p).1 + 2 = _; rw [e1]
      refine ⟨emt_b (brk_b hA (by omega)), fun z => ?_, fun _ => ?_⟩
      · rw [emt_21, hbk] at z; omega
      · rw [emt_21, hbk]
        exact ⟨_, _, _, _, _, hR⟩
    · rw [if_neg hd]
      rw [if_neg hd, if_neg hd] at hR
      have hb2 : PB r (D.1, (nA r p).2) := ⟨⟨by show 0 ≤ D.1; omega, hdb.1.2⟩, hA.2⟩
      have h22 : (emt D.2 (D.1, (nA r p).2)).2.2 = D.2 :: p.2.2 := by
        rw [emt_22 (by show (nA r p).2.2.length < 40; rw [e2]; omega)]
        show D.2 :: (nA r p).2.2 = _
        rw [e2]
      refine ⟨emt_b hb2, fun _ => ?_, fun z => ?_⟩
      · rw [emt_1, h22]
        refine ⟨by show p.1 < D.1; omega, D.1, D.2, hR, ⟨by omega, hdb.1.2⟩, rfl, ?_, ?_⟩
        · rw [evU]; unfold apU; rw [if_pos hdb.2.1]
        · show ((D.2 :: p.2.2).length : Int) + k ≤ D.1
          simp only [List.length_cons]; omega
      · rw [emt_21] at z
        exact absurd (show (nA r p).2.1 = -1 by rw [e2]; exact hb) z
  · rw [if_neg h1]
    by_cases h2 : isS (nC r p) = true
    · rw [if_pos h2]
      have hc0 : nC r p = 97 ∨ nC r p = 110 ∨ nC r p = 99 ∨ nC r p = 98 ∨ nC r p = 107 ∨ nC r p = 116 := of_decide_eq_true h2
      have hin := (nC_in (r := r) (p := p) (by omega)).2.1
      have hR := u_seen (r := r) (L := L) (o := o) h ha lV lS (by rw [← ec]; exact h2)
      rw [← ec, hs] at hR
      have hb2 := adv_b h hp (by omega)
      have h22 : (emt (-(nC r p)) (adv (nA r p))).2.2 = -(nC r p) :: p.2.2 := by
        rw [emt_22 (by show (nA r p).2.2.length < 40; rw [e2]; omega)]
        show _ :: (nA r p).2.2 = _
        rw [e2]
      have e3 : (adv (nA r p)).1 = sk r p.1 + 1 := by show (nA r p).1 + 1 = _; rw [e1]
      refine ⟨emt_b hb2, fun _ => ?_, fun z => ?_⟩
      · rw [emt_1, h22, e3]
        refine ⟨by omega, sk r p.1 + 1, L (nC r p), hR, ⟨by omega, by omega⟩, rfl, ?_, ?_⟩
        · rw [evU]; unfold apU
          have e : ineg (-(nC r p)) = nC r p := by rw [ineg_eq (by omega)]; omega
          rw [if_neg (by omega), e, if_pos h2]
        · simp only [List.length_cons]; omega
      · rw [emt_21] at z
        exact absurd (show (nA r p).2.1 = -1 by rw [e2]; exact hb) z
    · rw [if_neg h2]
      by_cases h3 : nC r p = 40
      · rw [if_pos h3]
        have hin := (nC_in (r := r) (p := p) (by omega)).2.1
        by_cases h4 : 8 ≤ o
        · rw [if_pos h4]
          have hR := u_bad (r := r) (L := L) (V := V) (S := S) (o := o) h ha (by rw [← ec]; exact h1) (by rw [← ec]; exact h2) (by rw [← ec]; omega) (by rw [← ec]; omega)
          rw [← ec, if_pos h3, hs] at hR
          have hbk : (brk 3 (nA r p)).2.1 = 10 * sk r p.1 + 3 := by
            unfold brk; rw [if_pos (by rw [e2]; exact hb)]; show 10 * (nA r p).1 + 3 = _; rw [e1]
          refine ⟨brk_b hA (by omega), fun z => by rw [hbk] at z; omega, fun _ => ?_⟩
          rw [hbk]; exact ⟨_, _, _, _, _, hR⟩
        · rw [if_neg h4]
          have hR := u_open (r := r) (L := L) (V := V) (o := o) h ha lS (by rw [← ec]; exact h3) (by omega)
          rw [hs] at hR
          have hb2 := adv_b h hp (by omega)
          have e3 : (adv (nA r p)).1 = sk r p.1 + 1 := by show (nA r p).1 + 1 = _; rw [e1]
          have e4 : (adv (nA r p)).2 = p.2 := e2
          obtain ⟨b3, g1, g2⟩ := hF (by omega) (adv (nA r p)) (sk r p.1 + 1) V (1000 :: S) k hb2 (by rw [e4]; exact hb) ⟨by omega, by omega⟩ (by rw [e3]) (by rw [e3, e4]; simp only [List.length_cons]; omega) topOK_p
          rw [e3, e4] at g1
          generalize F (adv (nA r p)) = w at *
          have hwA := nA_b h b3
          by_cases hw : w.2.1 = -1
          · obtain ⟨hlt, a', V', S', v, R2, a2, s2, w2, ev2, l2, nx⟩ := g1 hw
            have l2b := b3.1
            have hwsk : (nA r w).1 = sk r w.1 := nA_sk hw
            have hw2 : (nA r w).2 = w.2 := nA_2
            have ec2 : nC r w = chr r (sk r a') := by rw [nC_sk hw, s2]
            have hwb := sk_b (t := r) b3.1
            by_cases h5 : nC r w = 41
            · rw [if_pos h5]
              have hin2 := (nC_in (r := r) (p := w) (by omega)).2.1
              have R3 := u_close (r := r) (L := L) (o := o + 1) h a2 (by omega) (by omega) (by rw [← ec2]; exact h5) (by omega) w2
              rw [show o + 1 - 1 = o by omega, s2] at R3
              have e5 : (adv (nA r w)).1 = sk r w.1 + 1 := by show (nA r w).1 + 1 = _; rw [hwsk]
              have e6 : (adv (nA r w)).2 = w.2 := hw2
              refine ⟨adv_b h b3 (by omega), fun _ => ?_, fun z => absurd (show (adv (nA r w)).2.1 = -1 by rw [e6]; exact hw) z⟩
              rw [e5, e6]
              exact ⟨by omega, sk r w.1 + 1, v, (hR.trans R2).trans R3, ⟨by omega, by omega⟩, rfl, ev2, by omega⟩
            · rw [if_neg h5]
              have hbk : (brk 1 (nA r w)).2.1 = 10 * sk r w.1 + 1 := by
                unfold brk; rw [if_pos (by rw [hw2]; exact hw)]; show 10 * (nA r w).1 + 1 = _; rw [hwsk]
              refine ⟨brk_b hwA (by omega), fun z => by rw [hbk] at z; omega, fun _ => ?_⟩
              rw [hbk, ← s2]
              rcases nx with nx | ⟨n3, V3, s3, S3, w3, t3⟩
              · have h0 := rk_b (c := chr r (sk r a'))
                exact ⟨_, _, _, _, _, (hR.trans R2).trans (u_else h a2 (by omega) (by omega) (fun z => h5 (by rw [ec2]; exact z.1)) (by omega))⟩
              · exact ⟨_, _, _, _, _, (hR.trans R2).trans (u_op3 h a2 (by omega) (by omega) n3 w3 t3)⟩
          · obtain ⟨a', V', S', o', w', R2⟩ := g2 hw
            rw [nC_br hw, if_neg (by decide), nA_br hw]
            have hbk : brk 1 w = w := by unfold brk; rw [if_neg hw]
            rw [hbk]
            exact ⟨b3, fun z => absurd z hw, fun _ => ⟨_, _, _, _, _, hR.trans R2⟩⟩
      · rw [if_neg h3]
        · have hR := u_bad (r := r) (L := L) (V := V) (S := S) (o := o) h ha (by rw [← ec]; exact h1) (by rw [← ec]; exact h2) (by rw [← ec]; exact h33) (by rw [← ec]; omega)
          rw [← ec, if_neg h3, hs] at hR
          have hbk : (brk 1 (nA r p)).2.1 = 10 * sk r p.1 + 1 := by
            unfold brk; rw [if_pos (by rw [e2]; exact hb)]; show 10 * (nA r p).1 + 1 = _; rw [e1]
          refine ⟨brk_b hA (by omega), fun z => by rw [hbk] at z; omega, fun _ => ?_⟩
          rw [hbk]; exact ⟨_, _, _, _, _, hR⟩
end
