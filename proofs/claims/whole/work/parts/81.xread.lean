/-! What a draft keeps while it is read. -/
def DW (D : G × Int) : Prop := WG D.1 ∧ (0 ≤ D.2 ∧ D.2 < 131072)
section
variable {t : Int → Int} {g : G} {c k l v w e p b : Int} {q : SG}
theorem WG_rst (hl : 1 ≤ l ∧ l ≤ 7) : WG (rstG g l) := by
  refine ⟨by simpa [rstG, G.last] using hl, by simp [rstG, G.isl], by simp [rstG, G.nW], by simp [rstG, G.nB], fun w w0 w1 => ?_, fun w w0 w1 => ?_⟩
  · have : w < 0 := by simpa [rstG, G.nW] using w1
    omega
  · have : w < 0 := by simpa [rstG, G.nB] using w1
    omega
theorem WG_isl (hg : WG g) (hv : 1 ≤ v ∧ v ≤ 6) : WG (islG g v) := by
  have h2 := hg.isl7
  refine ⟨hg.1, ?_, hg.2.2⟩
  have e : (islG g v).isl = ior g.isl (ishl 1 v) := by simp [islG, G.isl]
  rw [e]
  have e2 : ishl 1 v = ((2 ^ v.toNat : Nat) : Int) := by
    have : v = 1 ∨ v = 2 ∨ v = 3 ∨ v = 4 ∨ v = 5 ∨ v = 6 := by omega
    rcases this with rfl | rfl | rfl | rfl | rfl | rfl <;> decide
  obtain ⟨n, hn⟩ : ∃ a : Nat, g.isl = a := ⟨g.isl.toNat, (Int.toNat_of_nonneg h2.1).symm⟩
  have h3 : 2 ^ v.toNat < 2 ^ 7 := Nat.pow_lt_pow_right (by decide) (by omega)
  have h4 : n < 2 ^ 7 := by omega
  have h5 := Nat.or_lt_two_pow h4 h3
  rw [hn, e2, ior_n (by omega) (by omega)]
  omega
theorem WG_addW (hg : WG g) (hn : g.nW < 3) (hw : 1 ≤ w ∧ w ≤ 9) (he : e = 0 ∨ e = 1) : WG (addW g w e) := by
  have h3 := hg.nW3
  have en : (addW g w e).nW = g.nW + 1 := by simp [addW, G.nW]
  have ew : ∀ i, (addW g w e).wt i = if i = g.nW then w else g.wt i := fun i => by simp [addW, G.wt]
  have ee : ∀ i, (addW g w e).gl i = if i = g.nW then e else g.gl i := fun i => by simp [addW, G.gl]
  obtain ⟨a1, a2, a3, a4, a5, a6⟩ := hg
  refine ⟨a1, a2, by omega, a4, fun i i0 i1 => ?_, a6⟩
  rw [ew, ee]
  by_cases h : i = g.nW
  · rw [if_pos h, if_pos h]; exact ⟨hw, he⟩
  · rw [if_neg h, if_neg h]; exact a5 i i0 (by omega)
theorem WG_addB (hg : WG g) (hn : g.nB < 2) (hk : 0 ≤ k ∧ k ≤ 5) (hl : 1 ≤ l ∧ l ≤ 3) (hb : 1 ≤ b ∧ b ≤ 30) : WG (addB g k l b) := by
  have h3 := hg.nB2
  have en : (addB g k l b).nB = g.nB + 1 := by simp [addB, G.nB]
  have e1 : ∀ i, (addB g k l b).kd i = if i = g.nB then k else g.kd i := fun i => by simp [addB, G.kd]
  have e2 : ∀ i, (addB g k l b).ln i = if i = g.nB then l else g.ln i := fun i => by simp [addB, G.ln]
  have e3 : ∀ i, (addB g k l b).br i = if i = g.nB then b else g.br i := fun i => by simp [addB, G.br]
  have e4 : ∀ i, (addB g k l b).sp i = if i = g.nB then l + lng k else g.sp i := fun i => by simp [addB, G.sp]
  have e5 : ∀ i, (addB g k l b).st i = if i = g.nB then sth k b else g.st i := fun i => by simp [addB, G.st]
  obtain ⟨a1, a2, a3, a4, a5, a6⟩ := hg
  refine ⟨a1, a2, a3, by omega, a5, fun i i0 i1 => ?_⟩
  rw [e1, e2, e3, e4, e5]
  by_cases h : i = g.nB
  · rw [if_pos h, if_pos h, if_pos h, if_pos h, if_pos h]; exact ⟨hk, hl, hb, rfl, rfl⟩
  · rw [if_neg h, if_neg h, if_neg h, if_neg h, if_neg h]; exact a6 i i0 (by omega)
theorem readB_ok (h : DW (g, c)) (hn : g.nB < 2) (hq : SB t q) : DW (readB t g c q).1 ∧ SB t (readB t g c q).2 := by
  have hla : 1 ≤ g.last ∧ g.last ≤ 7 := h.1.last7
  have hb1 : SB t (rb1 t q) := nS_b hq
  have hb2 : SB t (rb2 t q) := nS_b hb1
  have hb3 : SB t (rb3 t q) := nS_b hb2
  have hb4 : SB t (rb4 t g.last q) := nS_b hb3
  have hs := sk_b hb3.1
  have v4 := nV_b (t := t) (q := rb3 t q) (show (0 : Int) ≤ g.last by omega)
  unfold readB
  split
  · split
    · exact ⟨⟨WG_addB h.1 hn (nV_b (by omega)) (nV_b (by omega)) (nV_b (by omega)), setB_b h.2 ⟨h.1.nB2.1, hn⟩ ⟨v4.1, by have := v4.2; unfold rbP; omega⟩⟩, hb4⟩
    · exact ⟨h, hb4.1, by show -1 ≤ sk t (rb3 t q).1; have := hb3.1.1; omega⟩
  · exact ⟨h, hb4⟩
theorem readI_ok {first : Bool} (h : DW (g, c)) (hk : 0 ≤ k ∧ k ≤ t (-1)) : DW (readI t g c first k).1 ∧ SB t (readI t g c first k).2 := by
  have hla : 1 ≤ g.last ∧ g.last ≤ 7 := h.1.last7
  have hs := sk_b hk
  have he := tkE_b (t := t) (n := t (-1)) (s := sk t k) (by omega)
  have hq : SB t (tE t k, -1) := ⟨⟨by unfold tE; omega, by unfold tE; omega⟩, Int.le_refl _⟩
  have hz : SB t (tE t k, sk t k) := ⟨hq.1, by show -1 ≤ sk t k; omega⟩
  have hb1 : SB t (ri1 t (tE t k, -1)) := nS_b hq
  have hb2 : SB t (ri2 t g.last (tE t k, -1)) := nS_b hb1
  have hb3 : SB t (ri3 t g.last (tE t k, -1)) := nS_b hb2
  unfold readI
  split
  · split
    · exact ⟨⟨WG_rst (nV_b (by omega)), by simp⟩, nS_b hq⟩
    · split
      · refine ⟨⟨WG_isl h.1 ?_, h.2⟩, nS_b hq⟩
        rcases Int.lt_or_le g.last 2 with z | z
        · have e1 : nV t 1 (g.last - 1) (tE t k, -1) = 1 := by
            unfold nV
            split
            · rename_i y
              have := of_decide_eq_true y.2
              omega
            · rfl
          rw [e1]; omega
        · have := nV_b (t := t) (q := (tE t k, -1)) (show (1 : Int) ≤ g.last - 1 by omega)
          omega
      · split
        · rename_i z
          have v1 := nV_b (t := t) (q := ri1 t (tE t k, -1)) (show (0 : Int) ≤ g.last by omega)
          have v2 := nV_b (t := t) (q := ri2 t g.last (tE t k, -1)) (show (0 : Int) ≤ 1 by omega)
          exact ⟨⟨WG_addW h.1 z.2 (nV_b (by omega)) (by omega), setW_b h.2 ⟨h.1.nW3.1, z.2⟩ ⟨v1.1, by omega⟩⟩, hb3⟩
        · split
          · rename_i z
            exact readB_ok h z.2 hq
          · exact ⟨h, hz⟩
  · exact ⟨h, hz⟩
end
