/-! The law: what holds between two calls, and each call of both. -/
def SAME (s s' : ST) : Prop := gg s' = gg s ∧ cd s' = cd s ∧ s' 3 2 = s 3 2
def REL (I : MM) (s : ST) (m : Int) : Prop := XR I s ∧ MR I s ∧ OK s ∧ RCh I (s 3 2) ∧ SCh I (gg s) (cd s) ∧ SMk I m
def XS (z : Nat) (args : List AV) (I : MM) (r : Int) (s' : ST) (m : Int) : Prop := ∃ J, call 100 z (vR 1 :: args) I = some (some (vI r), J) ∧ XR J s' ∧ (∀ a, 70 ≤ a → ∀ i, J a i = I a i) ∧ RCh J (s' 3 2) ∧ SCh J (gg s') (cd s') ∧ SMk J m
def BOTH (zx zm : Nat) (args : List AV) (I : MM) (m : Int) : Prop := ∃ r J K s', call 100 zx (vR 1 :: args) I = some (some (vI r), J) ∧ call 100 zm (vR 70 :: args) J = some (some (vI r), K) ∧ REL K s' (m + 1) ∧ (∀ i, J 100 i = I 100 i) ∧ (∀ i, K 100 i = I 100 i)
section
variable {d z zx zm : Nat} {I J K : MM} {s s' : ST} {g : G} {l : List Nat} {args : List AV} {a c w x y b p v i n k m r : Int}
theorem SCh.o (e : ∀ a, 27 ≤ a → a < 34 → ∀ i, J a i = I a i) (h : SCh I g c) : SCh J g c := by
  obtain ⟨c1, c2, c3⟩ := h
  refine ⟨?_, fun b b0 b1 => by rw [e 32 (by decide) (by decide)]; exact c2 b b0 b1, fun b b0 b1 => by rw [e 33 (by decide) (by decide)]; exact c3 b b0 b1⟩
  rw [e 27 (by decide) (by decide)]
  rcases c1 with c1 | ⟨c1, cR⟩
  · exact Or.inl c1
  · exact Or.inr ⟨c1, cR.cong (e 27 (by decide) (by decide) _) (e 30 (by decide) (by decide))⟩
theorem SMk.o (e : ∀ i, i ≠ 10 → J 27 i = I 27 i) (e2 : ∀ i, J 28 i = I 28 i) (h : SMk I m) : SMk J m := by
  obtain ⟨m1, m2, m3⟩ := h
  exact ⟨by rw [e _ (by decide)]; exact m1, fun c c0 c1 => by rw [e _ (by decide), e2]; exact m2 c c0 c1, by rw [e _ (by decide)]; exact m3⟩
theorem RCh.o {r : Int → Int} (e : ∀ i, J 21 i = I 21 i) (e2 : ∀ i, J 23 i = I 23 i) (h : RCh I r) : RCh J r := by
  rcases h with h | ⟨h1, h2⟩
  · exact Or.inl ((e _).trans h)
  · exact Or.inr ⟨(e _).trans h1, h2.cong (e _) (e _) e2⟩
theorem XR.lo (e : ∀ a, (a < 70 ∨ 89 ≤ a) → ∀ i, K a i = J a i) (h : XR J s) : XR K s :=
  ⟨h.B.cong (fun a _ _ i => e a (by omega) i), h.T.cong (e _ (by omega) _) (e _ (by omega)), h.R.cong (e _ (by omega) _) (e _ (by omega)), h.P.cong (e _ (by omega) _) (e _ (by omega)), h.C.cong (fun i _ => e _ (by omega) i), h.F.cong (e _ (by omega)) (e _ (by omega)) (e _ (by omega) _) (e _ (by omega) _), h.I0.cong (fun a _ _ i => e a (by omega) i), h.I1.cong (fun a _ _ i => e a (by omega) i), h.K.cong (e _ (by omega)) (e _ (by omega))⟩
theorem MR.hi (hO : OK s) (e : ∀ a, 70 ≤ a → ∀ i, J a i = I a i) (h : MR I s) : MR J s :=
  h.scr hO (e _ (by omega)) (e _ (by omega)) (e _ (by omega)) (e _ (by omega)) (e _ (by omega)) (e _ (by omega)) (e _ (by omega)) (e _ (by omega) _) (e _ (by omega) _)
theorem BOTH.mk (hR : REL I s m) (hX : XS zx args I r s' (m + 1)) (hM : ∀ J, MR J s → MA 100 zm args J r s') (hO : OK s') : BOTH zx zm args I m := by
  obtain ⟨J, c1, x1, h1, r1, q1, k1⟩ := hX
  obtain ⟨K, c2, x2, h2⟩ := hM J (hR.2.1.hi hR.2.2.1 h1)
  have e : ∀ a, (a < 70 ∨ 89 ≤ a) → ∀ i, K a i = J a i := fun a ha i => h2 a (by simp; omega) i
  exact ⟨r, J, K, s', c1, c2, ⟨x1.lo e, x2, hO, r1.o (e _ (by omega)) (e _ (by omega)), q1.o (fun a _ _ i => e a (by omega) i), k1.o (fun i _ => e _ (by omega) i) (e _ (by omega))⟩, h1 _ (by omega), fun i => (e _ (by omega) i).trans (h1 _ (by omega) i)⟩
/-- calls that leave rule and search alone -/
theorem XS.ofA (hR : REL I s m) (h : XA 100 z args l I r s') (hl : ∀ a ∈ l, a < 70 ∧ ¬ (21 ≤ a ∧ a < 34)) (hs : SAME s s') : XS z args I r s' (m + 1) := by
  obtain ⟨J, c1, x1, o1⟩ := h
  obtain ⟨s1, s2, s3⟩ := hs
  obtain ⟨-, -, -, h4, h5, h6⟩ := hR
  refine ⟨J, c1, x1, fun a ha i => o1 a (fun q => by have := (hl a q).1; omega) i, ?_, ?_, ?_⟩
  · rw [s3]; exact h4.o (fun i => o1 _ (fun q => (hl _ q).2 (by omega)) i) (fun i => o1 _ (fun q => (hl _ q).2 (by omega)) i)
  · rw [s1, s2]; exact h5.o (fun a a0 a1 i => o1 _ (fun q => (hl _ q).2 (by omega)) i)
  · exact (h6.o (fun i _ => o1 _ (fun q => (hl _ q).2 (by omega)) i) (fun i => o1 _ (fun q => (hl _ q).2 (by omega)) i)).mono
/-- calls that leave the search alone and keep the rule's part right -/
theorem XS.ofR {Q : MM → Prop} (hR : REL I s m) (h : XQ 100 z args l I r s' Q) (hl : ∀ a ∈ l, a < 70 ∧ ¬ (27 ≤ a ∧ a < 34)) (hs : gg s' = gg s ∧ cd s' = cd s) (hQ : ∀ J, Q J → RCh J (s' 3 2)) : XS z args I r s' (m + 1) := by
  obtain ⟨J, c1, x1, o1, q1⟩ := h
  obtain ⟨s1, s2⟩ := hs
  obtain ⟨-, -, -, h4, h5, h6⟩ := hR
  refine ⟨J, c1, x1, fun a ha i => o1 a (fun q => by have := (hl a q).1; omega) i, hQ J q1, ?_, ?_⟩
  · rw [s1, s2]; exact h5.o (fun a a0 a1 i => o1 _ (fun q => (hl _ q).2 (by omega)) i)
  · exact (h6.o (fun i _ => o1 _ (fun q => (hl _ q).2 (by omega)) i) (fun i => o1 _ (fun q => (hl _ q).2 (by omega)) i)).mono
/-- calls that may search -/
theorem XS.ofB (hR : REL I s m) (h : XSB 100 z args I r s' m) (hs : s' 3 2 = s 3 2) : XS z args I r s' (m + 1) := by
  obtain ⟨J, c1, x1, o1, q1, k1⟩ := h
  have o : ∀ a, (a = 21 ∨ a = 23 ∨ 70 ≤ a) → ∀ i, J a i = I a i := fun a ha i => o1 a (by simp; omega) i
  exact ⟨J, c1, x1, fun a ha i => o a (by omega) i, by rw [hs]; exact hR.2.2.2.1.o (o _ (by omega)) (o _ (by omega)), q1, k1⟩
theorem XS.ofS (hR : REL I s m) (h : XSA 100 z args I r s m) : XS z args I r s (m + 1) := by
  obtain ⟨J, c1, x1, o1, q1, k1⟩ := h
  have o : ∀ a, (a = 21 ∨ a = 23 ∨ 70 ≤ a) → ∀ i, J a i = I a i := fun a ha i => o1 a (by simp; omega) i
  exact ⟨J, c1, x1, fun a ha i => o a (by omega) i, hR.2.2.2.1.o (o _ (by omega)) (o _ (by omega)), q1, k1⟩
theorem sameBump : SAME s (bump s k) := ⟨rfl, rfl, rfl⟩
theorem sameRefl : SAME s s := ⟨rfl, rfl, rfl⟩
theorem okPick {q : Prop} [Decidable q] (h : OK s) : OK (if q then s else bump s k) := by
  by_cases hq : q
  · rw [if_pos hq]; exact h
  · rw [if_neg hq]; exact h.bump _
theorem samePick {q : Prop} [Decidable q] : SAME s (if q then s else bump s k) := by
  by_cases hq : q
  · rw [if_pos hq]; exact sameRefl
  · rw [if_neg hq]; exact sameBump
theorem SAME.type : SAME s (sType s v n) := by
  unfold sType
  split
  · split
    · exact sameBump
    · exact ⟨rfl, rfl, rfl⟩
  · exact sameBump
theorem SAME.image : SAME s (sImage s i) := by
  unfold sImage
  split
  · rename_i h
    have : i = 0 ∨ i = 1 := by omega
    rcases this with rfl | rfl
    · rw [putI_0]; exact ⟨rfl, rfl, rfl⟩
    · rw [putI_1]; exact ⟨rfl, rfl, rfl⟩
  · exact sameBump
theorem SAME.years : SAME s (sYears s n w k) := by
  unfold sYears
  split
  · exact ⟨rfl, rfl, rfl⟩
  · exact sameBump
theorem OK.read {g0 : G} (h : OK s) : OK (sRead s g0) := by
  have hn := h.tsz
  obtain ⟨k1, k2⟩ := rdL_ok (t := s 3 1) 201 0 (rstG g0 7) 0 0 (WG_rst (by omega)) (VN_rst (by omega)) (by omega)
  rw [show rdL (s 3 1) 201 0 (rstG g0 7) 0 0 = rdT s g0 from rfl] at k1 k2
  unfold sRead
  generalize rdT s g0 = q at *
  split
  · exact h
  · split
    · obtain ⟨⟨-, -, a3, a4, -, -⟩, b2, b3, b4, b5, b6⟩ := h
      exact ⟨⟨k1, k2, a3, a4, ⟨Int.le_refl 0, by show (0 : Int) ≤ 8; decide⟩, fun i i0 i1 => absurd i1 (by show ¬ i < 0; omega)⟩, b2, b3, b4, b5, b6⟩
    · exact h.bump 1
theorem gg_act : gg (sAct s a) = gg s ∧ sAct s a 3 2 = s 3 2 := by
  unfold sAct; split <;> exact ⟨rfl, rfl⟩
theorem gg_undo : gg (sUndo s) = gg s ∧ sUndo s 3 2 = s 3 2 := by
  unfold sUndo; split <;> exact ⟨rfl, rfl⟩
/-- act and undo -/
theorem XS.ofM (hR : REL I s m) (h : XQ 100 z args [1, 2, 25, 26, 27, 32, 33] I r s' (fun J => (SC0 J ∧ ∀ i, i ≠ 10 → J 27 i = I 27 i) ∨ (∀ a, a ≠ 1 → ∀ i, J a i = I a i))) (hs : gg s' = gg s ∧ s' 3 2 = s 3 2) : XS z args I r s' (m + 1) := by
  obtain ⟨J, c1, x1, o1, q1⟩ := h
  obtain ⟨h1, -, -, h4, h5, h6⟩ := hR
  refine ⟨J, c1, x1, fun a ha i => o1 a (by simp; omega) i, ?_, ?_, ?_⟩
  · rw [hs.2]; exact h4.o (o1 _ (by simp)) (o1 _ (by simp))
  · rcases q1 with ⟨q1, -⟩ | q1
    · exact q1.ch
    · have ec : cd s' = cd s := by rw [← x1.n, ← h1.n]; exact q1 _ (by decide) _
      rw [hs.1, ec]; exact h5.o (fun a a0 a1 i => q1 _ (by omega) i)
  · rcases q1 with ⟨-, q1⟩ | q1
    · exact (h6.o q1 (o1 _ (by simp))).mono
    · exact (h6.o (fun i _ => q1 _ (by decide) i) (o1 _ (by simp))).mono
theorem L_place (hR : REL I s m) : BOTH 112 230 [vI p] I m := .mk hR (.ofA hR (X_place (d := 98) hR.1 hR.2.2.1) (by decide) samePick) (fun J h => M_place (d := 98) h hR.2.2.1) (okPick hR.2.2.1)
theorem L_firm (hR : REL I s m) : BOTH 113 231 [vI p] I m := .mk hR (.ofA hR (X_firm (d := 95) hR.1 hR.2.2.1) (by decide) samePick) (fun J h => M_firm (d := 94) h hR.2.2.1) (okPick hR.2.2.1)
theorem L_walker (hR : REL I s m) : BOTH 114 232 [vI w, vI x] I m := .mk hR (.ofA hR (X_walker (d := 97) hR.1 hR.2.2.1) (by decide) samePick) (fun J h => M_walker (d := 96) h hR.2.2.1) (okPick hR.2.2.1)
theorem L_board (hR : REL I s m) : BOTH 115 233 [vI w, vI x] I m := .mk hR (.ofA hR (X_board (d := 96) hR.1 hR.2.2.1) (by decide) samePick) (fun J h => M_board (d := 95) h hR.2.2.1) (okPick hR.2.2.1)
theorem L_why (hR : REL I s m) : BOTH 116 194 [vI a] I m := .mk hR (.ofA hR (X_why (d := 94) hR.1 hR.2.2.1) (by decide) sameRefl) (fun J h => M_why (d := 91) h hR.2.2.1) hR.2.2.1
theorem L_over (hR : REL I s m) : BOTH 119 197 [] I m := .mk hR (.ofA hR (X_over (d := 95) hR.1 hR.2.2.1) (by decide) sameRefl) (fun J h => M_over (d := 96) h hR.2.2.1) hR.2.2.1
theorem L_status (hR : REL I s m) : BOTH 134 260 [vI x] I m := .mk hR (.ofA hR (X_status (d := 98) hR.1) (by decide) samePick) (fun J h => M_status (d := 98) h hR.2.2.1) (okPick hR.2.2.1)
theorem L_count (hR : REL I s m) : BOTH 135 262 [vI x] I m := .mk hR (.ofA hR (X_count (d := 98) hR.1) (by decide) samePick) (fun J h => M_count (d := 97) h hR.2.2.1) (okPick hR.2.2.1)
theorem L_sign (hR : REL I s m) : BOTH 130 256 [vI x] I m := .mk hR (.ofA hR (X_sign (d := 98) hR.1 hR.2.2.1) (by decide) samePick) (fun J h => M_sign (d := 98) h hR.2.2.1) (okPick hR.2.2.1)
theorem L_limb (hR : REL I s m) : BOTH 131 257 [vI w, vI i] I m := .mk hR (.ofA hR (X_limb (d := 98) hR.1) (by decide) samePick) (fun J h => M_limb (d := 98) h hR.2.2.1) (okPick hR.2.2.1)
theorem L_clear (hR : REL I s m) : BOTH 110 215 [] I m := .mk hR (.ofA hR (X_clear (d := 99) hR.1) (by decide) ⟨rfl, rfl, rfl⟩) (fun J h => M_clear (d := 99) h hR.2.2.1) hR.2.2.1.clear
theorem L_type (hR : REL I s m) : BOTH 109 214 [vL v, vI x] I m := .mk hR (.ofA hR (X_type (d := 98) hR.1 hR.2.2.1) (by decide) SAME.type) (fun J h => M_type (d := 98) h hR.2.2.1) hR.2.2.1.typ
theorem L_image (hR : REL I s m) : BOTH 132 258 [vI i] I m := .mk hR (.ofA hR (X_image (d := 98) hR.1 hR.2.2.1) (by decide) SAME.image) (fun J h => M_image (d := 98) h hR.2.2.1) hR.2.2.1.image
theorem L_wrong (hR : REL I s m) : BOTH 124 198 [vI i] I m := .mk hR (.ofA hR (X_wrong (d := 95) hR.1 hR.2.2.1) (by decide) (by unfold sWrong; split <;> exact ⟨rfl, rfl, rfl⟩)) (fun J h => M_wrong (d := 91) h hR.2.2.1) (by unfold sWrong; split; exact hR.2.2.1.bump 0; exact hR.2.2.1)
theorem L_erase (hR : REL I s m) : BOTH 126 235 [] I m := .mk hR (.ofR hR (X_erase (d := 98) hR.1) (by decide) ⟨rfl, rfl⟩ (fun J q => Or.inl q)) (fun J h => M_erase (d := 99) h hR.2.2.1) hR.2.2.1.erase
theorem L_fault (hR : REL I s m) : BOTH 127 247 [] I m := .mk hR (.ofR hR (X_fault (d := 32) hR.1 hR.2.2.1 hR.2.2.2.1) (by decide) ⟨rfl, rfl⟩ (fun J q => Or.inr q)) (fun J h => M_fault (d := 95) h hR.2.2.1) hR.2.2.1
theorem L_mist (hR : REL I s m) : BOTH 128 254 [vI n, vI x] I m := by
  have hs : SAME s (sMist s n x) := by unfold sMist; exact samePick
  refine .mk hR (.ofR hR (X_mist (d := 31) hR.1 hR.2.2.1 hR.2.2.2.1) (by decide) ⟨hs.1, hs.2.1⟩ (fun J q => by rw [hs.2.2]; exact q)) (fun J h => M_mist (d := 88) h hR.2.2.1) ?_
  unfold sMist; exact (okPick hR.2.2.1)
theorem L_years (hR : REL I s m) : BOTH 129 255 [vI n, vI w, vI k] I m := by
  have hs : SAME s (sYears s n w k) := SAME.years
  exact .mk hR (.ofR hR (X_years (d := 31) hR.1 hR.2.2.1 hR.2.2.2.1) (by decide) ⟨hs.1, hs.2.1⟩ (fun J q => by rw [hs.2.2]; exact q)) (fun J h => M_years (d := 88) h hR.2.2.1) hR.2.2.1.years
theorem L_act (hR : REL I s m) : BOTH 117 195 [vI a] I m := .mk hR (.ofM hR (X_act (d := 94) hR.1 hR.2.2.1) gg_act) (fun J h => M_act (d := 91) h hR.2.2.1) hR.2.2.1.act
theorem L_undo (hR : REL I s m) : BOTH 118 196 [] I m := .mk hR (.ofM hR (X_undo (d := 97) hR.1 hR.2.2.1) gg_undo) (fun J h => M_undo (d := 98) h hR.2.2.1) hR.2.2.1.undo
theorem L_fewest (hR : REL I s m) (hm : m < 2147483645) : BOTH 120 206 [] I m := .mk hR (.ofS hR (X_fewest (d := 92) hR.1 hR.2.2.1 hR.2.2.2.2.1 hR.2.2.2.2.2 hm)) (fun J h => M_fewest (d := 91) h hR.2.2.1) hR.2.2.1
theorem L_lost (hR : REL I s m) (hm : m < 2147483645) : BOTH 122 211 [vI b] I m := .mk hR (.ofB hR (X_lost (d := 92) hR.1 hR.2.2.1 hR.2.2.2.2.1 hR.2.2.2.2.2 hm) (by unfold sLost; split <;> rfl)) (fun J h => M_lost (d := 91) h hR.2.2.1) (okPick hR.2.2.1)
theorem L_leaps (hR : REL I s m) (hm : m < 2147483645) : BOTH 123 212 [vI b] I m := .mk hR (.ofB hR (X_leaps (d := 92) hR.1 hR.2.2.1 hR.2.2.2.2.1 hR.2.2.2.2.2 hm) (by unfold sLeaps; split <;> rfl)) (fun J h => M_leaps (d := 91) h hR.2.2.1) (okPick hR.2.2.1)
theorem L_row (hR : REL I s m) (hm : m < 2147483645) : BOTH 121 209 [vI i] I m := by
  obtain ⟨r, hr, h⟩ := X_row (d := 92) (i := i) hR.1 hR.2.2.1 hR.2.2.2.2.1 hR.2.2.2.2.2 hm
  refine .mk hR (.ofB hR h (by unfold sRow; split <;> rfl)) (fun J h2 => ?_) (by unfold sRow; split; exact hR.2.2.1.bump 0; exact hR.2.2.1)
  obtain ⟨r2, hr2, h3⟩ := M_row (d := 90) (i := i) h2 hR.2.2.1
  rw [hr.uniq hr2]
  exact h3
theorem L_write (hR : REL I s m) : BOTH 125 234 [vI c] I m := by
  obtain ⟨J, c1, x1, o1, q1⟩ := X_write2 (d := 98) (c := c) hR.1 hR.2.2.1
  have hs : gg (sWrite s c) = gg s ∧ cd (sWrite s c) = cd s := by
    unfold sWrite
    split
    · split <;> exact ⟨rfl, rfl⟩
    · exact ⟨rfl, rfl⟩
  refine .mk hR (.ofR (Q := fun J => RCh J (sWrite s c 3 2)) hR ⟨J, c1, x1, o1, ?_⟩ (by decide) hs (fun J q => q)) (fun J h => M_write (d := 98) h hR.2.2.1) hR.2.2.1.write
  rcases q1 with q1 | ⟨q1, q2⟩
  · exact Or.inl q1
  · rw [q2]; exact hR.2.2.2.1.o (q1 _ (by decide)) (q1 _ (by decide))
theorem L_from (hR : REL I s m) : BOTH 133 259 [vI i] I m := by
  obtain ⟨J, c1, x1, o1, q1⟩ := X_from2 (d := 97) (i := i) hR.1 hR.2.2.1
  refine .mk hR ⟨J, c1, x1, fun a ha i => o1 a (by simp; omega) i, ?_⟩ (fun J h => M_from (d := 98) h hR.2.2.1) hR.2.2.1.from
  obtain ⟨-, -, -, h4, h5, h6⟩ := hR
  rcases q1 with ⟨q1, q2, q3⟩ | ⟨q1, q2, q3, q4⟩
  · exact ⟨Or.inl q3, q1.ch, (h6.o q2 (o1 _ (by simp))).mono⟩
  · rw [q2, q3, q4]
    exact ⟨h4.o (q1 _ (by decide)) (q1 _ (by decide)), h5.o (fun a a0 a1 i => q1 _ (by omega) i), (h6.o (fun i _ => q1 _ (by decide) i) (o1 _ (by simp))).mono⟩
theorem L_read (hR : REL I s m) : BOTH 111 228 [] I m := by
  obtain ⟨g0, J, c1, x1, o1, q1⟩ := X_read2 (d := 92) hR.1 hR.2.2.1
  have hr : sRead s g0 3 2 = s 3 2 := by
    unfold sRead
    split
    · rfl
    · split <;> rfl
  refine .mk hR ⟨J, c1, x1, fun a ha i => o1 a (by simp; omega) i, ?_, ?_⟩ (fun J h => M_read (d := 92) h hR.2.2.1 g0) hR.2.2.1.read
  · rw [hr]; exact hR.2.2.2.1.o (o1 _ (by simp)) (o1 _ (by simp))
  · obtain ⟨-, -, -, h4, h5, h6⟩ := hR
    rcases q1 with ⟨q1, q2⟩ | ⟨q1, q2, q3⟩
    · exact ⟨q1.ch, (h6.o q2 (o1 _ (by simp))).mono⟩
    · rw [q2, q3]
      exact ⟨h5.o (fun a a0 a1 i => q1 _ (by omega) (by omega) (by omega) i), (h6.o (fun i _ => q1 _ (by decide) (by decide) (by decide) i) (o1 _ (by simp))).mono⟩
theorem L_digest (hR : REL I s m) : ∃ r, call 100 136 [vR 1] I = some (some (vL r), I) ∧ call 100 264 [vR 70] I = some (some (vL r), I) := ⟨aDigest s, X_digest (d := 97) hR.1 hR.2.2.1, M_digest (d := 97) hR.2.1 hR.2.2.1⟩
end
