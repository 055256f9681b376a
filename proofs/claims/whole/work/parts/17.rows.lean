/-! Rows that step 'runs': a row an instruction's kind. The printed rows (18 on) are these at their places. -/
section ROWS
variable {cal : Nat → List AV → MM → Option RES} {z pc : Nat} {L S L' S' : List AV} {I I' : MM}
theorem runs_step {i : Instr} {n : Nat} (h : ins z pc = some (i, n)) (hn : (isSw i || n == lenI i) = true) : runs cal z pc L S I = match stepI cal z pc i L S I with
    | none => none
    | some (.inl r) => some r
    | some (.inr c) => runs cal z c.1 c.2.1 c.2.2.1 c.2.2.2 := by
  rw [runs, runC_eq]
  have e : stepD cal z pc L S I = stepI cal z pc i L S I := by unfold stepD; rw [h]; simp only [hn, if_true]
  dsimp only
  rw [e]
  rfl
theorem runs_to {i : Instr} {n pc' : Nat} (h : ins z pc = some (i, n)) (hn : (isSw i || n == lenI i) = true) (hs : stepI cal z pc i L S I = some (.inr (pc', L', S', I'))) : runs cal z pc L S I = runs cal z pc' L' S' I' := by
  rw [runs_step h hn, hs]
theorem ins_of {l : List (Nat × Instr × Nat)} {i : Instr} {n : Nat} (hz : mI z = l) (hf : l.find? (fun e => e.1 == pc) = some (pc, i, n)) : ins z pc = some (i, n) := by
  rw [ins, hz, hf]; rfl
theorem wdc {w a : Nat} (hz : wid z = w) (h : (WdN w).contains a = true) : (Wd z).contains a = true := by unfold Wd; rw [hz]; exact h
theorem st_getI {i c k s a : Nat} (h : ins z pc = some (.getfield i, 3)) (hc : mC z = c) (h12 : c ≠ 12) (hf : fres c i = some (k, s)) (ha : cT a = (0, k)) (hw : (Wd z).contains a = true) (hk : fk k s = 0 ∨ fk k s = 2) : runs cal z pc L (vR a :: S) I = runs cal z (pc + 3) L (vI (I a s) :: S) I := by
  refine runs_to h rfl ?_
  subst hc
  simp only [stepI, getV, if_neg h12, hf, ha, hw, and_self, if_true]
  rcases hk with hk | hk <;> rw [hk] <;> rfl
theorem st_getL {i c k s a : Nat} (h : ins z pc = some (.getfield i, 3)) (hc : mC z = c) (h12 : c ≠ 12) (hf : fres c i = some (k, s)) (ha : cT a = (0, k)) (hw : (Wd z).contains a = true) (hk : fk k s = 1) : runs cal z pc L (vR a :: S) I = runs cal z (pc + 3) L (vL (I a s) :: S) I := by
  refine runs_to h rfl ?_
  subst hc
  simp only [stepI, getV, if_neg h12, hf, ha, hw, and_self, if_true]
  rw [hk]; rfl
theorem st_getR {i c k s a b : Nat} (h : ins z pc = some (.getfield i, 3)) (hc : mC z = c) (h12 : c ≠ 12) (hf : fres c i = some (k, s)) (ha : cT a = (0, k)) (hw : (Wd z).contains a = true) (hk : fk k s = 3) (hb : sh a s = b) : runs cal z pc L (vR a :: S) I = runs cal z (pc + 3) L (vR b :: S) I := by
  refine runs_to h rfl ?_
  subst hc; subst hb
  simp only [stepI, getV, if_neg h12, hf, ha, hw, and_self, if_true]
  rw [hk]; rfl
theorem st_getS1 {i a n : Nat} (h : ins z pc = some (.getfield i, 3)) (hc : mC z = 12) (ha : cT a = (5, n)) (hi : i = 9) : runs cal z pc L (vR a :: S) I = runs cal z (pc + 3) L (vR (a + 4) :: S) I := by
  refine runs_to h rfl ?_
  subst hi
  simp only [stepI, getV, hc, ha, if_true]; rfl
theorem st_getS2 {i a n : Nat} (h : ins z pc = some (.getfield i, 3)) (hc : mC z = 12) (ha : cT a = (5, n)) (hi : i = 15) : runs cal z pc L (vR a :: S) I = runs cal z (pc + 3) L (vI 0 :: S) I := by
  refine runs_to h rfl ?_
  subst hi
  simp only [stepI, getV, hc, ha, if_true]; rfl
theorem st_putI {i c k s a : Nat} {x : Int} (h : ins z pc = some (.putfield i, 3)) (hc : mC z = c) (hf : fres c i = some (k, s)) (ha : cT a = (0, k)) (hw : (Wd z).contains a = true) (hk : fk k s = 0) : runs cal z pc L (vI x :: vR a :: S) I = runs cal z (pc + 3) L S (mset I a s x) := by
  refine runs_to h rfl ?_
  subst hc
  simp only [stepI, putV, hf, ha, hw, and_self, if_true]
  rw [hk]; rfl
theorem st_putL {i c k s a : Nat} {x : Int} (h : ins z pc = some (.putfield i, 3)) (hc : mC z = c) (hf : fres c i = some (k, s)) (ha : cT a = (0, k)) (hw : (Wd z).contains a = true) (hk : fk k s = 1) : runs cal z pc L (vL x :: vR a :: S) I = runs cal z (pc + 3) L S (mset I a s x) := by
  refine runs_to h rfl ?_
  subst hc
  simp only [stepI, putV, hf, ha, hw, and_self, if_true]
  rw [hk]; rfl
theorem runs_if {b : Prop} [Decidable b] {p1 p2 : Nat} : runs cal z (if b then p1 else p2) L S I = if b then runs cal z p1 L S I else runs cal z p2 L S I := by
  split <;> rfl
theorem runs_opt {i : Instr} {n : Nat} {q : Prop} [Decidable q] {pc' : Nat} (h : ins z pc = some (i, n)) (hn : (isSw i || n == lenI i) = true) (hs : stepI cal z pc i L S I = if q then some (.inr (pc', L', S', I')) else none) : runs cal z pc L S I = if q then runs cal z pc' L' S' I' else none := by
  rw [runs_step h hn, hs]
  by_cases hq : q
  · rw [if_pos hq, if_pos hq]
  · rw [if_neg hq, if_neg hq]
theorem st_putZ {i c k s a : Nat} {x : Int} (h : ins z pc = some (.putfield i, 3)) (hc : mC z = c) (hf : fres c i = some (k, s)) (ha : cT a = (0, k)) (hw : (Wd z).contains a = true) (hk : fk k s = 2) : runs cal z pc L (vI x :: vR a :: S) I = if x = 0 ∨ x = 1 then runs cal z (pc + 3) L S (mset I a s x) else none := by
  refine runs_opt h rfl ?_
  subst hc
  simp only [stepI, putV, hf, ha, hw, and_self, if_true]
  rw [hk]; rfl
theorem st_iald {a n : Nat} {i : Int} (h : ins z pc = some (.iaload, 1)) (ha : cT a = (1, n)) (hw : (Wd z).contains a = true) : runs cal z pc L (vI i :: vR a :: S) I = if 0 ≤ i ∧ i < n then runs cal z (pc + 1) L (vI (I a i) :: S) I else none := by
  refine runs_opt h rfl ?_
  simp only [stepI, aldI, ha, hw, and_true]; rfl
theorem st_iald4 {a r : Nat} {i : Int} {l : List Int} (h : ins z pc = some (.iaload, 1)) (ha : cT a = (4, r)) (hr : roT.getD r [] = l) : runs cal z pc L (vI i :: vR a :: S) I = if 0 ≤ i ∧ i < l.length then runs cal z (pc + 1) L (vI (l.getD i.toNat 0) :: S) I else none := by
  refine runs_opt h rfl ?_
  subst hr
  simp only [stepI, aldI, ha]; rfl
theorem st_iald8 {i : Int} (h : ins z pc = some (.iaload, 1)) (hz : wid z = 2) : runs cal z pc L (vI i :: vR 100 :: S) I = if 0 ≤ i ∧ i < I 100 (-1) then runs cal z (pc + 1) L (vI (I 100 i) :: S) I else none := by
  refine runs_opt h rfl ?_
  have ha : cT 100 = (8, 0) := rfl
  have hw : (Wd z).length = 88 := by unfold Wd; rw [hz]; rfl
  simp only [stepI, aldI, ha, hw, and_true]; rfl
theorem st_zald {a n : Nat} {i : Int} (h : ins z pc = some (.baload, 1)) (ha : cT a = (3, n)) (hw : (Wd z).contains a = true) : runs cal z pc L (vI i :: vR a :: S) I = if 0 ≤ i ∧ i < n then runs cal z (pc + 1) L (vI (I a i) :: S) I else none := by
  refine runs_opt h rfl ?_
  simp only [stepI, aldB, ha, hw, and_true]; rfl
theorem st_bald6 {a r : Nat} {i : Int} {l : List Int} (h : ins z pc = some (.baload, 1)) (ha : cT a = (6, r)) (hr : strT.getD r [] = l) : runs cal z pc L (vI i :: vR a :: S) I = if 0 ≤ i ∧ i < l.length then runs cal z (pc + 1) L (vI (l.getD i.toNat 0) :: S) I else none := by
  refine runs_opt h rfl ?_
  subst hr
  simp only [stepI, aldB, ha]; rfl
theorem st_lald {a n : Nat} {i : Int} (h : ins z pc = some (.laload, 1)) (ha : cT a = (2, n)) (hw : (Wd z).contains a = true) : runs cal z pc L (vI i :: vR a :: S) I = if 0 ≤ i ∧ i < n then runs cal z (pc + 1) L (vL (I a i) :: S) I else none := by
  refine runs_opt h rfl ?_
  simp only [stepI, aldL, ha, hw, and_true]; rfl
theorem st_iast {a n : Nat} {i x : Int} (h : ins z pc = some (.iastore, 1)) (ha : cT a = (1, n)) (hw : (Wd z).contains a = true) : runs cal z pc L (vI x :: vI i :: vR a :: S) I = if 0 ≤ i ∧ i < n then runs cal z (pc + 1) L S (mset I a i x) else none := by
  refine runs_opt h rfl ?_
  simp only [stepI, astI, ha, hw, and_true]; rfl
theorem st_zast {a n : Nat} {i x : Int} (h : ins z pc = some (.bastore, 1)) (ha : cT a = (3, n)) (hw : (Wd z).contains a = true) : runs cal z pc L (vI x :: vI i :: vR a :: S) I = if 0 ≤ i ∧ i < n ∧ (x = 0 ∨ x = 1) then runs cal z (pc + 1) L S (mset I a i x) else none := by
  refine runs_opt h rfl ?_
  simp only [stepI, astB, ha, hw, true_and]; rfl
theorem st_last {a n : Nat} {i x : Int} (h : ins z pc = some (.lastore, 1)) (ha : cT a = (2, n)) (hw : (Wd z).contains a = true) : runs cal z pc L (vL x :: vI i :: vR a :: S) I = if 0 ≤ i ∧ i < n then runs cal z (pc + 1) L S (mset I a i x) else none := by
  refine runs_opt h rfl ?_
  simp only [stepI, astL, ha, hw, and_true]; rfl
theorem st_alen {a : Nat} {n : Int} (h : ins z pc = some (.arraylength, 1)) (ha : alen a (Wd z) I = some n) : runs cal z pc L (vR a :: S) I = runs cal z (pc + 1) L (vI n :: S) I := by
  refine runs_to h rfl ?_
  simp only [stepI, ha]; rfl
theorem alen_i {a n w k : Nat} (hz : wid z = w) (hw : (WdN w).contains a = true) (ha : cT a = (k, n)) (hk : k = 1 ∨ k = 2 ∨ k = 3) : alen a (Wd z) I = some n := by
  have hw' := wdc hz hw
  rcases hk with rfl | rfl | rfl <;> (simp only [alen, ha, hw', if_true]; rfl)
theorem alen_6 {a r : Nat} {W : List Nat} (ha : cT a = (6, r)) : alen a W I = some ((strT.getD r []).length : Int) := by simp only [alen, ha]
theorem alen_8 (hz : wid z = 2) : alen 100 (Wd z) I = some (I 100 (-1)) := by
  have ha : cT 100 = (8, 0) := rfl
  have hw : (Wd z).length = 88 := by unfold Wd; rw [hz]; rfl
  simp only [alen, ha, hw, if_true]
theorem st_nz {i : Instr} {f : Int → Int → Int} {x y : Int} (h : ins z pc = some (i, 1)) (hn : (isSw i || 1 == lenI i) = true) (hs : stepI cal z pc i L (vI y :: vI x :: S) I = oI (pc + 1) L (vI y :: vI x :: S) I f nz) : runs cal z pc L (vI y :: vI x :: S) I = if y = 0 then none else runs cal z (pc + 1) L (vI (f x y) :: S) I := by
  rw [runs_step h hn, hs]
  simp only [oI, nz, lcc]
  by_cases hy : y = 0
  · simp [hy]
  · simp [hy]
theorem st_nzL {i : Instr} {f : Int → Int → Int} {x y : Int} (h : ins z pc = some (i, 1)) (hn : (isSw i || 1 == lenI i) = true) (hs : stepI cal z pc i L (vL y :: vL x :: S) I = oL (pc + 1) L (vL y :: vL x :: S) I f nz) : runs cal z pc L (vL y :: vL x :: S) I = if y = 0 then none else runs cal z (pc + 1) L (vL (f x y) :: S) I := by
  rw [runs_step h hn, hs]
  simp only [oL, nz, lcc]
  by_cases hy : y = 0
  · simp [hy]
  · simp [hy]
theorem st_goto {off : Int} {t : Nat} (h : ins z pc = some (.goto off, 3)) (ht : (pc : Int) + off = t) : runs cal z pc L S I = runs cal z t L S I := by
  refine runs_to h rfl ?_
  have h0 : (0 : Int) ≤ (pc : Int) + off := by omega
  have e : tg pc off = t := by unfold tg; omega
  simp only [stepI, goV, if_pos h0, e]; rfl
theorem jmp_to {b : Bool} {n t : Nat} {off : Int} (ht : (pc : Int) + off = t) : jmp b pc n off L S I = some (.inr (if b = true then t else pc + n, L, S, I)) := by
  have h0 : (0 : Int) ≤ (pc : Int) + off := by omega
  have e : tg pc off = t := by unfold tg; omega
  simp only [jmp, if_pos h0, e]; rfl
theorem st_cmp_eq {off x y : Int} {t : Nat} (h : ins z pc = some (.if_icmp .eq off, 3)) (ht : (pc : Int) + off = t) : runs cal z pc L (vI y :: vI x :: S) I = if x = y then runs cal z (t) L S I else runs cal z (pc + 3) L S I := by
  rw [runs_to h rfl (show stepI cal z pc (.if_icmp .eq off) L (vI y :: vI x :: S) I = _ from jmp_to (b := cmpB .eq x y) ht), runs_if]
  by_cases q : x = y
  · simp [cmpB, q]
  · simp [cmpB, q]
theorem st_if_eq {off x : Int} {t : Nat} (h : ins z pc = some (.ifCond .eq off, 3)) (ht : (pc : Int) + off = t) : runs cal z pc L (vI x :: S) I = if x = 0 then runs cal z (t) L S I else runs cal z (pc + 3) L S I := by
  rw [runs_to h rfl (show stepI cal z pc (.ifCond .eq off) L (vI x :: S) I = _ from jmp_to (b := cmpB .eq x 0) ht), runs_if]
  by_cases q : x = 0
  · simp [cmpB, q]
  · simp [cmpB, q]
theorem st_cmp_ne {off x y : Int} {t : Nat} (h : ins z pc = some (.if_icmp .ne off, 3)) (ht : (pc : Int) + off = t) : runs cal z pc L (vI y :: vI x :: S) I = if x = y then runs cal z (pc + 3) L S I else runs cal z (t) L S I := by
  rw [runs_to h rfl (show stepI cal z pc (.if_icmp .ne off) L (vI y :: vI x :: S) I = _ from jmp_to (b := cmpB .ne x y) ht), runs_if]
  by_cases q : x = y
  · simp [cmpB, q]
  · simp [cmpB, q]
theorem st_if_ne {off x : Int} {t : Nat} (h : ins z pc = some (.ifCond .ne off, 3)) (ht : (pc : Int) + off = t) : runs cal z pc L (vI x :: S) I = if x = 0 then runs cal z (pc + 3) L S I else runs cal z (t) L S I := by
  rw [runs_to h rfl (show stepI cal z pc (.ifCond .ne off) L (vI x :: S) I = _ from jmp_to (b := cmpB .ne x 0) ht), runs_if]
  by_cases q : x = 0
  · simp [cmpB, q]
  · simp [cmpB, q]
theorem st_cmp_lt {off x y : Int} {t : Nat} (h : ins z pc = some (.if_icmp .lt off, 3)) (ht : (pc : Int) + off = t) : runs cal z pc L (vI y :: vI x :: S) I = if x < y then runs cal z (t) L S I else runs cal z (pc + 3) L S I := by
  rw [runs_to h rfl (show stepI cal z pc (.if_icmp .lt off) L (vI y :: vI x :: S) I = _ from jmp_to (b := cmpB .lt x y) ht), runs_if]
  by_cases q : x < y
  · simp [cmpB, q]
  · simp [cmpB, q]
theorem st_if_lt {off x : Int} {t : Nat} (h : ins z pc = some (.ifCond .lt off, 3)) (ht : (pc : Int) + off = t) : runs cal z pc L (vI x :: S) I = if x < 0 then runs cal z (t) L S I else runs cal z (pc + 3) L S I := by
  rw [runs_to h rfl (show stepI cal z pc (.ifCond .lt off) L (vI x :: S) I = _ from jmp_to (b := cmpB .lt x 0) ht), runs_if]
  by_cases q : x < 0
  · simp [cmpB, q]
  · simp [cmpB, q]
theorem st_cmp_ge {off x y : Int} {t : Nat} (h : ins z pc = some (.if_icmp .ge off, 3)) (ht : (pc : Int) + off = t) : runs cal z pc L (vI y :: vI x :: S) I = if x < y then runs cal z (pc + 3) L S I else runs cal z (t) L S I := by
  rw [runs_to h rfl (show stepI cal z pc (.if_icmp .ge off) L (vI y :: vI x :: S) I = _ from jmp_to (b := cmpB .ge x y) ht), runs_if]
  by_cases q : x < y
  · have q' : ¬ (y ≤ x) := by omega
    simp [cmpB, q, q']
  · have q' : y ≤ x := by omega
    simp [cmpB, q, q']
theorem st_if_ge {off x : Int} {t : Nat} (h : ins z pc = some (.ifCond .ge off, 3)) (ht : (pc : Int) + off = t) : runs cal z pc L (vI x :: S) I = if x < 0 then runs cal z (pc + 3) L S I else runs cal z (t) L S I := by
  rw [runs_to h rfl (show stepI cal z pc (.ifCond .ge off) L (vI x :: S) I = _ from jmp_to (b := cmpB .ge x 0) ht), runs_if]
  by_cases q : x < 0
  · have q' : ¬ (0 ≤ x) := by omega
    simp [cmpB, q, q']
  · have q' : 0 ≤ x := by omega
    simp [cmpB, q, q']
theorem st_cmp_gt {off x y : Int} {t : Nat} (h : ins z pc = some (.if_icmp .gt off, 3)) (ht : (pc : Int) + off = t) : runs cal z pc L (vI y :: vI x :: S) I = if y < x then runs cal z (t) L S I else runs cal z (pc + 3) L S I := by
  rw [runs_to h rfl (show stepI cal z pc (.if_icmp .gt off) L (vI y :: vI x :: S) I = _ from jmp_to (b := cmpB .gt x y) ht), runs_if]
  by_cases q : y < x
  · simp [cmpB, q]
  · simp [cmpB, q]
theorem st_if_gt {off x : Int} {t : Nat} (h : ins z pc = some (.ifCond .gt off, 3)) (ht : (pc : Int) + off = t) : runs cal z pc L (vI x :: S) I = if 0 < x then runs cal z (t) L S I else runs cal z (pc + 3) L S I := by
  rw [runs_to h rfl (show stepI cal z pc (.ifCond .gt off) L (vI x :: S) I = _ from jmp_to (b := cmpB .gt x 0) ht), runs_if]
  by_cases q : 0 < x
  · simp [cmpB, q]
  · simp [cmpB, q]
theorem st_cmp_le {off x y : Int} {t : Nat} (h : ins z pc = some (.if_icmp .le off, 3)) (ht : (pc : Int) + off = t) : runs cal z pc L (vI y :: vI x :: S) I = if y < x then runs cal z (pc + 3) L S I else runs cal z (t) L S I := by
  rw [runs_to h rfl (show stepI cal z pc (.if_icmp .le off) L (vI y :: vI x :: S) I = _ from jmp_to (b := cmpB .le x y) ht), runs_if]
  by_cases q : y < x
  · have q' : ¬ (x ≤ y) := by omega
    simp [cmpB, q, q']
  · have q' : x ≤ y := by omega
    simp [cmpB, q, q']
theorem st_if_le {off x : Int} {t : Nat} (h : ins z pc = some (.ifCond .le off, 3)) (ht : (pc : Int) + off = t) : runs cal z pc L (vI x :: S) I = if 0 < x then runs cal z (pc + 3) L S I else runs cal z (t) L S I := by
  rw [runs_to h rfl (show stepI cal z pc (.ifCond .le off) L (vI x :: S) I = _ from jmp_to (b := cmpB .le x 0) ht), runs_if]
  by_cases q : 0 < x
  · have q' : ¬ (x ≤ 0) := by omega
    simp [cmpB, q, q']
  · have q' : x ≤ 0 := by omega
    simp [cmpB, q, q']
theorem st_call {i c y n : Nat} {st : Bool} {A T : List AV} (h : ins z pc = some (if st = true then .invokestatic i else .invokevirtual i, 3)) (hc : mC z = c) (hm : mres c i = some y) (h9 : ¬ y = 9999) (hS : mS y = st) (hN : mN y = n) (hl : (S.take n).length = n) (hsum : ((S.drop n).map catA).sum ≤ 8) (hA : (S.take n).reverse = A) (hT : S.drop n = T) (hr : st = true ∨ ∃ a As, A = vR a :: As ∧ recvOK z y a = true) (hw : wid z = wid y ∨ wid z = 2) :
    runs cal z pc L S I = (cal y A I).bind (fun q => runs cal z (pc + 3) L (pushR q.1 T) q.2) := by
  subst hA hT hN hc
  have hok : callOK z y st S = true := by
    simp only [callOK, Bool.and_eq_true, beq_iff_eq, decide_eq_true_eq, Bool.or_eq_true]
    refine ⟨⟨⟨⟨hS, hl⟩, hsum⟩, ?_⟩, hw⟩
    rcases hr with q | ⟨a, As, e, q⟩
    · exact Or.inl (by rw [hS]; exact q)
    · right; rw [e]; exact q
  have e : stepI cal z pc (if st = true then .invokestatic i else .invokevirtual i) L S I = invV cal z pc i st L S I := by cases st <;> rfl
  have hn : (isSw (if st = true then Instr.invokestatic i else Instr.invokevirtual i) || 3 == lenI (if st = true then Instr.invokestatic i else Instr.invokevirtual i)) = true := by cases st <;> rfl
  rw [runs_step h hn, e]
  simp only [invV, hm, if_neg h9, hok, if_true]
  cases cal y (S.take (mN y)).reverse I with
  | none => rfl
  | some q => rfl
theorem rcv {y a k w : Nat} (hk : mC y = k) (ha : clsOf a = k) (hz : wid z = w) (h : (k == 12 || (WdN w).contains a) = true) : recvOK z y a = true := by
  unfold recvOK
  rw [hk, ha]
  simp only [Bool.or_eq_true, beq_iff_eq] at h
  rcases h with q | q
  · simp [q]
  · have := wdc hz q
    simp only [Bool.and_eq_true, beq_self_eq_true, true_and, Bool.or_eq_true]
    exact Or.inr this
theorem st_copy {i c a b na nb : Nat} {sp dp n : Int} (h : ins z pc = some (.invokestatic i, 3)) (hc : mC z = c) (hm : mres c i = some 9999) (ha : cT a = (1, na)) (hb : cT b = (1, nb)) (hwa : (Wd z).contains a = true) (hwb : (Wd z).contains b = true) (hS : S.length ≤ 3) :
    runs cal z pc L (vI n :: vI dp :: vR b :: vI sp :: vR a :: S) I = if 0 ≤ sp ∧ 0 ≤ dp ∧ 0 ≤ n ∧ sp + n ≤ na ∧ dp + n ≤ nb then runs cal z (pc + 3) L S (mcpy I a sp b dp n) else none := by
  refine runs_opt h rfl ?_
  subst hc
  simp only [stepI, invV, hm, if_true, ha, hb, hwa, hwb, hS, true_and]; rfl
theorem st_ret {i : Instr} {q : Option AV} {k : Nat} {ty : Option FieldType} (h : ins z pc = some (i, 1)) (hi : i = retI k) (hk : k < 4) (hty : mR z = ty) (hs : S = q.toList) (hq : (match k, q with | 0, some (.inl _) => True | 1, some (.inr (.inl _)) => True | 2, some (.inr (.inr _)) => True | 3, none => True | _, _ => False)) : runs cal z pc L S I = if retOK ty q = true then some (q, I) else none := by
  subst hi hs hty
  have hn : (isSw (retI k) || 1 == lenI (retI k)) = true := by
    have : k = 0 ∨ k = 1 ∨ k = 2 ∨ k = 3 := by omega
    rcases this with rfl | rfl | rfl | rfl <;> rfl
  rw [runs_step h hn]
  split at hq
  · simp only [retI, stepI, retV, Option.toList]; generalize retOK (mR z) _ = b; cases b <;> rfl
  · simp only [retI, stepI, retV, Option.toList]; generalize retOK (mR z) _ = b; cases b <;> rfl
  · simp only [retI, stepI, retV, Option.toList]; generalize retOK (mR z) _ = b; cases b <;> rfl
  · simp only [retI, stepI, retV, Option.toList]; generalize retOK (mR z) _ = b; cases b <;> rfl
  · exact absurd hq id
theorem st_sw {i : Instr} {n t : Nat} {x off : Int} (h : ins z pc = some (i, n)) (hi : isSw i = true) (hs : stepI cal z pc i L (vI x :: S) I = goV pc off L S I) (ht : (pc : Int) + off = t) : runs cal z pc L (vI x :: S) I = runs cal z t L S I := by
  refine runs_to h (by rw [hi]; rfl) ?_
  have h0 : (0 : Int) ≤ (pc : Int) + off := by omega
  have e : tg pc off = t := by unfold tg; omega
  rw [hs, goV, if_pos h0, e]; rfl
end ROWS
section ROWS
variable {cal : Nat → List AV → MM → Option RES} {z pc : Nat} {L S L' S' : List AV} {I I' : MM}
theorem st_retZ {x : Int} {ty : FieldType} (h : ins z pc = some (.ireturn, 1)) (hty : mR z = some ty) (ht : ty = .boolean ∨ ty = .byte) : runs cal z pc L [vI x] I = if x = 0 ∨ x = 1 then some (some (vI x), I) else none := by
  refine (st_ret (S := [vI x]) (q := some (vI x)) (k := 0) h rfl (by decide) hty rfl trivial).trans ?_
  have e : retOK (some ty) (some (vI x)) = (x == 0 || x == 1) := by rcases ht with rfl | rfl <;> rfl
  rw [e]
  by_cases q : x = 0 ∨ x = 1
  · rw [if_pos q, if_pos (by simpa using q)]
  · rw [if_neg q, if_neg (by simpa using q)]
theorem st_retC {x : Int} (h : ins z pc = some (.ireturn, 1)) (hty : mR z = some .char) : runs cal z pc L [vI x] I = if 0 ≤ x ∧ x < 65536 then some (some (vI x), I) else none := by
  refine (st_ret (S := [vI x]) (q := some (vI x)) (k := 0) h rfl (by decide) hty rfl trivial).trans ?_
  have e : retOK (some .char) (some (vI x)) = (decide (0 ≤ x) && decide (x < 65536)) := rfl
  rw [e]
  by_cases q : 0 ≤ x ∧ x < 65536
  · rw [if_pos q, if_pos (by simpa using q)]
  · rw [if_neg q, if_neg (by simpa using q)]
end ROWS
section ROWS
variable {cal : Nat → List AV → MM → Option RES} {z pc : Nat} {L S L' S' : List AV} {I I' : MM}
theorem st_tswD {d lo hi : Int} {offs : Array Int} {n t : Nat} {x : Int} (h : ins z pc = some (.tableswitch d lo hi offs, n)) (hz : (hi - lo).toNat < offs.size) (hx : x < lo ∨ hi < x) (ht : (pc : Int) + d = t) : runs cal z pc L (vI x :: S) I = runs cal z t L S I := by
  refine st_sw (off := d) h rfl ?_ ht
  have q : ¬ (lo ≤ x ∧ x ≤ hi) := by omega
  simp only [stepI, tsw, if_neg q, if_pos hz]
theorem lsw_d {d x : Int} : ∀ ps : List (Int × Int), (∀ q ∈ ps, ¬ q.1 = x) → lsw d ps x = d
  | [], _ => rfl
  | q :: r, h => by
    rw [lsw, if_neg (h q List.mem_cons_self)]
    exact lsw_d r (fun w hw => h w (List.mem_cons_of_mem _ hw))
theorem st_lswD {d : Int} {ps : Array (Int × Int)} {n t : Nat} {x : Int} (h : ins z pc = some (.lookupswitch d ps, n)) (hp : (ps.toList.zip (ps.toList.drop 1)).all (fun (a, next) => a.1 < next.1) = true) (hx : ∀ q ∈ ps.toList, ¬ q.1 = x) (ht : (pc : Int) + d = t) : runs cal z pc L (vI x :: S) I = runs cal z t L S I := by
  refine st_sw (off := d) h rfl ?_ ht
  simp only [stepI, hp, if_true]
  rw [lsw_d _ hx]
end ROWS
section ROWS
variable {cal : Nat → List AV → MM → Option RES} {z pc : Nat} {L S L' S' : List AV} {I I' : MM}
theorem lcmp_lt (x y : Int) : lcmp x y < 0 ↔ x < y := by
  unfold lcmp
  by_cases h1 : x > y
  · rw [if_pos h1]; omega
  · rw [if_neg h1]
    by_cases h2 : x = y
    · rw [if_pos h2]; omega
    · rw [if_neg h2]; omega
theorem lcmp_gt (x y : Int) : 0 < lcmp x y ↔ y < x := by
  unfold lcmp
  by_cases h1 : x > y
  · rw [if_pos h1]; omega
  · rw [if_neg h1]
    by_cases h2 : x = y
    · rw [if_pos h2]; omega
    · rw [if_neg h2]; omega
theorem lcmp_eq (x y : Int) : lcmp x y = 0 ↔ x = y := by
  unfold lcmp
  by_cases h1 : x > y
  · rw [if_pos h1]; omega
  · rw [if_neg h1]
    by_cases h2 : x = y
    · rw [if_pos h2]; omega
    · rw [if_neg h2]; omega
theorem st_lc_eq {off x y : Int} {t : Nat} (h1 : ins z pc = some (.lcmp, 1)) (h : ins z (pc + 1) = some (.ifCond .eq off, 3)) (ht : ((pc + 1 : Nat) : Int) + off = t) : runs cal z pc L (vL y :: vL x :: S) I = if x = y then runs cal z (t) L S I else runs cal z (pc + 1 + 3) L S I := by
  rw [runs_to h1 rfl (show stepI cal z pc .lcmp L (vL y :: vL x :: S) I = some (.inr (pc + 1, L, vI (lcmp x y) :: S, I)) from rfl), st_if_eq h ht]
  by_cases q : x = y
  · rw [if_pos q, if_pos ((lcmp_eq x y).mpr q)]
  · rw [if_neg q, if_neg (fun w => q ((lcmp_eq x y).mp w))]
theorem st_lc_ne {off x y : Int} {t : Nat} (h1 : ins z pc = some (.lcmp, 1)) (h : ins z (pc + 1) = some (.ifCond .ne off, 3)) (ht : ((pc + 1 : Nat) : Int) + off = t) : runs cal z pc L (vL y :: vL x :: S) I = if x = y then runs cal z (pc + 1 + 3) L S I else runs cal z (t) L S I := by
  rw [runs_to h1 rfl (show stepI cal z pc .lcmp L (vL y :: vL x :: S) I = some (.inr (pc + 1, L, vI (lcmp x y) :: S, I)) from rfl), st_if_ne h ht]
  by_cases q : x = y
  · rw [if_pos q, if_pos ((lcmp_eq x y).mpr q)]
  · rw [if_neg q, if_neg (fun w => q ((lcmp_eq x y).mp w))]
theorem st_lc_lt {off x y : Int} {t : Nat} (h1 : ins z pc = some (.lcmp, 1)) (h : ins z (pc + 1) = some (.ifCond .lt off, 3)) (ht : ((pc + 1 : Nat) : Int) + off = t) : runs cal z pc L (vL y :: vL x :: S) I = if x < y then runs cal z (t) L S I else runs cal z (pc + 1 + 3) L S I := by
  rw [runs_to h1 rfl (show stepI cal z pc .lcmp L (vL y :: vL x :: S) I = some (.inr (pc + 1, L, vI (lcmp x y) :: S, I)) from rfl), st_if_lt h ht]
  by_cases q : x < y
  · rw [if_pos q, if_pos ((lcmp_lt x y).mpr q)]
  · rw [if_neg q, if_neg (fun w => q ((lcmp_lt x y).mp w))]
theorem st_lc_ge {off x y : Int} {t : Nat} (h1 : ins z pc = some (.lcmp, 1)) (h : ins z (pc + 1) = some (.ifCond .ge off, 3)) (ht : ((pc + 1 : Nat) : Int) + off = t) : runs cal z pc L (vL y :: vL x :: S) I = if x < y then runs cal z (pc + 1 + 3) L S I else runs cal z (t) L S I := by
  rw [runs_to h1 rfl (show stepI cal z pc .lcmp L (vL y :: vL x :: S) I = some (.inr (pc + 1, L, vI (lcmp x y) :: S, I)) from rfl), st_if_ge h ht]
  by_cases q : x < y
  · rw [if_pos q, if_pos ((lcmp_lt x y).mpr q)]
  · rw [if_neg q, if_neg (fun w => q ((lcmp_lt x y).mp w))]
theorem st_lc_gt {off x y : Int} {t : Nat} (h1 : ins z pc = some (.lcmp, 1)) (h : ins z (pc + 1) = some (.ifCond .gt off, 3)) (ht : ((pc + 1 : Nat) : Int) + off = t) : runs cal z pc L (vL y :: vL x :: S) I = if y < x then runs cal z (t) L S I else runs cal z (pc + 1 + 3) L S I := by
  rw [runs_to h1 rfl (show stepI cal z pc .lcmp L (vL y :: vL x :: S) I = some (.inr (pc + 1, L, vI (lcmp x y) :: S, I)) from rfl), st_if_gt h ht]
  by_cases q : y < x
  · rw [if_pos q, if_pos ((lcmp_gt x y).mpr q)]
  · rw [if_neg q, if_neg (fun w => q ((lcmp_gt x y).mp w))]
theorem st_lc_le {off x y : Int} {t : Nat} (h1 : ins z pc = some (.lcmp, 1)) (h : ins z (pc + 1) = some (.ifCond .le off, 3)) (ht : ((pc + 1 : Nat) : Int) + off = t) : runs cal z pc L (vL y :: vL x :: S) I = if y < x then runs cal z (pc + 1 + 3) L S I else runs cal z (t) L S I := by
  rw [runs_to h1 rfl (show stepI cal z pc .lcmp L (vL y :: vL x :: S) I = some (.inr (pc + 1, L, vI (lcmp x y) :: S, I)) from rfl), st_if_le h ht]
  by_cases q : y < x
  · rw [if_pos q, if_pos ((lcmp_gt x y).mpr q)]
  · rw [if_neg q, if_neg (fun w => q ((lcmp_gt x y).mp w))]
end ROWS
