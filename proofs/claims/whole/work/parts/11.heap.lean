/-! Fields and rows. -/
theorem fres_of {c i k s : Nat} (h : fres c i = some (k, s)) : Cond.fieldLink (clsN c) i (clsT k s).1 (clsT k s).2.1 (clsT k s).2.2.1 ∈ TBL ∧ s < clsK k ∧ k < 12 := by
  simp only [fres, Option.map_eq_some_iff] at h
  obtain ⟨e, h1, h2⟩ := h
  have h3 := List.find?_some h1
  have h4 := List.mem_of_find?_eq_some h1
  simp only [Bool.and_eq_true, beq_iff_eq] at h3
  obtain ⟨e1, e2, e3, e4⟩ := e
  cases h2
  obtain ⟨rfl, rfl⟩ := h3
  exact ⟨fresL_P _ h4, fresL_Q _ h4⟩
section STEP
variable {p : Program} {l : Launch} {e : Env} {R : Room} {s : State} {m : MethodId} {args : Array Value} {below : List Frame} {meth : Method} {c : Code} {H : Heap} {locs : List Loc} {cells slots : Nat} {Q : State → Prop}
variable {z pc : Nat} {ad : Nat → Nat} {rv : Nat → Value} {cI cL cZ : ClassId} {D : va_G} {Ls : Nat} {xs : Nat → Int32} {I : MM} {L S S' : List AV} {ls : Array Slot} {c' : CFG}
theorem cellE_o {a k : Nat} (h1 : (cT a).1 = 0) (h2 : (cT a).2 = k) : cellE cI cL cZ ad I a = .inr (k, (List.range (clsK k)).map (fldV ad I a k)) := by
  unfold cellE
  have h : cT a = (0, k) := Prod.ext h1 h2
  rw [h]
  rfl
theorem cellE_i {a : Nat} (h1 : (cT a).1 = 1) : cellE cI cL cZ ad I a = .inl (cI, (cT a).2, .inl (fun j => Int32.ofInt (I a j))) := by
  unfold cellE
  have h : cT a = (1, (cT a).2) := Prod.ext h1 rfl
  rw [h]
  rfl
theorem cellE_l {a : Nat} (h1 : (cT a).1 = 2) : cellE cI cL cZ ad I a = .inl (cL, (cT a).2, .inr (.inl (fun j => Int64.ofInt (I a j)))) := by
  unfold cellE
  have h : cT a = (2, (cT a).2) := Prod.ext h1 rfl
  rw [h]
  rfl
theorem cellE_z {a : Nat} (h1 : (cT a).1 = 3) : cellE cI cL cZ ad I a = .inl (cZ, (cT a).2, .inl (fun j => Int32.ofInt (I a j))) := by
  unfold cellE
  have h : cT a = (3, (cT a).2) := Prod.ext h1 rfl
  rw [h]
  rfl
theorem tyOf_o {a k : Nat} {j : Nat} (h1 : (cT a).1 = 0) (h2 : (cT a).2 = k) : tyOf a j = fk k j := by
  unfold tyOf
  have h : cT a = (0, k) := Prod.ext h1 h2
  rw [h]
  simp
theorem tyOf_i {a : Nat} {j : Int} (h1 : (cT a).1 = 1) : tyOf a j = 0 := by
  unfold tyOf
  have h : cT a = (1, (cT a).2) := Prod.ext h1 rfl
  rw [h]
  rfl
theorem tyOf_l {a : Nat} {j : Int} (h1 : (cT a).1 = 2) : tyOf a j = 1 := by
  unfold tyOf
  have h : cT a = (2, (cT a).2) := Prod.ext h1 rfl
  rw [h]
  rfl
theorem tyOf_z {a : Nat} {j : Int} (h1 : (cT a).1 = 3) : tyOf a j = 2 := by
  unfold tyOf
  have h : cT a = (3, (cT a).2) := Prod.ext h1 rfl
  rw [h]
  rfl
theorem W_lt {z a : Nat} (h : (Wd z).contains a = true) : a ∈ Wd z ∧ a < 89 := by
  have h1 : a ∈ Wd z := by simpa using h
  refine ⟨h1, ?_⟩
  have h2 : ∀ w, ∀ a ∈ WdN w, a < 89 := fun w => by
    unfold WdN
    split <;> decide +kernel
  exact h2 _ a h1
theorem sI_getfield {i : Nat} (hC : CX p s m args c z ad rv cI cL cZ D Ls xs) (hV : INV s z ad rv cI cL cZ D Ls xs I L S ls H locs) (hd : decode (mB z) pc = .ok (.getfield i, 3)) (h12 : mC z ≠ 12) (h : getV z pc i (Wd z) L S I = some (.inr c')) (k : NXT p l e R s m args below meth c cells slots Q z ad rv cI cL cZ D Ls xs c') : W p l e R s m args below meth c H locs cells slots Q (F0 m pc ls (S.map (conc rv))) := by
  obtain ⟨hx, hb, hml, hown, hts, hK, hrv, hrc, -⟩ := hC
  unfold getV at h
  split at h
  · next a S' =>
    rw [if_neg h12] at h
    split at h
    · next ci si hf =>
      obtain ⟨f1, f2, f3⟩ := fres_of hf
      split at h
      · next hq =>
        obtain ⟨q1, q2, q3⟩ := hq
        obtain ⟨w1, w2⟩ := W_lt q3
        obtain ⟨pos, g1, g2⟩ := wsK_at (cI := cI) (cL := cL) (cZ := cZ) (ad := ad) (I := I) w1
        rw [cellE_o q1 q2] at g2
        have base : ∀ v : Value, v = fldV ad I a ci si → W p l e R s m args below meth c H locs cells slots Q (F0 m (pc + 3) ls (v :: S'.map (conc rv))) → W p l e R s m args below meth c H locs cells slots Q (F0 m pc ls (.ref (ad a) :: S'.map (conc rv))) := fun v hv kk =>
          va_get (ref := (clsT ci si).1) hx hb hts (uws_ok f3) hown hK hV.2.2.2.2.1 pos g2 (ccl_ok ci f3) si f2 (hts _ f1) (fun x hx => hx) (by rw [List.getElem?_map, List.getElem?_range f2, hv]; rfl) hd kk
        have hM := hV.1 a si
        rw [tyOf_o q1 q2] at hM
        show W p l e R s m args below meth c H locs cells slots Q (F0 m pc ls (rv a :: S'.map (conc rv)))
        rw [hrv a (by omega)]
        split at h
        · next hk =>
          simp only [lcc, Option.some.injEq, Sum.inr.injEq] at h
          subst h
          rw [hk] at hM
          exact base _ (by unfold fldV; rw [hk]; rfl) (k ls H locs (hV.tl.psh (v := vI (I a si)) hM))
        · next hk =>
          simp only [lcc, Option.some.injEq, Sum.inr.injEq] at h
          subst h
          rw [hk] at hM
          exact base _ (by unfold fldV; rw [hk]; rfl) (k ls H locs (hV.tl.psh (v := vL (I a si)) hM))
        · next hk =>
          simp only [lcc, Option.some.injEq, Sum.inr.injEq] at h
          subst h
          rw [hk] at hM
          exact base _ (by unfold fldV; rw [hk]; rfl) (k ls H locs (hV.tl.psh (v := vI (I a si)) (by rcases hM with q | q <;> rw [q] <;> exact ⟨by decide, by decide⟩)))
        · next hk =>
          simp only [lcc, Option.some.injEq, Sum.inr.injEq] at h
          subst h
          have hsh : sh a si ≠ 99 := by
            have hh : ∀ a, a < 89 → ∀ t, t < 39 → sh a t ≠ 99 := by decide +kernel
            refine hh a w2 si ?_
            have h39 : ∀ c, c < 12 → clsK c ≤ 39 := by decide +kernel
            exact Nat.lt_of_lt_of_le f2 (h39 ci f3)
          have k1 := k ls H locs (hV.tl.psh (v := vR (sh a si)) trivial)
          refine base _ ?_ k1
          show rv (sh a si) = _
          rw [hrv _ hsh]
          unfold fldV
          rw [hk]
          rfl
        · cases h
      · cases h
    · cases h
  · cases h
theorem fs_set {a ci si : Nat} {x : Int} {v : Value} (hv : v = fldV ad (mset I a si x) a ci si) : ((List.range (clsK ci)).map (fldV ad I a ci)).set si v = (List.range (clsK ci)).map (fldV ad (mset I a si x) a ci) := by
  apply List.ext_getElem?
  intro j
  by_cases hj : j = si
  · subst hj
    by_cases hlt : j < clsK ci
    · rw [List.getElem?_set_self (by simpa using hlt)]
      simp [hlt, hv]
    · simp [List.getElem?_set, hlt]
  · rw [List.getElem?_set_ne (Ne.symm hj)]
    have e : fldV ad (mset I a si x) a ci j = fldV ad I a ci j := by
      unfold fldV mset
      have hj' : ¬ ((j : Int) = si) := by omega
      simp [hj']
    simp only [List.getElem?_map]
    by_cases hlt : j < clsK ci
    · simp [hlt, e]
    · simp [hlt]
theorem sI_putfield {i : Nat} (hC : CX p s m args c z ad rv cI cL cZ D Ls xs) (hV : INV s z ad rv cI cL cZ D Ls xs I L S ls H locs) (hd : decode (mB z) pc = .ok (.putfield i, 3)) (h : putV z pc i (Wd z) L S I = some (.inr c')) (k : NXT p l e R s m args below meth c cells slots Q z ad rv cI cL cZ D Ls xs c') : W p l e R s m args below meth c H locs cells slots Q (F0 m pc ls (S.map (conc rv))) := by
  obtain ⟨hx, hb, hml, hown, hts, hK, hrv, hrc, hinj, -⟩ := hC
  unfold putV at h
  split at h
  · next v a S' =>
    split at h
    · next ci si hf =>
      obtain ⟨f1, f2, f3⟩ := fres_of hf
      split at h
      · next hq =>
        obtain ⟨q1, q2, q3⟩ := hq
        obtain ⟨w1, w2⟩ := W_lt q3
        obtain ⟨pos, g1, g2⟩ := wsK_at (cI := cI) (cL := cL) (cZ := cZ) (ad := ad) (I := I) w1
        rw [cellE_o q1 q2] at g2
        obtain ⟨t0, t1, t2, t3⟩ := cfk_ok ci f3 si f2
        have hD := wsK_D (cI := cI) (cL := cL) (cZ := cZ) (I := I) hinj (Wd_nodup z)
        have base : ∀ (x : Int) (w : Value) (ty : FieldType), w = fldV ad (mset I a si x) a ci si → fk ci si ≠ 3 → clsTy ci si = ty → narrow ty w = w → fits ty w = true → okT (tyOf a si) x → c' = (pc + 3, L, S', mset I a si x) → W p l e R s m args below meth c H locs cells slots Q (F0 m pc ls (w :: .ref (ad a) :: S'.map (conc rv))) := fun x w ty hw h3 hty hn hfit hok hc' => by
          refine va_put (ref := (clsT ci si).1) hx hb hts (uws_ok f3) (clsTy ci) (cty_ok ci f3) (cnm_ok ci f3) hown hK hV.2.2.2.2.1 hD hV.2.2.2.2.2.1 pos g2 (ccl_ok ci f3) si f2 (hts _ f1) (fun x hx => hx) (t0 h3) (by rw [cty_ok ci f3 si f2, hty]) hn hfit (by simpa using f2) hd (fun H1 locs1 hP1 hD1 hS1 => ?_)
          subst hc'
          rw [fs_set hw, wsK_set (I' := mset I a si x) (Wd_nodup z) g1 (fun j hj => by funext t; simp [mset, hj]) (by rw [cellE_o q1 q2])] at hP1
          refine k ls H1 locs1 ⟨okM_set hV.1 hok, hV.2.1, hV.tl.tl.2.2.1, hV.2.2.2.1, hP1, hS1, fun hz => ?_⟩
          have hne : (100 : Nat) ≠ a := by omega
          have := hV.2.2.2.2.2.2 hz
          simpa [mset, hne] using this
        show W p l e R s m args below meth c H locs cells slots Q (F0 m pc ls (conc rv v :: rv a :: S'.map (conc rv)))
        rw [hrv a (by omega)]
        split at h
        · next x hk =>
          simp only [lcc, Option.some.injEq, Sum.inr.injEq] at h
          exact base x _ .int (by unfold fldV; rw [hk]; simp [mset, conc]) (by rw [hk]; decide) (t1 hk) rfl rfl (by rw [tyOf_o q1 q2, hk]; exact hV.hd) h.symm
        · next x hk =>
          simp only [lcc, Option.some.injEq, Sum.inr.injEq] at h
          exact base x _ .long (by unfold fldV; rw [hk]; simp [mset, conc]) (by rw [hk]; decide) (t2 hk) rfl rfl (by rw [tyOf_o q1 q2, hk]; exact hV.hd) h.symm
        · next x hk =>
          split at h
          · next h01 =>
            simp only [lcc, Option.some.injEq, Sum.inr.injEq] at h
            refine base x _ .boolean (by unfold fldV; rw [hk]; simp [mset, conc]) (by rw [hk]; decide) (t3 hk) ?_ ?_ (by rw [tyOf_o q1 q2, hk]; exact h01) h.symm
            · rcases h01 with rfl | rfl <;> rfl
            · rcases h01 with rfl | rfl <;> rfl
          · cases h
        · cases h
      · cases h
    · cases h
  · cases h
theorem wid_of {z : Nat} (h : (Wd z).length = 88) : wid z = 2 := by
  have h1 : ∀ w, (WdN w).length = 88 → w = 2 := fun w => by
    unfold WdN
    split
    · intro _; rfl
    · intro q; exact absurd q (by decide +kernel)
    · intro q; exact absurd q (by decide +kernel)
  exact h1 _ h
theorem cT_lt {a k n : Nat} (h : cT a = (k, n)) (hk : k ≠ 9) : a < 101 := by
  rcases Nat.lt_or_ge a 101 with q | q
  · exact q
  · rw [cT, List.getD_eq_getElem?_getD, List.getElem?_eq_none (by exact q)] at h
    cases h
    exact absurd rfl hk
theorem at_kind8 {a : Nat} (h : (cT a).1 = 8) : a = 100 := by
  have ha : a < 101 := cT_lt (Prod.ext h rfl : cT a = (8, (cT a).2)) (by decide)
  have hr : ∀ a, a < 101 → (cT a).1 = 8 → a = 100 := by decide +kernel
  exact hr a ha h
theorem at_kind6 {a r : Nat} (h : cT a = (6, r)) : r < 4 ∧ a = 93 + r := by
  have ha := cT_lt h (by decide)
  have hr : ∀ a, a < 101 → (cT a).1 = 6 → (cT a).2 < 4 ∧ a = 93 + (cT a).2 := by decide +kernel
  have := hr a ha (by rw [h])
  rwa [h] at this
theorem at_kind5 {a : Nat} (h : (cT a).1 = 5) : (cT a).2 < 4 ∧ a = 89 + (cT a).2 := by
  have ha : a < 101 := cT_lt (Prod.ext h rfl : cT a = (5, (cT a).2)) (by decide)
  have hr : ∀ a, a < 101 → (cT a).1 = 5 → (cT a).2 < 4 ∧ a = 89 + (cT a).2 := by decide +kernel
  exact hr a ha h
theorem at100 {z a : Nat} {i x : Int} (h : a < 89) (hI : wid z = 2 → I 100 (-1) = Ls ∧ ∀ j : Nat, j < Ls → Int32.ofInt (I 100 j) = xs j) : wid z = 2 → mset I a i x 100 (-1) = Ls ∧ ∀ j : Nat, j < Ls → Int32.ofInt (mset I a i x 100 j) = xs j := by
  intro hz
  have hne : (100 : Nat) ≠ a := by omega
  have := hI hz
  simpa [mset, hne] using this
theorem upd_i {a : Nat} {i x : Int} (h0 : 0 ≤ i) (hi : ok32 i) : upd (fun j : Nat => Int32.ofInt (I a j)) (Int32.ofInt i).toNatClampNeg (Int32.ofInt x) = fun j : Nat => Int32.ofInt (mset I a i x a j) := by
  funext j
  rw [i32_nat hi]
  unfold upd mset
  by_cases hj : j = i.toNat
  · rw [if_pos hj, if_pos ⟨rfl, by omega⟩]
  · rw [if_neg hj, if_neg (fun q => hj (by omega))]
theorem upd_l {a : Nat} {i x : Int} (h0 : 0 ≤ i) (hi : ok32 i) : vp_updL (fun j : Nat => Int64.ofInt (I a j)) (Int32.ofInt i).toNatClampNeg (Int64.ofInt x) = fun j : Nat => Int64.ofInt (mset I a i x a j) := by
  funext j
  rw [i32_nat hi]
  unfold vp_updL mset
  by_cases hj : j = i.toNat
  · rw [if_pos hj, if_pos ⟨rfl, by omega⟩]
  · rw [if_neg hj, if_neg (fun q => hj (by omega))]
theorem ob_row {q : Nat} (h : q = 0) : (tysG cI cL cZ)[0]? = some (cI, FieldType.int) := rfl
theorem at_nat {a : Nat} {i : Int} (h0 : 0 ≤ i) (hi : ok32 i) : I a ((Int32.ofInt i).toNatClampNeg : Nat) = I a i := by
  rw [i32_nat hi, Int.toNat_of_nonneg h0]
theorem sI_iaload (hC : CX p s m args c z ad rv cI cL cZ D Ls xs) (hV : INV s z ad rv cI cL cZ D Ls xs I L S ls H locs) (hd : decode (mB z) pc = .ok (.iaload, 1)) (h : aldI pc (Wd z) L S I = some (.inr c')) (k : NXT p l e R s m args below meth c cells slots Q z ad rv cI cL cZ D Ls xs c') : W p l e R s m args below meth c H locs cells slots Q (F0 m pc ls (S.map (conc rv))) := by
  obtain ⟨hx, hb, hml, hown, hts, hK, hrv, hrc, hinj, hSt, hXs⟩ := hC
  unfold aldI at h
  split at h
  · next i a S' =>
    split at h
    · next n hk =>
      split at h
      · next hq =>
        obtain ⟨q1, q2, q3⟩ := hq
        simp only [lcc, Option.some.injEq, Sum.inr.injEq] at h
        subst h
        obtain ⟨w1, w2⟩ := W_lt q3
        have hi : ok32 i := hV.hd
        have hM := hV.1 a i
        have hk1 : (cT a).1 = 1 := by rw [hk]
        have hk2 : (cT a).2 = n := by rw [hk]
        rw [tyOf_i hk1] at hM
        obtain ⟨pos, g1, g2⟩ := wsK_at (cI := cI) (cL := cL) (cZ := cZ) (ad := ad) (I := I) w1
        rw [cellE_i hk1] at g2
        have k1 := k ls H locs (hV.tl.tl.psh (v := vI (I a i)) hM)
        show W p l e R s m args below meth c H locs cells slots Q (F0 m pc ls (.int (Int32.ofInt i) :: rv a :: S'.map (conc rv)))
        rw [hrv a (by omega)]
        refine va_iald hx hb hK hV.2.2.2.2.1 pos 0 g2 rfl (i32_vp hi q1 (by omega)) hd ?_
        rw [at_nat (I := I) (a := a) q1 hi]
        exact k1
      · cases h
    · next r hk =>
      split at h
      · next hq =>
        obtain ⟨q1, q2⟩ := hq
        simp only [lcc, Option.some.injEq, Sum.inr.injEq] at h
        subst h
        have hi : ok32 i := hV.hd
        have hr : ∀ a, a < 101 → (cT a).1 = 4 → (a = 97 ∧ (cT a).2 = 0) ∨ (a = 98 ∧ (cT a).2 = 1) := by decide +kernel
        have ha : a < 101 := by
          rcases Nat.lt_or_ge a 101 with q | q
          · exact q
          · rw [cT, List.getD_eq_getElem?_getD, List.getElem?_eq_none (by exact q)] at hk
            cases hk
        have hv : ∀ r, r < 2 → ∀ t, t < 6 → ok32 ((roT.getD r []).getD t 0) := by
          have : ∀ r, r < 2 → ∀ t, t < 6 → -2147483648 ≤ ((roT.getD r []).getD t 0) ∧ ((roT.getD r []).getD t 0) ≤ 2147483647 := by decide +kernel
          exact this
        have hl6 : ∀ r, r < 2 → (roT.getD r []).length = 6 := by decide +kernel
        show W p l e R s m args below meth c H locs cells slots Q (F0 m pc ls (.int (Int32.ofInt i) :: rv a :: S'.map (conc rv)))
        rcases hr a ha (by rw [hk]) with ⟨rfl, h0⟩ | ⟨rfl, h0⟩
        · rw [hk] at h0
          cases h0
          rw [hl6 0 (by decide)] at q2
          have k1 := k ls H locs (hV.tl.tl.psh (v := vI ((roT.getD 0 []).getD i.toNat 0)) (hv 0 (by decide) _ (by omega)))
          rw [hrv _ (by decide)]
          exact va_ti hx hb hSt.1.2 hV.2.2.2.2.2.1 (i32_vp hi q1 (by omega)) (by rw [i32_nat hi]; rfl) hd k1
        · rw [hk] at h0
          cases h0
          rw [hl6 1 (by decide)] at q2
          have k1 := k ls H locs (hV.tl.tl.psh (v := vI ((roT.getD 1 []).getD i.toNat 0)) (hv 1 (by decide) _ (by omega)))
          rw [hrv _ (by decide)]
          exact va_ti hx hb hSt.2.1.2 hV.2.2.2.2.2.1 (i32_vp hi q1 (by omega)) (by rw [i32_nat hi]; rfl) hd k1
      · cases h
    · next hk =>
      split at h
      · next hq =>
        obtain ⟨q1, q2, q3⟩ := hq
        simp only [lcc, Option.some.injEq, Sum.inr.injEq] at h
        subst h
        have hz : wid z = 2 := wid_of q3
        have h100 : a = 100 := at_kind8 (by rw [hk])
        subst h100
        obtain ⟨hX1, hX2, hX3⟩ := hXs hz
        obtain ⟨e1, e2⟩ := hV.2.2.2.2.2.2 hz
        have hi : ok32 i := hV.hd
        have hM := hV.1 100 i
        have k1 := k ls H locs (hV.tl.tl.psh (v := vI (I 100 i)) hM)
        show W p l e R s m args below meth c H locs cells slots Q (F0 m pc ls (.int (Int32.ofInt i) :: rv 100 :: S'.map (conc rv)))
        rw [hrv _ (by decide)]
        refine va_sld hx hb hX1 hX2 hX3 hV.2.2.2.2.2.1 (i32_vp hi q1 (by omega)) hd ?_
        rw [← e2 _ (by rw [i32_nat hi]; omega), at_nat (I := I) (a := 100) q1 hi]
        exact k1
      · cases h
    · cases h
  · cases h
theorem sI_laload (hC : CX p s m args c z ad rv cI cL cZ D Ls xs) (hV : INV s z ad rv cI cL cZ D Ls xs I L S ls H locs) (hd : decode (mB z) pc = .ok (.laload, 1)) (h : aldL pc (Wd z) L S I = some (.inr c')) (k : NXT p l e R s m args below meth c cells slots Q z ad rv cI cL cZ D Ls xs c') : W p l e R s m args below meth c H locs cells slots Q (F0 m pc ls (S.map (conc rv))) := by
  obtain ⟨hx, hb, hml, hown, hts, hK, hrv, hrc, hinj, hSt, hXs⟩ := hC
  unfold aldL at h
  split at h
  · next i a S' =>
    split at h
    · next n hk =>
      split at h
      · next hq =>
        obtain ⟨q1, q2, q3⟩ := hq
        simp only [lcc, Option.some.injEq, Sum.inr.injEq] at h
        subst h
        obtain ⟨w1, w2⟩ := W_lt q3
        have hi : ok32 i := hV.hd
        have hM := hV.1 a i
        have hk1 : (cT a).1 = 2 := by rw [hk]
        have hk2 : (cT a).2 = n := by rw [hk]
        rw [tyOf_l hk1] at hM
        obtain ⟨pos, g1, g2⟩ := wsK_at (cI := cI) (cL := cL) (cZ := cZ) (ad := ad) (I := I) w1
        rw [cellE_l hk1] at g2
        have k1 := k ls H locs (hV.tl.tl.psh (v := vL (I a i)) hM)
        show W p l e R s m args below meth c H locs cells slots Q (F0 m pc ls (.int (Int32.ofInt i) :: rv a :: S'.map (conc rv)))
        rw [hrv a (by omega)]
        refine va_lald hx hb hK hV.2.2.2.2.1 pos 1 g2 rfl (i32_vp hi q1 (by omega)) hd ?_
        rw [at_nat (I := I) (a := a) q1 hi]
        exact k1
      · cases h
    · cases h
  · cases h
theorem sI_baload (hC : CX p s m args c z ad rv cI cL cZ D Ls xs) (hV : INV s z ad rv cI cL cZ D Ls xs I L S ls H locs) (hd : decode (mB z) pc = .ok (.baload, 1)) (h : aldB pc (Wd z) L S I = some (.inr c')) (k : NXT p l e R s m args below meth c cells slots Q z ad rv cI cL cZ D Ls xs c') : W p l e R s m args below meth c H locs cells slots Q (F0 m pc ls (S.map (conc rv))) := by
  obtain ⟨hx, hb, hml, hown, hts, hK, hrv, hrc, hinj, hSt, hXs⟩ := hC
  unfold aldB at h
  split at h
  · next i a S' =>
    split at h
    · next n hk =>
      split at h
      · next hq =>
        obtain ⟨q1, q2, q3⟩ := hq
        simp only [lcc, Option.some.injEq, Sum.inr.injEq] at h
        subst h
        obtain ⟨w1, w2⟩ := W_lt q3
        have hi : ok32 i := hV.hd
        have hM := hV.1 a i
        have hk1 : (cT a).1 = 3 := by rw [hk]
        have hk2 : (cT a).2 = n := by rw [hk]
        rw [tyOf_z hk1] at hM
        obtain ⟨pos, g1, g2⟩ := wsK_at (cI := cI) (cL := cL) (cZ := cZ) (ad := ad) (I := I) w1
        rw [cellE_z hk1] at g2
        have k1 := k ls H locs (hV.tl.tl.psh (v := vI (I a i)) (by rcases hM with q | q <;> rw [q] <;> exact ⟨by decide, by decide⟩))
        show W p l e R s m args below meth c H locs cells slots Q (F0 m pc ls (.int (Int32.ofInt i) :: rv a :: S'.map (conc rv)))
        rw [hrv a (by omega)]
        refine va_zald hx hb hK hV.2.2.2.2.1 pos 2 g2 rfl (i32_vp hi q1 (by omega)) hd ?_
        rw [at_nat (I := I) (a := a) q1 hi]
        exact k1
      · cases h
    · next r hk =>
      split at h
      · next hq =>
        obtain ⟨q1, q2⟩ := hq
        simp only [lcc, Option.some.injEq, Sum.inr.injEq] at h
        subst h
        have hi : ok32 i := hV.hd
        obtain ⟨hr4, ha⟩ := at_kind6 hk
        have hS4 := (hSt.2.2.2.2.1.1 r hr4).2.2.2
        have hv : ∀ r, r < 4 → ∀ t, t < (strT.getD r []).length → (-2147483648 ≤ (strT.getD r []).getD t 0 ∧ (strT.getD r []).getD t 0 ≤ 2147483647) ∧ (strB.getD r []).getD t 0 = Int32.ofInt ((strT.getD r []).getD t 0) := by decide +kernel
        have hl : ∀ r, r < 4 → (strT.map (fun l => l.length)).getD r 0 = (strT.getD r []).length := by decide +kernel
        have hvr := hv r hr4 i.toNat (by omega)
        have k1 := k ls H locs (hV.tl.tl.psh (v := vI ((strT.getD r []).getD i.toNat 0)) hvr.1)
        show W p l e R s m args below meth c H locs cells slots Q (F0 m pc ls (.int (Int32.ofInt i) :: rv a :: S'.map (conc rv)))
        rw [hrv _ (by omega), ha]
        exact va_tb hx hb hS4 hV.2.2.2.2.2.1 (i32_vp hi q1 (by rw [hl r hr4]; omega)) (by rw [i32_nat hi, hvr.2]; rfl) hd k1
      · cases h
    · cases h
  · cases h
theorem sI_iastore (hC : CX p s m args c z ad rv cI cL cZ D Ls xs) (hV : INV s z ad rv cI cL cZ D Ls xs I L S ls H locs) (hd : decode (mB z) pc = .ok (.iastore, 1)) (h : astI pc (Wd z) L S I = some (.inr c')) (k : NXT p l e R s m args below meth c cells slots Q z ad rv cI cL cZ D Ls xs c') : W p l e R s m args below meth c H locs cells slots Q (F0 m pc ls (S.map (conc rv))) := by
  obtain ⟨hx, hb, hml, hown, hts, hK, hrv, hrc, hinj, hSt, hXs⟩ := hC
  unfold astI at h
  split at h
  · next x i a S' =>
    split at h
    · next n hk =>
      split at h
      · next hq =>
        obtain ⟨q1, q2, q3⟩ := hq
        simp only [lcc, Option.some.injEq, Sum.inr.injEq] at h
        subst h
        obtain ⟨w1, w2⟩ := W_lt q3
        have hi : ok32 i := hV.tl.hd
        have hk1 : (cT a).1 = 1 := by rw [hk]
        have hk2 : (cT a).2 = n := by rw [hk]
        obtain ⟨pos, g1, g2⟩ := wsK_at (cI := cI) (cL := cL) (cZ := cZ) (ad := ad) (I := I) w1
        rw [cellE_i hk1] at g2
        have hD := wsK_D (cI := cI) (cL := cL) (cZ := cZ) (I := I) hinj (Wd_nodup z)
        show W p l e R s m args below meth c H locs cells slots Q (F0 m pc ls (conc rv _ :: .int (Int32.ofInt i) :: rv a :: S'.map (conc rv)))
        rw [hrv a (by omega)]
        refine va_iast hx hb hK hV.2.2.2.2.1 hD hV.2.2.2.2.2.1 pos 0 g2 rfl (i32_vp hi q1 (by omega)) hd (fun H1 locs1 hP1 hD1 hS1 => ?_)
        rw [upd_i q1 hi, wsK_set (I' := mset I a i x) (Wd_nodup z) g1 (fun j hj => by funext t; simp [mset, hj]) (by rw [cellE_i hk1])] at hP1
        exact k ls H1 locs1 ⟨okM_set hV.1 (by rw [tyOf_i hk1]; exact hV.hd), hV.2.1, hV.tl.tl.tl.2.2.1, hV.2.2.2.1, hP1, hS1, at100 w2 hV.2.2.2.2.2.2⟩
      · cases h
    · cases h
  · cases h
theorem sI_lastore (hC : CX p s m args c z ad rv cI cL cZ D Ls xs) (hV : INV s z ad rv cI cL cZ D Ls xs I L S ls H locs) (hd : decode (mB z) pc = .ok (.lastore, 1)) (h : astL pc (Wd z) L S I = some (.inr c')) (k : NXT p l e R s m args below meth c cells slots Q z ad rv cI cL cZ D Ls xs c') : W p l e R s m args below meth c H locs cells slots Q (F0 m pc ls (S.map (conc rv))) := by
  obtain ⟨hx, hb, hml, hown, hts, hK, hrv, hrc, hinj, hSt, hXs⟩ := hC
  unfold astL at h
  split at h
  · next x i a S' =>
    split at h
    · next n hk =>
      split at h
      · next hq =>
        obtain ⟨q1, q2, q3⟩ := hq
        simp only [lcc, Option.some.injEq, Sum.inr.injEq] at h
        subst h
        obtain ⟨w1, w2⟩ := W_lt q3
        have hi : ok32 i := hV.tl.hd
        have hk1 : (cT a).1 = 2 := by rw [hk]
        have hk2 : (cT a).2 = n := by rw [hk]
        obtain ⟨pos, g1, g2⟩ := wsK_at (cI := cI) (cL := cL) (cZ := cZ) (ad := ad) (I := I) w1
        rw [cellE_l hk1] at g2
        have hD := wsK_D (cI := cI) (cL := cL) (cZ := cZ) (I := I) hinj (Wd_nodup z)
        show W p l e R s m args below meth c H locs cells slots Q (F0 m pc ls (conc rv _ :: .int (Int32.ofInt i) :: rv a :: S'.map (conc rv)))
        rw [hrv a (by omega)]
        refine va_last hx hb hK hV.2.2.2.2.1 hD hV.2.2.2.2.2.1 pos 1 g2 rfl (i32_vp hi q1 (by omega)) hd (fun H1 locs1 hP1 hD1 hS1 => ?_)
        rw [upd_l q1 hi, wsK_set (I' := mset I a i x) (Wd_nodup z) g1 (fun j hj => by funext t; simp [mset, hj]) (by rw [cellE_l hk1])] at hP1
        exact k ls H1 locs1 ⟨okM_set hV.1 (by rw [tyOf_l hk1]; exact hV.hd), hV.2.1, hV.tl.tl.tl.2.2.1, hV.2.2.2.1, hP1, hS1, at100 w2 hV.2.2.2.2.2.2⟩
      · cases h
    · cases h
  · cases h
theorem sI_bastore (hC : CX p s m args c z ad rv cI cL cZ D Ls xs) (hV : INV s z ad rv cI cL cZ D Ls xs I L S ls H locs) (hd : decode (mB z) pc = .ok (.bastore, 1)) (h : astB pc (Wd z) L S I = some (.inr c')) (k : NXT p l e R s m args below meth c cells slots Q z ad rv cI cL cZ D Ls xs c') : W p l e R s m args below meth c H locs cells slots Q (F0 m pc ls (S.map (conc rv))) := by
  obtain ⟨hx, hb, hml, hown, hts, hK, hrv, hrc, hinj, hSt, hXs⟩ := hC
  unfold astB at h
  split at h
  · next x i a S' =>
    split at h
    · next n hk =>
      split at h
      · next hq =>
        obtain ⟨q1, q2, q3, q4⟩ := hq
        simp only [lcc, Option.some.injEq, Sum.inr.injEq] at h
        subst h
        obtain ⟨w1, w2⟩ := W_lt q3
        have hi : ok32 i := hV.tl.hd
        have hk1 : (cT a).1 = 3 := by rw [hk]
        have hk2 : (cT a).2 = n := by rw [hk]
        obtain ⟨pos, g1, g2⟩ := wsK_at (cI := cI) (cL := cL) (cZ := cZ) (ad := ad) (I := I) w1
        rw [cellE_z hk1] at g2
        have hD := wsK_D (cI := cI) (cL := cL) (cZ := cZ) (I := I) hinj (Wd_nodup z)
        show W p l e R s m args below meth c H locs cells slots Q (F0 m pc ls (conc rv _ :: .int (Int32.ofInt i) :: rv a :: S'.map (conc rv)))
        rw [hrv a (by omega)]
        refine va_zast hx hb hK hV.2.2.2.2.1 hD hV.2.2.2.2.2.1 pos 2 g2 rfl (i32_vp hi q1 (by omega)) hd (fun H1 locs1 hP1 hD1 hS1 => ?_)
        have hnar : vp_nar .boolean (Int32.ofInt x) = Int32.ofInt x := by rcases q4 with rfl | rfl <;> rfl
        rw [hnar] at hP1
        rw [upd_i q1 hi, wsK_set (I' := mset I a i x) (Wd_nodup z) g1 (fun j hj => by funext t; simp [mset, hj]) (by rw [cellE_z hk1])] at hP1
        exact k ls H1 locs1 ⟨okM_set hV.1 (by rw [tyOf_z hk1]; exact q4), hV.2.1, hV.tl.tl.tl.2.2.1, hV.2.2.2.1, hP1, hS1, at100 w2 hV.2.2.2.2.2.2⟩
      · cases h
    · cases h
  · cases h
theorem sI_arraylength (hC : CX p s m args c z ad rv cI cL cZ D Ls xs) (hV : INV s z ad rv cI cL cZ D Ls xs I L S ls H locs) (hd : decode (mB z) pc = .ok (.arraylength, 1)) (h : (match S with | .inr (.inr a) :: S' => (match alen a (Wd z) I with | some n => lcc (pc + 1) L (vI n :: S') I | none => none) | _ => none) = some (.inr c')) (k : NXT p l e R s m args below meth c cells slots Q z ad rv cI cL cZ D Ls xs c') : W p l e R s m args below meth c H locs cells slots Q (F0 m pc ls (S.map (conc rv))) := by
  obtain ⟨hx, hb, hml, hown, hts, hK, hrv, hrc, hinj, hSt, hXs⟩ := hC
  split at h
  · next a S' =>
    split at h
    · next n hn =>
      simp only [lcc, Option.some.injEq, Sum.inr.injEq] at h
      subst h
      show W p l e R s m args below meth c H locs cells slots Q (F0 m pc ls (rv a :: S'.map (conc rv)))
      have hbig : ∀ a, a < 101 → (cT a).2 < 2147483648 := by decide +kernel
      unfold alen at hn
      split at hn
      · next n' hk =>
        split at hn
        · next q3 =>
          cases hn
          obtain ⟨w1, w2⟩ := W_lt q3
          obtain ⟨pos, g1, g2⟩ := wsK_at (cI := cI) (cL := cL) (cZ := cZ) (ad := ad) (I := I) w1
          have hk1 : (cT a).1 = 1 := by rw [hk]
          have hk2 : (cT a).2 = n' := by rw [hk]
          rw [cellE_i hk1] at g2
          have hlt := hbig a (by omega)
          rw [hrv a (by omega)]
          exact va_alen hx hb hK hV.2.2.2.2.1 pos 0 g2 rfl (by rw [hk2]; rfl) hd (k ls H locs (hV.tl.psh (v := vI n') ⟨by omega, by omega⟩))
        · cases hn
      · next n' hk =>
        split at hn
        · next q3 =>
          cases hn
          obtain ⟨w1, w2⟩ := W_lt q3
          obtain ⟨pos, g1, g2⟩ := wsK_at (cI := cI) (cL := cL) (cZ := cZ) (ad := ad) (I := I) w1
          have hk1 : (cT a).1 = 2 := by rw [hk]
          have hk2 : (cT a).2 = n' := by rw [hk]
          rw [cellE_l hk1] at g2
          have hlt := hbig a (by omega)
          rw [hrv a (by omega)]
          exact va_alen hx hb hK hV.2.2.2.2.1 pos 1 g2 rfl (by rw [hk2]; rfl) hd (k ls H locs (hV.tl.psh (v := vI n') ⟨by omega, by omega⟩))
        · cases hn
      · next n' hk =>
        split at hn
        · next q3 =>
          cases hn
          obtain ⟨w1, w2⟩ := W_lt q3
          obtain ⟨pos, g1, g2⟩ := wsK_at (cI := cI) (cL := cL) (cZ := cZ) (ad := ad) (I := I) w1
          have hk1 : (cT a).1 = 3 := by rw [hk]
          have hk2 : (cT a).2 = n' := by rw [hk]
          rw [cellE_z hk1] at g2
          have hlt := hbig a (by omega)
          rw [hrv a (by omega)]
          exact va_alen hx hb hK hV.2.2.2.2.1 pos 2 g2 rfl (by rw [hk2]; rfl) hd (k ls H locs (hV.tl.psh (v := vI n') ⟨by omega, by omega⟩))
        · cases hn
      · next r hk =>
        cases hn
        have hr : ∀ a, a < 101 → (cT a).1 = 4 → (a = 97 ∧ (cT a).2 = 0) ∨ (a = 98 ∧ (cT a).2 = 1) := by decide +kernel
        have hl6 : ∀ r, r < 2 → (roT.getD r []).length = 6 := by decide +kernel
        rcases hr a (cT_lt hk (by decide)) (by rw [hk]) with ⟨rfl, h0⟩ | ⟨rfl, h0⟩
        · rw [hk] at h0
          cases h0
          rw [hrv _ (by decide)]
          exact va_tlen hx hb hSt.1.2 hV.2.2.2.2.2.1 (by rw [hl6 0 (by decide)]; rfl) hd (k ls H locs (hV.tl.psh (v := vI (roT.getD 0 []).length) (by rw [hl6 0 (by decide)]; exact ⟨by decide, by decide⟩)))
        · rw [hk] at h0
          cases h0
          rw [hrv _ (by decide)]
          exact va_tlen hx hb hSt.2.1.2 hV.2.2.2.2.2.1 (by rw [hl6 1 (by decide)]; rfl) hd (k ls H locs (hV.tl.psh (v := vI (roT.getD 1 []).length) (by rw [hl6 1 (by decide)]; exact ⟨by decide, by decide⟩)))
      · next r hk =>
        cases hn
        obtain ⟨hr4, ha⟩ := at_kind6 hk
        have hS4 := (hSt.2.2.2.2.1.1 r hr4).2.2.2
        have hl : ∀ r, r < 4 → (strT.map (fun l => l.length)).getD r 0 = (strT.getD r []).length ∧ (strT.getD r []).length < 9 := by decide +kernel
        have hlr := hl r hr4
        rw [hrv _ (by omega), ha]
        exact va_tlen hx hb hS4 hV.2.2.2.2.2.1 (by rw [hlr.1]; rfl) hd (k ls H locs (hV.tl.psh (v := vI (strT.getD r []).length) ⟨by omega, by omega⟩))
      · next hk =>
        split at hn
        · next q3 =>
          cases hn
          have hz : wid z = 2 := wid_of q3
          have h100 : a = 100 := at_kind8 (by rw [hk])
          subst h100
          obtain ⟨hX1, hX2, hX3⟩ := hXs hz
          obtain ⟨e1, e2⟩ := hV.2.2.2.2.2.2 hz
          have hM := hV.1 100 (-1)
          rw [hrv _ (by decide)]
          exact va_slen hx hb hX1 hX2 hX3 hV.2.2.2.2.2.1 hd (by have k1 := k ls H locs (hV.tl.psh (v := vI (I 100 (-1))) hM); rw [e1] at k1; exact k1)
        · cases hn
      · cases hn
    · cases h
  · cases h
end STEP
