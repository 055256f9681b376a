/-! Constants, Strings, statics, System.arraycopy, calls. -/
set_option maxRecDepth 100000 in
theorem w_arr : Cond.native arraycopyName ∈ TBL ∧ Cond.static arraycopyName ∈ TBL ∧ Cond.initialized "java/lang/System" ∈ TBL := ⟨tb_3 (i := 85) rfl rfl, tb_3 (i := 84) rfl rfl, tb_1 (i := 17) rfl rfl⟩
set_option maxRecDepth 100000 in
theorem w_gs : Cond.fieldLink RX0 59 "BogBoards$Bog" "LONGER" "[I" ∈ TBL ∧ Cond.fieldLink RX0 70 "BogBoards$Bog" "STRONGER" "[I" ∈ TBL ∧ Cond.fieldLink RJ0 38 "java/lang/String" "COMPACT_STRINGS" "Z" ∈ TBL ∧ Cond.fieldLink RJ0 1053 "jdk/internal/util/Preconditions" "SIOOBE_FORMATTER" "Ljava/util/function/BiFunction;" ∈ TBL ∧ Cond.fieldLink RJ0 9 "java/lang/String" "value" "[B" ∈ TBL ∧ Cond.fieldLink RJ0 15 "java/lang/String" "coder" "B" ∈ TBL := ⟨tb_3 (i := 23) rfl rfl, tb_3 (i := 41) rfl rfl, tb_2 (i := 196) rfl rfl, tb_2 (i := 212) rfl rfl, tb_7 (i := 227) rfl rfl, tb_7 (i := 228) rfl rfl⟩
theorem mres_of {c i y : Nat} (h : mres c i = some y) : (y = 9999 ∧ Cond.methodLink (clsN c) i arraycopyName ∈ TBL) ∨ (y < 273 ∧ Cond.methodLink (clsN c) i (mY y) ∈ TBL) := by
  simp only [mres, Option.map_eq_some_iff] at h
  obtain ⟨e, h1, h2⟩ := h
  have h3 := List.find?_some h1
  have h4 := List.mem_of_find?_eq_some h1
  simp only [Bool.and_eq_true, beq_iff_eq] at h3
  obtain ⟨e1, e2, e3⟩ := e
  cases h2
  obtain ⟨rfl, rfl⟩ := h3
  have hP := mresL_P _ h4
  have hQ := mresL_Q _ h4
  dsimp only [lokP] at hP hQ
  by_cases h9 : e3 = 9999
  · rw [if_pos h9] at hP
    exact Or.inl ⟨h9, hP⟩
  · rw [if_neg h9] at hP
    exact Or.inr ⟨by show e3 < 273; omega, hP⟩
theorem kres_of {c i : Nat} {b : Bool} {v : Int} (h : kres c i = some (b, v)) : (if b = true then Cond.constantLong (clsN c) i (Int64.ofInt v) else Cond.constant (clsN c) i (Int32.ofInt v)) ∈ TBL ∧ -2147483648 ≤ v ∧ v ≤ 4294967295 ∧ (b = false → v ≤ 2147483647) := by
  simp only [kres, Option.map_eq_some_iff] at h
  obtain ⟨e, h1, h2⟩ := h
  have h3 := List.find?_some h1
  have h4 := List.mem_of_find?_eq_some h1
  simp only [Bool.and_eq_true, beq_iff_eq] at h3
  obtain ⟨e1, e2, e3, e4⟩ := e
  cases h2
  obtain ⟨rfl, rfl⟩ := h3
  exact ⟨kresL_P _ h4, kresL_Q _ h4⟩
theorem sres_of {c i a : Nat} (h : sres c i = some a) : c = 9 ∧ ((i = 43 ∧ a = 89) ∨ (i = 56 ∧ a = 90) ∨ (i = 63 ∧ a = 91) ∨ (i = 72 ∧ a = 92)) := by
  simp only [sres, Option.map_eq_some_iff] at h
  obtain ⟨e, h1, h2⟩ := h
  have h3 := List.find?_some h1
  have h4 := List.mem_of_find?_eq_some h1
  simp only [Bool.and_eq_true, beq_iff_eq] at h3
  obtain ⟨e1, e2, e3⟩ := e
  cases h2
  obtain ⟨rfl, rfl⟩ := h3
  simp only [sresL, List.mem_cons, Prod.mk.injEq, List.not_mem_nil, or_false] at h4
  dsimp only
  rcases h4 with ⟨rfl, rfl, rfl⟩ | ⟨rfl, rfl, rfl⟩ | ⟨rfl, rfl, rfl⟩ | ⟨rfl, rfl, rfl⟩ <;> simp
theorem StatH.same {rv : Nat → Value} {ad : Nat → Nat} {A : Nat → Prop} {u U : State} {H : Heap} (hv : U.vm = u.vm) (h : StatH rv ad A u H) : StatH rv ad A U H := by
  have ha : u.vm.Alike U.vm := by rw [hv]; exact Vm.Alike.refl _
  obtain ⟨⟨a1, a2⟩, ⟨b1, b2⟩, c1, c2, c3, d1, d2, d3, d4⟩ := h
  exact ⟨⟨a1.moved ha, a2.moved ha⟩, ⟨b1.moved ha, b2.moved ha⟩, c1.moved ha, c2.moved ha, c3.moved ha, d1.same hv, d2.same hv, d3.same hv, d4.same hv⟩
theorem StatH.warm {rv : Nat → Value} {ad : Nat → Nat} {A : Nat → Prop} {s U : State} {H : Heap} (hW : s.WarmedH U.vm) (h : StatH rv ad A s H) : StatH rv ad A U H := by
  have ha := hW.alike
  obtain ⟨⟨a1, a2⟩, ⟨b1, b2⟩, c1, c2, c3, d1, d2, d3, d4⟩ := h
  exact ⟨⟨a1.moved ha, a2.moved ha⟩, ⟨b1.moved ha, b2.moved ha⟩, c1.moved ha, c2.moved ha, c3.moved ha, d1.warm hW, d2.warm hW, d3.warm hW, d4.warm hW⟩
theorem StatH.kept {rv : Nat → Value} {ad : Nat → Nat} {A : Nat → Prop} {U : State} {H H1 : Heap} (h : StatH rv ad A U H) (hq : ∀ a : Nat, a < H.size → ¬ A a → H1[a]? = H[a]?) : StatH rv ad A U H1 := by
  obtain ⟨⟨a1, a2⟩, ⟨b1, b2⟩, c1, c2, c3, d⟩ := h
  exact ⟨⟨a1.kept hq, a2.kept hq⟩, ⟨b1.kept hq, b2.kept hq⟩, c1.kept hq, c2.kept hq, c3.kept hq, d⟩
theorem StatH.narrow {rv : Nat → Value} {ad : Nat → Nat} {A B : Nat → Prop} {U : State} {H : Heap} (h : StatH rv ad A U H) (hAB : ∀ q, B q → A q) : StatH rv ad B U H := by
  obtain ⟨⟨a1, a2⟩, ⟨b1, b2⟩, c1, c2, c3, d⟩ := h
  exact ⟨⟨a1.narrow hAB, a2.narrow hAB⟩, ⟨b1.narrow hAB, b2.narrow hAB⟩, c1.narrow hAB, c2.narrow hAB, c3.narrow hAB, d⟩
def rmD (d : Nat) : Room := { frames := d, cells := 0, slots := 0, locals := 40 * d }
def wsM (y : Nat) : List Cond := Cond.code (mY y) (mB y) (mL y) (mR y) :: TBL
def PcM (y : Nat) (ad : Nat → Nat) (rv : Nat → Value) (cI cL cZ : ClassId) (D : va_G) (args : List AV) (I : MM) : Array Value → State → Prop :=
  va_Pc (args.map (conc rv)) (fun U => va_P D vwCl (wsK cI cL cZ ad I (Wd y)) U.heap ∧ va_K D vwCl (tysG cI cL cZ) U ∧ StatH rv ad (adA ad (Wd y)) U U.heap)
def QcM (y : Nat) (ad : Nat → Nat) (rv : Nat → Value) (cI cL cZ : ClassId) (D : va_G) (r : Option AV) (I' : MM) : Array Value → State → Outcome → State → Prop :=
  fun _ st oc t => oc = .returned (r.map (conc rv)) ∧ va_P D vwCl (wsK cI cL cZ ad I' (Wd y)) t.heap ∧ va_F (adA ad (Wd y)) st t
def METZ (l : Launch) (d y : Nat) (args : List AV) (I : MM) (r : Option AV) (I' : MM) : Prop := okM I → (∀ v ∈ args, okV v) →
  (okM I' ∧ (∀ v, r = some v → okV v) ∧ ∀ a, a ∉ Wd y → I' a = I a) ∧
  ∀ (ad : Nat → Nat) (rv : Nat → Value) (cI cL cZ : ClassId) (D : va_G), adInj ad (Wd y) → (∀ k, k ≠ 99 → rv k = .ref (ad k)) → (∀ k, (rv k).category ≠ 2) →
    Met l (mY y) (wsM y) (rmD d) (PcM y ad rv cI cL cZ D args I) (QcM y ad rv cI cL cZ D r I') 0 0 (adA ad (Wd y))
theorem blindM {y : Nat} {ad : Nat → Nat} {rv : Nat → Value} {cI cL cZ : ClassId} {D : va_G} {args : List AV} {I : MM} : FrameBlind (PcM y ad rv cI cL cZ D args I) := by
  intro a U g mk h
  obtain ⟨h1, h2, h3, h4⟩ := h
  exact ⟨h1, h2, va_K.moved (u := U) (U := U.calling g mk a) (Vm.Alike.refl U.vm) h3, StatH.same (u := U) rfl h4⟩
theorem goodTBL (y z : Nat) (hy : Cond.code (mY y) (mB y) (mL y) (mR y) ∈ TBL) : GoodIn TBL (wsM y) := by
  intro w hw
  rcases List.mem_cons.mp hw with rfl | h
  · exact ⟨hy, good_of_word (List.mem_filter.mp hy).2⟩
  · exact ⟨h, good_of_word (List.mem_filter.mp h).2⟩
section STEP
variable {p : Program} {l : Launch} {e : Env} {R : Room} {s : State} {m : MethodId} {args : Array Value} {below : List Frame} {meth : Method} {c : Code} {H : Heap} {locs : List Loc} {cells slots : Nat} {Q : State → Prop}
variable {z pc : Nat} {ad : Nat → Nat} {rv : Nat → Value} {cI cL cZ : ClassId} {D : va_G} {Ls : Nat} {xs : Nat → Int32} {I : MM} {L S S' : List AV} {ls : Array Slot} {c' : CFG}
theorem sI_ldc {i : Nat} (hC : CX p s m args c z ad rv cI cL cZ D Ls xs) (hV : INV s z ad rv cI cL cZ D Ls xs I L S ls H locs) (hd : decode (mB z) pc = .ok (.ldc i, 2)) (h : ldk z i pc L S I = some (.inr c')) (k : NXT p l e R s m args below meth c cells slots Q z ad rv cI cL cZ D Ls xs c') : W p l e R s m args below meth c H locs cells slots Q (F0 m pc ls (S.map (conc rv))) := by
  obtain ⟨hx, hb, hml, hown, hts, hK, hrv, hrc, hinj, hSt, hXs⟩ := hC
  unfold ldk at h
  split at h
  · next a ha =>
    simp only [lcc, Option.some.injEq, Sum.inr.injEq] at h
    subst h
    obtain ⟨h9, hi⟩ := sres_of ha
    rw [h9] at hown
    have k1 := k ls H locs (hV.psh (v := vR a) trivial)
    obtain ⟨-, -, -, -, -, d1, d2, d3, d4⟩ := hSt
    rcases hi with ⟨rfl, rfl⟩ | ⟨rfl, rfl⟩ | ⟨rfl, rfl⟩ | ⟨rfl, rfl⟩
    all_goals
      simp only [List.map_cons, conc] at k1
      rw [hrv _ (by decide)] at k1
    · exact va_ldcS hx hb hown d1 hd k1
    · exact va_ldcS hx hb hown d2 hd k1
    · exact va_ldcS hx hb hown d3 hd k1
    · exact va_ldcS hx hb hown d4 hd k1
  · split at h
    · next v hv =>
      simp only [lcc, Option.some.injEq, Sum.inr.injEq] at h
      subst h
      obtain ⟨h1, h2, -, h3⟩ := kres_of hv
      exact lv_ldc hx hb hown (hts _ h1) hd (k ls H locs (hV.psh (v := vI v) ⟨h2, h3 rfl⟩))
    · cases h
theorem sI_ldc2 {i : Nat} (hC : CX p s m args c z ad rv cI cL cZ D Ls xs) (hV : INV s z ad rv cI cL cZ D Ls xs I L S ls H locs) (hd : decode (mB z) pc = .ok (.ldc2_w i, 3)) (h : ldk2 z i pc L S I = some (.inr c')) (k : NXT p l e R s m args below meth c cells slots Q z ad rv cI cL cZ D Ls xs c') : W p l e R s m args below meth c H locs cells slots Q (F0 m pc ls (S.map (conc rv))) := by
  obtain ⟨hx, hb, hml, hown, hts, hK, hrv, hrc, hinj, hSt, hXs⟩ := hC
  unfold ldk2 at h
  split at h
  · next v hv =>
    simp only [lcc, Option.some.injEq, Sum.inr.injEq] at h
    subst h
    obtain ⟨h1, h2, h3, -⟩ := kres_of hv
    exact lv_ldc2 hx hb hown (hts _ h1) hd (k ls H locs (hV.psh (v := vL v) ⟨by omega, by omega⟩))
  · cases h
theorem sI_getstatic {i : Nat} (hC : CX p s m args c z ad rv cI cL cZ D Ls xs) (hV : INV s z ad rv cI cL cZ D Ls xs I L S ls H locs) (hd : decode (mB z) pc = .ok (.getstatic i, 3)) (h : gstV z i pc L S I = some (.inr c')) (k : NXT p l e R s m args below meth c cells slots Q z ad rv cI cL cZ D Ls xs c') : W p l e R s m args below meth c H locs cells slots Q (F0 m pc ls (S.map (conc rv))) := by
  obtain ⟨hx, hb, hml, hown, hts, hK, hrv, hrc, hinj, hSt, hXs⟩ := hC
  have hS := hV.2.2.2.2.2.1
  obtain ⟨⟨a1, a2⟩, ⟨b1, b2⟩, c1, c2, -⟩ := hSt
  obtain ⟨g0, g1, g2, g3, -⟩ := w_gs
  unfold gstV at h
  split at h
  · next hq =>
    obtain ⟨q1, rfl⟩ := hq
    simp only [lcc, Option.some.injEq, Sum.inr.injEq] at h
    subst h
    rw [q1] at hown
    have k1 := k ls H locs (hV.psh (v := vR 97) trivial)
    simp only [List.map_cons, conc] at k1
    rw [hrv _ (by decide)] at k1
    exact va_gets hx hb a1 hS hown (hts _ g0) (fun x hx => hx) hd k1
  · split at h
    · next hq =>
      obtain ⟨q1, rfl⟩ := hq
      simp only [lcc, Option.some.injEq, Sum.inr.injEq] at h
      subst h
      rw [q1] at hown
      have k1 := k ls H locs (hV.psh (v := vR 98) trivial)
      simp only [List.map_cons, conc] at k1
      rw [hrv _ (by decide)] at k1
      exact va_gets hx hb b1 hS hown (hts _ g1) (fun x hx => hx) hd k1
    · split at h
      · next hq =>
        obtain ⟨q1, rfl⟩ := hq
        simp only [lcc, Option.some.injEq, Sum.inr.injEq] at h
        subst h
        rw [q1] at hown
        have k1 := k ls H locs (hV.psh (v := vI 1) ⟨by decide, by decide⟩)
        exact va_gets hx hb c1 hS hown (hts _ g2) (fun x hx => hx) hd k1
      · split at h
        · next hq =>
          obtain ⟨q1, rfl⟩ := hq
          simp only [lcc, Option.some.injEq, Sum.inr.injEq] at h
          subst h
          rw [q1] at hown
          exact va_gets hx hb c2 hS hown (hts _ g3) (fun x hx => hx) hd (k ls H locs (hV.psh (v := vR 99) trivial))
        · cases h
theorem sI_getfieldS {i : Nat} (hC : CX p s m args c z ad rv cI cL cZ D Ls xs) (hV : INV s z ad rv cI cL cZ D Ls xs I L S ls H locs) (hd : decode (mB z) pc = .ok (.getfield i, 3)) (h12 : mC z = 12) (h : getV z pc i (Wd z) L S I = some (.inr c')) (k : NXT p l e R s m args below meth c cells slots Q z ad rv cI cL cZ D Ls xs c') : W p l e R s m args below meth c H locs cells slots Q (F0 m pc ls (S.map (conc rv))) := by
  obtain ⟨hx, hb, hml, hown, hts, hK, hrv, hrc, hinj, hSt, hXs⟩ := hC
  have hS := hV.2.2.2.2.2.1
  obtain ⟨-, -, -, -, c3, -⟩ := hSt
  obtain ⟨-, -, -, -, g4, g5⟩ := w_gs
  rw [h12] at hown
  unfold getV at h
  split at h
  · next a S' =>
    rw [if_pos h12] at h
    split at h
    · next h5 =>
      obtain ⟨r1, r2⟩ := at_kind5 h5
      have hE := c3.1 (cT a).2 r1
      have e1 : 93 + (cT a).2 = a + 4 := by omega
      simp only [← r2, e1] at hE
      show W p l e R s m args below meth c H locs cells slots Q (F0 m pc ls (rv a :: S'.map (conc rv)))
      rw [hrv a (by omega)]
      split at h
      · next h9 =>
        subst h9
        simp only [lcc, Option.some.injEq, Sum.inr.injEq] at h
        subst h
        have k1 := k ls H locs (hV.tl.psh (v := vR (a + 4)) trivial)
        simp only [List.map_cons, conc] at k1
        rw [hrv _ (by omega)] at k1
        exact vk_getf hx hb hE.2.2.1 hS hown (hts _ g4) (fun x hx => hx) hd k1
      · split at h
        · next h15 =>
          subst h15
          simp only [lcc, Option.some.injEq, Sum.inr.injEq] at h
          subst h
          have k1 := k ls H locs (hV.tl.psh (v := vI 0) ⟨by decide, by decide⟩)
          exact vk_getf hx hb hE.2.1 hS hown (hts _ g5) (fun x hx => hx) hd k1
        · cases h
    · cases h
  · cases h
end STEP
