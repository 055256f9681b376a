/-! System.arraycopy, calls, returns. -/
section STEP
variable {p : Program} {l : Launch} {e : Env} {R : Room} {s : State} {m : MethodId} {args : Array Value} {below : List Frame} {meth : Method} {c : Code} {H : Heap} {locs : List Loc} {cells slots : Nat} {Q : State → Prop}
variable {z pc : Nat} {ad : Nat → Nat} {rv : Nat → Value} {cI cL cZ : ClassId} {D : va_G} {Ls : Nat} {xs : Nat → Int32} {I : MM} {L S S' : List AV} {ls : Array Slot} {c' : CFG}
theorem cat_le {rv : Nat → Value} (hrc : ∀ k, (rv k).category ≠ 2) : ∀ S : List AV, ((S.map (conc rv)).map fun v => v.category).sum = (S.map catA).sum
  | [] => rfl
  | v :: r => by
    have h := cat_le hrc r
    simp only [List.map_cons, List.sum_cons, h]
    congr 1
    rcases v with x | x | x
    · rfl
    · rfl
    · rcases lv_cat (rv x) with h2 | h2
      · exact h2
      · exact absurd h2 (hrc x)
theorem mcpy_ok {a b : Nat} {sp dp n : Int} (h : okM I) (ha : (cT a).1 = 1) (hb : (cT b).1 = 1) : okM (mcpy I a sp b dp n) := by
  intro c j
  unfold mcpy
  split
  · next q =>
    rw [q.1, tyOf_i hb]
    have := h a (sp + (j - dp))
    rwa [tyOf_i ha] at this
  · exact h c j
theorem cpy_eq {a b : Nat} {sp dp n : Int} (h1 : 0 ≤ sp) (h2 : 0 ≤ dp) (h3 : 0 ≤ n) (o1 : ok32 sp) (o2 : ok32 dp) (o3 : ok32 n) : va_cpy (fun j : Nat => Int32.ofInt (I a j)) (fun j : Nat => Int32.ofInt (I b j)) (Int32.ofInt sp).toNatClampNeg (Int32.ofInt dp).toNatClampNeg (Int32.ofInt n).toNatClampNeg = fun j : Nat => Int32.ofInt (mcpy I a sp b dp n b j) := by
  funext j
  rw [i32_nat o1, i32_nat o2, i32_nat o3]
  unfold va_cpy mcpy
  by_cases hj : dp.toNat ≤ j ∧ j < dp.toNat + n.toNat
  · rw [if_pos hj, if_pos ⟨rfl, by omega, by omega⟩]
    have e1 : ((sp.toNat + (j - dp.toNat) : Nat) : Int) = sp + ((j : Int) - dp) := by omega
    show Int32.ofInt (I a ((sp.toNat + (j - dp.toNat) : Nat) : Int)) = _
    rw [e1]
  · rw [if_neg hj, if_neg (fun q => hj (by omega))]
theorem sI_copy {i : Nat} (hR : 1 ≤ R.frames ∧ 40 ≤ R.locals) (hC : CX p s m args c z ad rv cI cL cZ D Ls xs) (hV : INV s z ad rv cI cL cZ D Ls xs I L S ls H locs) (hd : decode (mB z) pc = .ok (.invokestatic i, 3)) (hl : Cond.methodLink (clsN (mC z)) i arraycopyName ∈ TBL) (h : (match S with
      | .inl n :: .inl dp :: .inr (.inr b) :: .inl sp :: .inr (.inr a) :: S' => if (cT a).1 = 1 ∧ (cT b).1 = 1 ∧ (Wd z).contains a = true ∧ (Wd z).contains b = true ∧ S'.length ≤ 3 ∧ 0 ≤ sp ∧ 0 ≤ dp ∧ 0 ≤ n ∧ sp + n ≤ (cT a).2 ∧ dp + n ≤ (cT b).2 then lcc (pc + 3) L S' (mcpy I a sp b dp n) else none
      | _ => none) = some (.inr c')) (k : NXT p l e R s m args below meth c cells slots Q z ad rv cI cL cZ D Ls xs c') : W p l e R s m args below meth c H locs cells slots Q (F0 m pc ls (S.map (conc rv))) := by
  obtain ⟨hx, hb, hml, hown, hts, hK, hrv, hrc, hinj, hSt, hXs⟩ := hC
  split at h
  · next n dp b sp a S' =>
    split at h
    · next hq =>
      obtain ⟨ka, kb, wa, wb, h3, q1, q2, q3, q4, q5⟩ := hq
      simp only [lcc, Option.some.injEq, Sum.inr.injEq] at h
      subst h
      obtain ⟨wa1, wa2⟩ := W_lt wa
      obtain ⟨wb1, wb2⟩ := W_lt wb
      obtain ⟨pa, ga1, ga2⟩ := wsK_at (cI := cI) (cL := cL) (cZ := cZ) (ad := ad) (I := I) wa1
      obtain ⟨pb, gb1, gb2⟩ := wsK_at (cI := cI) (cL := cL) (cZ := cZ) (ad := ad) (I := I) wb1
      rw [cellE_i ka] at ga2
      rw [cellE_i kb] at gb2
      have on : ok32 n := hV.hd
      have od : ok32 dp := hV.tl.hd
      have os : ok32 sp := hV.tl.tl.tl.hd
      have hD := wsK_D (cI := cI) (cL := cL) (cZ := cZ) (I := I) hinj (Wd_nodup z)
      have hLR := hV.2.2.2.1
      show W p l e R s m args below meth c H locs cells slots Q (F0 m pc ls (.int (Int32.ofInt n) :: .int (Int32.ofInt dp) :: rv b :: .int (Int32.ofInt sp) :: rv a :: S'.map (conc rv)))
      rw [hrv a (by omega), hrv b (by omega)]
      have neg : ∀ x : Int, ok32 x → 0 ≤ x → ¬ Int32.ofInt x < 0 := fun x ox h0 q => by
        have := (i32_lt ox (⟨by decide, by decide⟩ : ok32 0)).mp q
        omega
      have hcs : ((S'.map (conc rv)).map fun v => v.category).sum ≤ 6 := by
        rw [cat_le hrc]
        have : ∀ S : List AV, (S.map catA).sum ≤ 2 * S.length := by
          intro S
          induction S with
          | nil => simp
          | cons v r ih =>
            simp only [List.map_cons, List.sum_cons, List.length_cons]
            have : catA v ≤ 2 := by rcases v with x | x | x <;> simp [catA]
            omega
        have := this S'
        omega
      have hnw : nativeFrameWords "java/lang/System" "arraycopy" 5 = 7 := by decide +kernel
      refine va_copyi (ty := .int) hx hb (hml.trans hLR.1.1.symm) hown (hts _ hl) (hts _ w_arr.1) (hts _ w_arr.2.1) (hts _ w_arr.2.2) hK hV.2.2.2.2.1 hD hV.2.2.2.2.2.1 pa pb 0 0 ga2 gb2 rfl rfl rfl (neg _ os q1) (neg _ od q2) (neg _ on q3) (by rw [i32_nat os, i32_nat on]; omega) (by rw [i32_nat od, i32_nat on]; omega) (fun _ _ => rfl) hR.1 (by rw [hnw]; omega) hd (fun H1 locs1 hP1 hD1 hS1 => ?_)
      rw [cpy_eq q1 q2 q3 os od on, wsK_set (I' := mcpy I a sp b dp n) (Wd_nodup z) gb1 (fun j hj => by funext t; simp [mcpy, hj]) (by rw [cellE_i kb])] at hP1
      refine k ls H1 locs1 ⟨mcpy_ok hV.1 ka kb, hV.2.1, hV.tl.tl.tl.tl.tl.2.2.1, hV.2.2.2.1, hP1, hS1, fun hz => ?_⟩
      have hne : (100 : Nat) ≠ b := by omega
      have := hV.2.2.2.2.2.2 hz
      simpa [mcpy, hne] using this
    · cases h
  · cases h
theorem sub_W {z y : Nat} (h : wid z = wid y ∨ wid z = 2) : ∀ k, k ∈ Wd y → k ∈ Wd z := by
  intro k hk
  rcases h with h | h
  · unfold Wd at hk ⊢
    rw [h]; exact hk
  · have h2 : ∀ w, ∀ k ∈ WdN w, k ∈ WdN 2 := fun w => by
      unfold WdN
      split <;> decide +kernel
    unfold Wd at hk ⊢
    rw [h]
    exact h2 _ k hk
theorem call_go {A0 A1 : Nat → Prop} {rest st0 : List Value} {r0 : Option Value} {B : State → Prop} {H0 : Heap} {a : Array Value} (hr : va_Run p l e R s m args below meth c H locs cells slots 0 0 (F0 m pc ls st0) rest (fun st oc t => oc = .returned r0 ∧ B t ∧ va_F A1 st t) A1) (hS : va_S A0 H0 H locs) (hA : ∀ q, A1 q → A0 q)
    (kk : ∀ (t : State) (H1 : Heap) (locs1 : List Loc), t.heap = H1 → B t → (∀ q : Nat, q < H.size → ¬ A1 q → H1[q]? = H[q]?) → va_S A0 H0 H1 locs1 → W p l e R s m args below meth c H1 locs1 cells slots Q (F0 m (pc + 3) ls (r0.toList ++ rest))) : W p l e R s m args below meth c H locs cells slots Q (F0 m pc ls st0) := by
  intro T hT X
  obtain ⟨v, st₀, t, T', Lc, h0, X', hL, e1, e2, ⟨hv, hb, hz, hk⟩, st⟩ := hr T hT X
  cases hv
  rw [h0] at hz hk
  obtain ⟨t2, a1, b1⟩ := kk t T'.heap (locs ++ Lc) e1.symm hb (fun q h1 h2 => by rw [e1]; exact hk q h1 h2)
    ⟨Nat.le_trans hS.1 (by rw [e1]; exact hz), fun q h1 h2 => by rw [e1, hk q (Nat.lt_of_lt_of_le h1 hS.1) (fun z => h2 (hA q z))]; exact hS.2.1 q h1 h2, fun q hq => by
      rcases List.mem_append.mp hq with h | h
      · exact hS.2.2 q h
      · exact hA _ (hL q h)⟩ T' rfl X'
  exact ⟨t2, st t2 a1, b1⟩
theorem flat_at {K : List Nat} {H1 : Heap} (hk : ∀ k, k ∈ K → va_at D vwCl (ad k, cellE cI cL cZ ad I k) H1) : va_P D vwCl (wsK cI cL cZ ad I K) H1 := by
  intro i q hq
  simp only [wsK, List.getElem?_map, Option.map_eq_some_iff] at hq
  obtain ⟨a, ha, rfl⟩ := hq
  exact hk a (List.mem_of_getElem? ha)
theorem at_of {K : List Nat} {H1 : Heap} {k : Nat} (h : va_P D vwCl (wsK cI cL cZ ad I K) H1) (hk : k ∈ K) : va_at D vwCl (ad k, cellE cI cL cZ ad I k) H1 := by
  obtain ⟨q, -, hq⟩ := wsK_at (cI := cI) (cL := cL) (cZ := cZ) (ad := ad) (I := I) hk
  exact h q _ hq
theorem cellE_same {I' : MM} {k : Nat} (h : I' k = I k) : cellE cI cL cZ ad I' k = cellE cI cL cZ ad I k := by
  unfold cellE fldV
  rw [h]
theorem sI_invoke {d i : Nat} {st : Bool} {cal : Nat → List AV → MM → Option RES} (hcal : ∀ y a I r I', y < 273 → cal y a I = some (r, I') → METZ l d y a I r I') (hR : d + 1 ≤ R.frames ∧ 40 * d + 40 ≤ R.locals) (hR2 : cells ≤ R.cells ∧ slots ≤ R.slots) (hC : CX p s m args c z ad rv cI cL cZ D Ls xs) (hV : INV s z ad rv cI cL cZ D Ls xs I L S ls H locs) (hd : decode (mB z) pc = .ok (if st = true then .invokestatic i else .invokevirtual i, 3)) (h : invV cal z pc i st L S I = some (.inr c')) (k : NXT p l e R s m args below meth c cells slots Q z ad rv cI cL cZ D Ls xs c') : W p l e R s m args below meth c H locs cells slots Q (F0 m pc ls (S.map (conc rv))) := by
  unfold invV at h
  split at h
  · next y hy =>
    rcases mres_of hy with ⟨h9, hl⟩ | ⟨hlt, hl⟩
    · rw [if_pos h9] at h
      split at h
      · next hst =>
        rw [if_pos hst] at hd
        exact sI_copy ⟨by omega, by omega⟩ hC hV hd hl h k
      · cases h
    · rw [if_neg (by omega)] at h
      split at h
      · next hok =>
        split at h
        · next r I' hr =>
          simp only [lcc, Option.some.injEq, Sum.inr.injEq] at h
          subst h
          obtain ⟨hx, hb, hml, hown, hts, hK, hrv, hrc, hinj, hSt, hXs⟩ := hC
          obtain ⟨hM, hokL, hokS, hLR, hP, hS, h100⟩ := hV
          simp only [callOK, Bool.and_eq_true, beq_iff_eq, decide_eq_true_eq, Bool.or_eq_true] at hok
          obtain ⟨⟨⟨⟨hst, hlen⟩, hsum⟩, hrecv⟩, hw⟩ := hok
          obtain ⟨m1, m2, m3, m4, m5⟩ := mq_P hlt
          obtain ⟨n1, n2, n3, n4, n5⟩ := mq_Q hlt
          have n4 : mL y ≤ 21 := n4
          have n3 : clsN (mC y) = (mY y).cls := n3
          have hsub := sub_W (z := z) (y := y) hw
          have hinjy : adInj ad (Wd y) := fun i j hi hj => hinj i j (hsub i hi) (hsub j hj)
          have hAA : ∀ q, adA ad (Wd y) q → adA ad (Wd z) q := fun q ⟨k, h1, h2⟩ => ⟨k, hsub k h1, h2⟩
          have hargs : ∀ v ∈ (S.take (mN y)).reverse, okV v := fun v hv => hokS v (List.mem_of_mem_take (List.mem_reverse.mp hv))
          obtain ⟨⟨o1, o2, o3⟩, hMet⟩ := hcal y _ I r I' hlt hr hM hargs
          have hMet := hMet ad rv cI cL cZ D hinjy hrv hrc
          have hPy : va_P D vwCl (wsK cI cL cZ ad I (Wd y)) H := flat_at (fun k hk => at_of hP (hsub k hk))
          have hSy : ∀ U : State, s.WarmedH U.vm → StatH rv ad (adA ad (Wd y)) U H := fun U hU => ((hSt.kept hS.2.1).narrow hAA).warm hU
          have hKy : ∀ U : State, s.WarmedH U.vm → va_K D vwCl (tysG cI cL cZ) U := fun U hU => va_K.moved hU.alike hK
          have hdesc : (mY y).cls ≠ "java/lang/invoke/MethodHandle" ∧ (mY y).cls ≠ "java/lang/invoke/VarHandle" ∧ (parseMethodDescriptor (mY y).desc).map (fun d => d.parameters.length) = some (if mS y = true then mN y else mN y - 1) := ⟨n1.1, n1.2, n2⟩
          have hroom : (rmD d).frames + 1 ≤ R.frames ∧ 8 + (mL y + 11) + (rmD d).locals ≤ R.locals := ⟨hR.1, by show 8 + (mL y + 11) + 40 * d ≤ R.locals; omega⟩
          have hcb : CallB R s args (clsN (mC z)) i (mY y) (mB y) (mL y) (mR y) (wsM y) (rmD d) 0 0 (if mS y = true then mN y else mN y - 1) := callB_of _ hts (goodTBL y z m1) rfl rfl rfl (hts _ m3) (hts _ hl) hdesc hroom
          have hfix : CallFix p m c (mB z) (mL z) s args TBL (clsN (mC z)) := ⟨hx, hb, hml, hown, hts⟩
          have hrest : 2 * (F0 m pc ls (S.map (conc rv))).monitorRoom + (((S.drop (mN y)).map (conc rv)).map fun v => v.category).sum ≤ 8 := by
            rw [cat_le hrc]
            show 2 * 0 + _ ≤ 8
            omega
          have hStk : S.map (conc rv) = ((S.take (mN y)).map (conc rv)) ++ (S.drop (mN y)).map (conc rv) := by rw [← List.map_append, List.take_append_drop]
          have goOn : ∀ (a : Array Value), va_Run p l e R s m args below meth c H locs cells slots 0 0 (F0 m pc ls (S.map (conc rv))) ((S.drop (mN y)).map (conc rv)) (QcM y ad rv cI cL cZ D r I' a) (adA ad (Wd y)) → W p l e R s m args below meth c H locs cells slots Q (F0 m pc ls (S.map (conc rv))) := fun a hrun => by
            refine call_go (a := a) hrun hS hAA (fun t H1 locs1 ht hB hfr hS1 => ?_)
            rw [ht] at hB
            have hkeep : ∀ k, k ∈ Wd z → k ∉ Wd y → H1[ad k]? = H[ad k]? := fun k hk hn => by
              refine hfr (ad k) ((at_of hP hk).lt) ?_
              rintro ⟨j, hj, e⟩
              have := hinj k j hk (hsub j hj) e
              subst this
              exact hn hj
            have hP1 : va_P D vwCl (wsK cI cL cZ ad I' (Wd z)) H1 := flat_at (fun k hk => by
              by_cases hky : k ∈ Wd y
              · exact at_of hB hky
              · rw [cellE_same (o3 k hky)]
                exact (at_of hP hk).kept (hkeep k hk hky))
            have k1 := k ls H1 locs1 ⟨o1, hokL, fun v hv => by
              cases r with
              | none => exact hokS v (List.mem_of_mem_drop hv)
              | some w =>
                rcases List.mem_cons.mp hv with rfl | hv
                · exact o2 _ rfl
                · exact hokS v (List.mem_of_mem_drop hv), hLR, hP1, hS1, fun hz => by
              have hn : (100 : Nat) ∉ Wd y := by
                have : ∀ w, (100 : Nat) ∉ WdN w := fun w => by
                  unfold WdN
                  split <;> decide +kernel
                exact this _
              show I' 100 (-1) = Ls ∧ ∀ j : Nat, j < Ls → Int32.ofInt (I' 100 j) = xs j
              rw [o3 100 hn]
              exact h100 hz⟩
            cases r <;> exact k1
          by_cases hs : mS y = true
          · have hst1 : st = true := by rw [← hst]; exact hs
            rw [if_pos hst1] at hd
            rw [if_pos hs] at hcb
            have m2' : Cond.static (mY y) ∈ TBL := by
              have := m2
              rwa [if_pos hs] at this
            refine goOn _ (va_runS (As := ((S.take (mN y)).reverse).map (conc rv)) (rest := (S.drop (mN y)).map (conc rv)) hfix hMet ⟨hcb, hts _ m2'⟩ ⟨blindM, fun U hU hW => ⟨rfl, by rw [hU]; exact hPy, hKy U hW, by rw [hU]; exact hSy U hW⟩⟩ rfl (by simp only [List.length_map, List.length_reverse]; exact hlen) hLR.1.1 (by rw [← List.map_reverse, List.reverse_reverse]; exact hStk) hrest hd hR2)
          · have hst1 : st = false := by rw [← hst]; simpa using hs
            rw [if_neg (by rw [hst1]; decide)] at hd
            rw [if_neg hs] at hcb
            have m2' : Cond.instanceMethod (mY y) ∈ TBL := by
              have := m2
              rwa [if_neg hs] at this
            rcases hrecv with q | q
            · exact absurd q hs
            · split at q
              · next a As' hA =>
                simp only [recvOK, Bool.and_eq_true, beq_iff_eq, Bool.or_eq_true] at q
                obtain ⟨qc, qw⟩ := q
                have hslen : ((S.take (mN y)).reverse).length = mN y := by rw [List.length_reverse]; exact hlen
                have hrecvC : a ≠ 99 ∧ ∃ cellB : Cell, H[ad a]? = some cellB ∧ cellB.vm.isStatics = false ∧ s.vm.findClass (mY y).cls = some cellB.cls := by
                  by_cases h12 : mC y = 12
                  · have hk5 : (cT a).1 = 5 := by
                      rw [h12] at qc
                      unfold clsOf at qc
                      split at qc
                      · next c0 hc0 =>
                        subst qc
                        have ha := cT_lt hc0 (by decide)
                        have hr : ∀ a, a < 101 → cT a ≠ (0, 12) := by decide +kernel
                        exact absurd hc0 (hr a ha)
                      · next hk => rw [hk]
                      · cases qc
                    obtain ⟨r1, r2⟩ := at_kind5 hk5
                    have e12 : (mY y).cls = "java/lang/String" := by rw [← n3, h12]; rfl
                    refine ⟨by omega, ?_⟩
                    have hv := vk_recv (N := 4) (i := (cT a).2) hSt.2.2.2.2.1 r1 hS
                    rw [e12]
                    simp only [← r2] at hv
                    exact hv
                  · have qw : (Wd z).contains a = true := by
                      rcases qw with q | q
                      · exact absurd q h12
                      · exact q
                    obtain ⟨w1, w2⟩ := W_lt qw
                    have hk0 : cT a = (0, mC y) := by
                      unfold clsOf at qc
                      split at qc
                      · next c0 hc0 => rw [hc0, qc]
                      · exact absurd qc.symm h12
                      · have hr : ∀ y, y < 273 → mC y ≠ 99 := fun y hy e => by
                          have := (mq_Q hy).2.2.1
                          have h99 : ∀ e ∈ mT, e.2.2.2.2.1 ≠ 99 := by decide +kernel
                          exact h99 _ (mq_mem hy) e
                        exact absurd qc.symm (hr y hlt)
                    have hk1 : (cT a).1 = 0 := by rw [hk0]
                    have hk2 : (cT a).2 = mC y := by rw [hk0]
                    obtain ⟨pos, g1, g2⟩ := wsK_at (cI := cI) (cL := cL) (cZ := cZ) (ad := ad) (I := I) w1
                    rw [cellE_o hk1 hk2] at g2
                    have hc12 : mC y < 12 := by
                      have hr : ∀ a, a < 101 → (cT a).1 = 0 → (cT a).2 < 12 := by decide +kernel
                      rw [← hk2]
                      exact hr a (by omega) hk1
                    have hv := va_recv hK hP (ccl_ok (mC y) hc12) g2
                    refine ⟨by omega, ?_⟩
                    rw [← n3]
                    exact hv
                obtain ⟨h99, hcell⟩ := hrecvC
                have hAs : ((S.take (mN y)).reverse).map (conc rv) = .ref (ad a) :: As'.map (conc rv) := by
                  rw [hA, ← hrv a h99]
                  rfl
                have hStk2 : S.map (conc rv) = (As'.map (conc rv)).reverse ++ .ref (ad a) :: (S.drop (mN y)).map (conc rv) := by
                  have e1 : (S.take (mN y)).map (conc rv) = (((S.take (mN y)).reverse).map (conc rv)).reverse := by rw [List.map_reverse, List.reverse_reverse]
                  rw [hStk, e1, hAs]
                  simp
                refine goOn _ (va_runV (C := (mY y).cls) (b := ad a) (As := As'.map (conc rv)) (rest := (S.drop (mN y)).map (conc rv)) hfix hMet ⟨hcb, hts _ m2', hts _ (m4 (by simpa using hs))⟩ ⟨blindM, hcell, fun U hU hW => ⟨by rw [hAs], by rw [hU]; exact hPy, hKy U hW, by rw [hU]; exact hSy U hW⟩⟩ rfl (by
                  rw [hA] at hslen
                  simp only [List.length_cons, List.length_map] at hslen ⊢
                  omega) hLR.1.1 hStk2 hrest hd hR2)
              · cases q
        · cases h
      · cases h
  · cases h
end STEP
