/-! Locals, branches, constants. -/
section STEP
variable {p : Program} {l : Launch} {e : Env} {R : Room} {s : State} {m : MethodId} {args : Array Value} {below : List Frame} {meth : Method} {c : Code} {H : Heap} {locs : List Loc} {cells slots : Nat} {Q : State → Prop}
variable {z pc : Nat} {ad : Nat → Nat} {rv : Nat → Value} {cI cL cZ : ClassId} {D : va_G} {Ls : Nat} {xs : Nat → Int32} {I : MM} {L S S' : List AV} {ls : Array Slot} {c' : CFG}
theorem sI_iload (hC : CX p s m args c z ad rv cI cL cZ D Ls xs) (hV : INV s z ad rv cI cL cZ D Ls xs I L S ls H locs) {i : Nat} (hd : decode (mB z) pc = .ok (.iload i, 2)) (h : ldV (pc + 2) L S I 0 i = some (.inr c')) (k : NXT p l e R s m args below meth c cells slots Q z ad rv cI cL cZ D Ls xs c') : W p l e R s m args below meth c H locs cells slots Q (F0 m pc ls (S.map (conc rv))) := by
  obtain ⟨hx, hb, -, -, -, -, hrv, -⟩ := hC
  unfold ldV at h
  split at h
  · next x ht hl =>
    simp only [lcc, Option.some.injEq, Sum.inr.injEq] at h
    subst h
    have k1 := k ls H locs (hV.psh (hV.2.1 _ (List.mem_of_getElem? hl)))
    exact lv_iload hx hb hd (hV.2.2.2.1.at hl (by intro q; cases q)) k1
  all_goals first | contradiction | cases h
theorem sI_iload_n (hC : CX p s m args c z ad rv cI cL cZ D Ls xs) (hV : INV s z ad rv cI cL cZ D Ls xs I L S ls H locs) {j : Fin 4} (hd : decode (mB z) pc = .ok (.iload_n j, 1)) (h : ldV (pc + 1) L S I 0 j.val = some (.inr c')) (k : NXT p l e R s m args below meth c cells slots Q z ad rv cI cL cZ D Ls xs c') : W p l e R s m args below meth c H locs cells slots Q (F0 m pc ls (S.map (conc rv))) := by
  obtain ⟨hx, hb, -, -, -, -, hrv, -⟩ := hC
  unfold ldV at h
  split at h
  · next x ht hl =>
    simp only [lcc, Option.some.injEq, Sum.inr.injEq] at h
    subst h
    have k1 := k ls H locs (hV.psh (hV.2.1 _ (List.mem_of_getElem? hl)))
    exact lv_iload_n hx hb hd rfl (hV.2.2.2.1.at hl (by intro q; cases q)) k1
  all_goals first | contradiction | cases h
theorem sI_lload (hC : CX p s m args c z ad rv cI cL cZ D Ls xs) (hV : INV s z ad rv cI cL cZ D Ls xs I L S ls H locs) {i : Nat} (hd : decode (mB z) pc = .ok (.lload i, 2)) (h : ldV (pc + 2) L S I 1 i = some (.inr c')) (k : NXT p l e R s m args below meth c cells slots Q z ad rv cI cL cZ D Ls xs c') : W p l e R s m args below meth c H locs cells slots Q (F0 m pc ls (S.map (conc rv))) := by
  obtain ⟨hx, hb, -, -, -, -, hrv, -⟩ := hC
  unfold ldV at h
  split at h
  · contradiction
  · next x ht hl =>
    simp only [lcc, Option.some.injEq, Sum.inr.injEq] at h
    subst h
    have k1 := k ls H locs (hV.psh (hV.2.1 _ (List.mem_of_getElem? hl)))
    exact lv_lload hx hb hd (hV.2.2.2.1.at hl (by intro q; cases q)) k1
  all_goals first | contradiction | cases h
theorem sI_lload_n (hC : CX p s m args c z ad rv cI cL cZ D Ls xs) (hV : INV s z ad rv cI cL cZ D Ls xs I L S ls H locs) {j : Fin 4} (hd : decode (mB z) pc = .ok (.lload_n j, 1)) (h : ldV (pc + 1) L S I 1 j.val = some (.inr c')) (k : NXT p l e R s m args below meth c cells slots Q z ad rv cI cL cZ D Ls xs c') : W p l e R s m args below meth c H locs cells slots Q (F0 m pc ls (S.map (conc rv))) := by
  obtain ⟨hx, hb, -, -, -, -, hrv, -⟩ := hC
  unfold ldV at h
  split at h
  · contradiction
  · next x ht hl =>
    simp only [lcc, Option.some.injEq, Sum.inr.injEq] at h
    subst h
    have k1 := k ls H locs (hV.psh (hV.2.1 _ (List.mem_of_getElem? hl)))
    exact lv_lload_n hx hb hd rfl (hV.2.2.2.1.at hl (by intro q; cases q)) k1
  all_goals first | contradiction | cases h
theorem sI_aload (hC : CX p s m args c z ad rv cI cL cZ D Ls xs) (hV : INV s z ad rv cI cL cZ D Ls xs I L S ls H locs) {i : Nat} (hd : decode (mB z) pc = .ok (.aload i, 2)) (h : ldV (pc + 2) L S I 2 i = some (.inr c')) (k : NXT p l e R s m args below meth c cells slots Q z ad rv cI cL cZ D Ls xs c') : W p l e R s m args below meth c H locs cells slots Q (F0 m pc ls (S.map (conc rv))) := by
  obtain ⟨hx, hb, -, -, -, -, hrv, -⟩ := hC
  unfold ldV at h
  split at h
  · contradiction
  · contradiction
  · next r ht hl =>
    split at h
    · cases h
    · next hr =>
      simp only [lcc, Option.some.injEq, Sum.inr.injEq] at h
      subst h
      have k1 := k ls H locs (hV.psh (hV.2.1 _ (List.mem_of_getElem? hl)))
      have hl2 := hV.2.2.2.1.at hl (by intro q; cases q)
      simp only [List.map_cons, conc] at k1 hl2
      rw [hrv _ (by omega)] at k1 hl2
      exact lv_aload hx hb hd hl2 k1
  all_goals first | contradiction | cases h
theorem sI_aload_n (hC : CX p s m args c z ad rv cI cL cZ D Ls xs) (hV : INV s z ad rv cI cL cZ D Ls xs I L S ls H locs) {j : Fin 4} (hd : decode (mB z) pc = .ok (.aload_n j, 1)) (h : ldV (pc + 1) L S I 2 j.val = some (.inr c')) (k : NXT p l e R s m args below meth c cells slots Q z ad rv cI cL cZ D Ls xs c') : W p l e R s m args below meth c H locs cells slots Q (F0 m pc ls (S.map (conc rv))) := by
  obtain ⟨hx, hb, -, -, -, -, hrv, -⟩ := hC
  unfold ldV at h
  split at h
  · contradiction
  · contradiction
  · next r ht hl =>
    split at h
    · cases h
    · next hr =>
      simp only [lcc, Option.some.injEq, Sum.inr.injEq] at h
      subst h
      have k1 := k ls H locs (hV.psh (hV.2.1 _ (List.mem_of_getElem? hl)))
      have hl2 := hV.2.2.2.1.at hl (by intro q; cases q)
      simp only [List.map_cons, conc] at k1 hl2
      rw [hrv _ (by omega)] at k1 hl2
      exact lv_aload_n hx hb hd rfl hl2 k1
  all_goals first | contradiction | cases h
theorem sI_istore (hC : CX p s m args c z ad rv cI cL cZ D Ls xs) (hV : INV s z ad rv cI cL cZ D Ls xs I L S ls H locs) {i : Nat} (hd : decode (mB z) pc = .ok (.istore i, 2)) (h : stV (pc + 2) L S I 0 i = some (.inr c')) (k : NXT p l e R s m args below meth c cells slots Q z ad rv cI cL cZ D Ls xs c') : W p l e R s m args below meth c H locs cells slots Q (F0 m pc ls (S.map (conc rv))) := by
  obtain ⟨hx, hb, -, -, -, -, hrv, hrc, -⟩ := hC
  unfold stV at h
  split at h
  · next x S' _ =>
    split at h
    · next hi =>
      simp only [lcc, Option.some.injEq, Sum.inr.injEq] at h
      subst h
      have hLR := hV.2.2.2.1
      have hi' := hi
      rw [hLR.2] at hi'
      refine lv_istore hx hb hd hLR.1 hi' rfl (fun ls' h' => ?_)
      exact k ls' H locs ⟨hV.1, okL_st1 hV.2.1 hV.hd, hV.tl.2.2.1, hLR.st1 hrc hi' (by rfl) h', hV.2.2.2.2⟩
    · cases h
  all_goals first | contradiction | cases h
theorem sI_istore_n (hC : CX p s m args c z ad rv cI cL cZ D Ls xs) (hV : INV s z ad rv cI cL cZ D Ls xs I L S ls H locs) {j : Fin 4} (hd : decode (mB z) pc = .ok (.istore_n j, 1)) (h : stV (pc + 1) L S I 0 j.val = some (.inr c')) (k : NXT p l e R s m args below meth c cells slots Q z ad rv cI cL cZ D Ls xs c') : W p l e R s m args below meth c H locs cells slots Q (F0 m pc ls (S.map (conc rv))) := by
  obtain ⟨hx, hb, -, -, -, -, hrv, hrc, -⟩ := hC
  unfold stV at h
  split at h
  · next x S' _ =>
    split at h
    · next hi =>
      simp only [lcc, Option.some.injEq, Sum.inr.injEq] at h
      subst h
      have hLR := hV.2.2.2.1
      have hi' := hi
      rw [hLR.2] at hi'
      refine lv_istore_n hx hb hd rfl hLR.1 hi' rfl (fun ls' h' => ?_)
      exact k ls' H locs ⟨hV.1, okL_st1 hV.2.1 hV.hd, hV.tl.2.2.1, hLR.st1 hrc hi' (by rfl) h', hV.2.2.2.2⟩
    · cases h
  all_goals first | contradiction | cases h
theorem sI_lstore (hC : CX p s m args c z ad rv cI cL cZ D Ls xs) (hV : INV s z ad rv cI cL cZ D Ls xs I L S ls H locs) {i : Nat} (hd : decode (mB z) pc = .ok (.lstore i, 2)) (h : stV (pc + 2) L S I 1 i = some (.inr c')) (k : NXT p l e R s m args below meth c cells slots Q z ad rv cI cL cZ D Ls xs c') : W p l e R s m args below meth c H locs cells slots Q (F0 m pc ls (S.map (conc rv))) := by
  obtain ⟨hx, hb, -, -, -, -, hrv, hrc, -⟩ := hC
  unfold stV at h
  split at h
  · contradiction
  · next x S' _ =>
    split at h
    · next hi =>
      simp only [lcc, Option.some.injEq, Sum.inr.injEq] at h
      subst h
      have hLR := hV.2.2.2.1
      have hi' := hi
      rw [hLR.2] at hi'
      refine lv_lstore hx hb hd hLR.1 hi' rfl (fun ls' h' => ?_)
      exact k ls' H locs ⟨hV.1, okL_st2 hV.2.1 hV.hd, hV.tl.2.2.1, hLR.st2 hrc hi' (by rfl) h', hV.2.2.2.2⟩
    · cases h
  all_goals first | contradiction | cases h
theorem sI_lstore_n (hC : CX p s m args c z ad rv cI cL cZ D Ls xs) (hV : INV s z ad rv cI cL cZ D Ls xs I L S ls H locs) {j : Fin 4} (hd : decode (mB z) pc = .ok (.lstore_n j, 1)) (h : stV (pc + 1) L S I 1 j.val = some (.inr c')) (k : NXT p l e R s m args below meth c cells slots Q z ad rv cI cL cZ D Ls xs c') : W p l e R s m args below meth c H locs cells slots Q (F0 m pc ls (S.map (conc rv))) := by
  obtain ⟨hx, hb, -, -, -, -, hrv, hrc, -⟩ := hC
  unfold stV at h
  split at h
  · contradiction
  · next x S' _ =>
    split at h
    · next hi =>
      simp only [lcc, Option.some.injEq, Sum.inr.injEq] at h
      subst h
      have hLR := hV.2.2.2.1
      have hi' := hi
      rw [hLR.2] at hi'
      refine lv_lstore_n hx hb hd rfl hLR.1 hi' rfl (fun ls' h' => ?_)
      exact k ls' H locs ⟨hV.1, okL_st2 hV.2.1 hV.hd, hV.tl.2.2.1, hLR.st2 hrc hi' (by rfl) h', hV.2.2.2.2⟩
    · cases h
  all_goals first | contradiction | cases h
theorem sI_astore (hC : CX p s m args c z ad rv cI cL cZ D Ls xs) (hV : INV s z ad rv cI cL cZ D Ls xs I L S ls H locs) {i : Nat} (hd : decode (mB z) pc = .ok (.astore i, 2)) (h : stV (pc + 2) L S I 2 i = some (.inr c')) (k : NXT p l e R s m args below meth c cells slots Q z ad rv cI cL cZ D Ls xs c') : W p l e R s m args below meth c H locs cells slots Q (F0 m pc ls (S.map (conc rv))) := by
  obtain ⟨hx, hb, -, -, -, -, hrv, hrc, -⟩ := hC
  unfold stV at h
  split at h
  · contradiction
  · contradiction
  · next r S' _ =>
    split at h
    · next hi =>
      simp only [lcc, Option.some.injEq, Sum.inr.injEq] at h
      subst h
      have hLR := hV.2.2.2.1
      have hi' := hi.1
      rw [hLR.2] at hi'
      simp only [List.map_cons, conc]
      rw [hrv _ (by omega)]
      refine lv_astore hx hb hd hLR.1 hi' rfl (fun ls' h' => ?_)
      exact k ls' H locs ⟨hV.1, okL_st1 hV.2.1 hV.hd, hV.tl.2.2.1, hLR.st1 hrc hi' (by rw [conc, hrv _ (by omega)]) h', hV.2.2.2.2⟩
    · cases h
  all_goals first | contradiction | cases h
theorem sI_astore_n (hC : CX p s m args c z ad rv cI cL cZ D Ls xs) (hV : INV s z ad rv cI cL cZ D Ls xs I L S ls H locs) {j : Fin 4} (hd : decode (mB z) pc = .ok (.astore_n j, 1)) (h : stV (pc + 1) L S I 2 j.val = some (.inr c')) (k : NXT p l e R s m args below meth c cells slots Q z ad rv cI cL cZ D Ls xs c') : W p l e R s m args below meth c H locs cells slots Q (F0 m pc ls (S.map (conc rv))) := by
  obtain ⟨hx, hb, -, -, -, -, hrv, hrc, -⟩ := hC
  unfold stV at h
  split at h
  · contradiction
  · contradiction
  · next r S' _ =>
    split at h
    · next hi =>
      simp only [lcc, Option.some.injEq, Sum.inr.injEq] at h
      subst h
      have hLR := hV.2.2.2.1
      have hi' := hi.1
      rw [hLR.2] at hi'
      simp only [List.map_cons, conc]
      rw [hrv _ (by omega)]
      refine lv_astore_n hx hb hd rfl hLR.1 hi' rfl (fun ls' h' => ?_)
      exact k ls' H locs ⟨hV.1, okL_st1 hV.2.1 hV.hd, hV.tl.2.2.1, hLR.st1 hrc hi' (by rw [conc, hrv _ (by omega)]) h', hV.2.2.2.2⟩
    · cases h
  all_goals first | contradiction | cases h
theorem sI_iinc (hC : CX p s m args c z ad rv cI cL cZ D Ls xs) (hV : INV s z ad rv cI cL cZ D Ls xs I L S ls H locs) {i : Nat} {v : Int} (hd : decode (mB z) pc = .ok (.iinc i v, 3)) (h : (match L[i]? with | some (.inl x) => if i < L.length ∧ ok16 v = true then lcc (pc + 3) (lset1 L i (vI (iadd x v))) S I else none | _ => none) = some (.inr c')) (k : NXT p l e R s m args below meth c cells slots Q z ad rv cI cL cZ D Ls xs c') : W p l e R s m args below meth c H locs cells slots Q (F0 m pc ls (S.map (conc rv))) := by
  obtain ⟨hx, hb, -, -, -, -, hrv, hrc, -⟩ := hC
  split at h
  · next x hl =>
    split at h
    · next hi =>
      simp only [lcc, Option.some.injEq, Sum.inr.injEq] at h
      subst h
      have hLR := hV.2.2.2.1
      have hi' := hi.1
      rw [hLR.2] at hi'
      obtain ⟨q, hq⟩ := List.getElem?_of_mem (ascL_mem (rv := rv) hl (by intro q; cases q))
      refine lv_iinc (v := Int32.ofInt (iadd x v)) hx hb hd hLR.1 hq (by rw [iadd, Int32.ofInt_toInt]) hi' rfl (fun ls' h' => ?_)
      exact k ls' H locs ⟨hV.1, okL_st1 hV.2.1 (v := vI (iadd x v)) (ok32_i _), hV.2.2.1, hLR.st1 hrc hi' rfl h', hV.2.2.2.2⟩
    · cases h
  · cases h
theorem tg_eq {pc : Nat} {off : Int} (h : 0 ≤ (pc : Int) + off) : (pc : Int) + off = (tg pc off : Nat) := by unfold tg; omega
theorem sI_goto (hC : CX p s m args c z ad rv cI cL cZ D Ls xs) (hV : INV s z ad rv cI cL cZ D Ls xs I L S ls H locs) {off : Int} (hd : decode (mB z) pc = .ok (.goto off, 3)) (h : goV pc off L S I = some (.inr c')) (k : NXT p l e R s m args below meth c cells slots Q z ad rv cI cL cZ D Ls xs c') : W p l e R s m args below meth c H locs cells slots Q (F0 m pc ls (S.map (conc rv))) := by
  obtain ⟨hx, hb, -⟩ := hC
  unfold goV at h
  split at h
  · next h0 =>
    simp only [lcc, Option.some.injEq, Sum.inr.injEq] at h
    subst h
    exact lv_goto hx hb hd (tg_eq h0) (k ls H locs hV)
  · cases h
theorem sI_if_eq (hC : CX p s m args c z ad rv cI cL cZ D Ls xs) (hV : INV s z ad rv cI cL cZ D Ls xs I L S ls H locs) {off : Int} (hd : decode (mB z) pc = .ok (.ifCond .eq off, 3)) (h : ifV .eq pc off L S I = some (.inr c')) (k : NXT p l e R s m args below meth c cells slots Q z ad rv cI cL cZ D Ls xs c') : W p l e R s m args below meth c H locs cells slots Q (F0 m pc ls (S.map (conc rv))) := by
  obtain ⟨hx, hb, -⟩ := hC
  unfold ifV at h
  split at h
  · next x S' =>
    unfold jmp at h
    split at h
    · next h0 =>
      simp only [lcc, Option.some.injEq, Sum.inr.injEq] at h
      subst h
      have ox : ok32 x := hV.hd
      have o0 : ok32 0 := ⟨by decide, by decide⟩
      have e0 : (0 : Int32) = Int32.ofInt 0 := rfl
      refine lv_if_eq hx hb hd (tg_eq h0) (fun q => ?_) (fun q => ?_)
      · have hc : cmpB .eq x 0 = true := by
          simp only [e0, i32_eq ox o0, i32_lt ox o0, i32_le ox o0, i32_lt o0 ox, i32_le o0 ox, ne_eq] at q
          simpa [cmpB] using q
        simp only [hc, if_true] at k
        exact k ls H locs hV.tl
      · have hc : cmpB .eq x 0 = false := by
          simp only [e0, i32_eq ox o0, i32_lt ox o0, i32_le ox o0, i32_lt o0 ox, i32_le o0 ox, ne_eq] at q
          simpa [cmpB] using q
        simp only [hc] at k
        exact k ls H locs hV.tl
    · cases h
  · cases h
theorem sI_cmp_eq (hC : CX p s m args c z ad rv cI cL cZ D Ls xs) (hV : INV s z ad rv cI cL cZ D Ls xs I L S ls H locs) {off : Int} (hd : decode (mB z) pc = .ok (.if_icmp .eq off, 3)) (h : ifC .eq pc off L S I = some (.inr c')) (k : NXT p l e R s m args below meth c cells slots Q z ad rv cI cL cZ D Ls xs c') : W p l e R s m args below meth c H locs cells slots Q (F0 m pc ls (S.map (conc rv))) := by
  obtain ⟨hx, hb, -⟩ := hC
  unfold ifC at h
  split at h
  · next y x S' =>
    unfold jmp at h
    split at h
    · next h0 =>
      simp only [lcc, Option.some.injEq, Sum.inr.injEq] at h
      subst h
      have oy : ok32 y := hV.hd
      have ox : ok32 x := hV.tl.hd
      refine lv_icmp_eq hx hb hd (tg_eq h0) (fun q => ?_) (fun q => ?_)
      · have hc : cmpB .eq x y = true := by
          simp only [i32_eq ox oy, i32_lt ox oy, i32_le ox oy, i32_lt oy ox, i32_le oy ox, ne_eq] at q
          simpa [cmpB] using q
        simp only [hc, if_true] at k
        exact k ls H locs hV.tl.tl
      · have hc : cmpB .eq x y = false := by
          simp only [i32_eq ox oy, i32_lt ox oy, i32_le ox oy, i32_lt oy ox, i32_le oy ox, ne_eq] at q
          simpa [cmpB] using q
        simp only [hc] at k
        exact k ls H locs hV.tl.tl
    · cases h
  · cases h
theorem sI_if_ne (hC : CX p s m args c z ad rv cI cL cZ D Ls xs) (hV : INV s z ad rv cI cL cZ D Ls xs I L S ls H locs) {off : Int} (hd : decode (mB z) pc = .ok (.ifCond .ne off, 3)) (h : ifV .ne pc off L S I = some (.inr c')) (k : NXT p l e R s m args below meth c cells slots Q z ad rv cI cL cZ D Ls xs c') : W p l e R s m args below meth c H locs cells slots Q (F0 m pc ls (S.map (conc rv))) := by
  obtain ⟨hx, hb, -⟩ := hC
  unfold ifV at h
  split at h
  · next x S' =>
    unfold jmp at h
    split at h
    · next h0 =>
      simp only [lcc, Option.some.injEq, Sum.inr.injEq] at h
      subst h
      have ox : ok32 x := hV.hd
      have o0 : ok32 0 := ⟨by decide, by decide⟩
      have e0 : (0 : Int32) = Int32.ofInt 0 := rfl
      refine lv_if_ne hx hb hd (tg_eq h0) (fun q => ?_) (fun q => ?_)
      · have hc : cmpB .ne x 0 = true := by
          simp only [e0, i32_eq ox o0, i32_lt ox o0, i32_le ox o0, i32_lt o0 ox, i32_le o0 ox, ne_eq] at q
          simpa [cmpB] using q
        simp only [hc, if_true] at k
        exact k ls H locs hV.tl
      · have hc : cmpB .ne x 0 = false := by
          simp only [e0, i32_eq ox o0, i32_lt ox o0, i32_le ox o0, i32_lt o0 ox, i32_le o0 ox, ne_eq] at q
          simpa [cmpB] using q
        simp only [hc] at k
        exact k ls H locs hV.tl
    · cases h
  · cases h
theorem sI_cmp_ne (hC : CX p s m args c z ad rv cI cL cZ D Ls xs) (hV : INV s z ad rv cI cL cZ D Ls xs I L S ls H locs) {off : Int} (hd : decode (mB z) pc = .ok (.if_icmp .ne off, 3)) (h : ifC .ne pc off L S I = some (.inr c')) (k : NXT p l e R s m args below meth c cells slots Q z ad rv cI cL cZ D Ls xs c') : W p l e R s m args below meth c H locs cells slots Q (F0 m pc ls (S.map (conc rv))) := by
  obtain ⟨hx, hb, -⟩ := hC
  unfold ifC at h
  split at h
  · next y x S' =>
    unfold jmp at h
    split at h
    · next h0 =>
      simp only [lcc, Option.some.injEq, Sum.inr.injEq] at h
      subst h
      have oy : ok32 y := hV.hd
      have ox : ok32 x := hV.tl.hd
      refine lv_icmp_ne hx hb hd (tg_eq h0) (fun q => ?_) (fun q => ?_)
      · have hc : cmpB .ne x y = true := by
          simp only [i32_eq ox oy, i32_lt ox oy, i32_le ox oy, i32_lt oy ox, i32_le oy ox, ne_eq] at q
          simpa [cmpB] using q
        simp only [hc, if_true] at k
        exact k ls H locs hV.tl.tl
      · have hc : cmpB .ne x y = false := by
          simp only [i32_eq ox oy, i32_lt ox oy, i32_le ox oy, i32_lt oy ox, i32_le oy ox, ne_eq] at q
          simpa [cmpB] using q
        simp only [hc] at k
        exact k ls H locs hV.tl.tl
    · cases h
  · cases h
theorem sI_if_lt (hC : CX p s m args c z ad rv cI cL cZ D Ls xs) (hV : INV s z ad rv cI cL cZ D Ls xs I L S ls H locs) {off : Int} (hd : decode (mB z) pc = .ok (.ifCond .lt off, 3)) (h : ifV .lt pc off L S I = some (.inr c')) (k : NXT p l e R s m args below meth c cells slots Q z ad rv cI cL cZ D Ls xs c') : W p l e R s m args below meth c H locs cells slots Q (F0 m pc ls (S.map (conc rv))) := by
  obtain ⟨hx, hb, -⟩ := hC
  unfold ifV at h
  split at h
  · next x S' =>
    unfold jmp at h
    split at h
    · next h0 =>
      simp only [lcc, Option.some.injEq, Sum.inr.injEq] at h
      subst h
      have ox : ok32 x := hV.hd
      have o0 : ok32 0 := ⟨by decide, by decide⟩
      have e0 : (0 : Int32) = Int32.ofInt 0 := rfl
      refine lv_if_lt hx hb hd (tg_eq h0) (fun q => ?_) (fun q => ?_)
      · have hc : cmpB .lt x 0 = true := by
          simp only [e0, i32_eq ox o0, i32_lt ox o0, i32_le ox o0, i32_lt o0 ox, i32_le o0 ox, ne_eq] at q
          simpa [cmpB] using q
        simp only [hc, if_true] at k
        exact k ls H locs hV.tl
      · have hc : cmpB .lt x 0 = false := by
          simp only [e0, i32_eq ox o0, i32_lt ox o0, i32_le ox o0, i32_lt o0 ox, i32_le o0 ox, ne_eq] at q
          simpa [cmpB] using q
        simp only [hc] at k
        exact k ls H locs hV.tl
    · cases h
  · cases h
theorem sI_cmp_lt (hC : CX p s m args c z ad rv cI cL cZ D Ls xs) (hV : INV s z ad rv cI cL cZ D Ls xs I L S ls H locs) {off : Int} (hd : decode (mB z) pc = .ok (.if_icmp .lt off, 3)) (h : ifC .lt pc off L S I = some (.inr c')) (k : NXT p l e R s m args below meth c cells slots Q z ad rv cI cL cZ D Ls xs c') : W p l e R s m args below meth c H locs cells slots Q (F0 m pc ls (S.map (conc rv))) := by
  obtain ⟨hx, hb, -⟩ := hC
  unfold ifC at h
  split at h
  · next y x S' =>
    unfold jmp at h
    split at h
    · next h0 =>
      simp only [lcc, Option.some.injEq, Sum.inr.injEq] at h
      subst h
      have oy : ok32 y := hV.hd
      have ox : ok32 x := hV.tl.hd
      refine lv_icmp_lt hx hb hd (tg_eq h0) (fun q => ?_) (fun q => ?_)
      · have hc : cmpB .lt x y = true := by
          simp only [i32_eq ox oy, i32_lt ox oy, i32_le ox oy, i32_lt oy ox, i32_le oy ox, ne_eq] at q
          simpa [cmpB] using q
        simp only [hc, if_true] at k
        exact k ls H locs hV.tl.tl
      · have hc : cmpB .lt x y = false := by
          simp only [i32_eq ox oy, i32_lt ox oy, i32_le ox oy, i32_lt oy ox, i32_le oy ox, ne_eq] at q
          simpa [cmpB] using q
        simp only [hc] at k
        exact k ls H locs hV.tl.tl
    · cases h
  · cases h
theorem sI_if_ge (hC : CX p s m args c z ad rv cI cL cZ D Ls xs) (hV : INV s z ad rv cI cL cZ D Ls xs I L S ls H locs) {off : Int} (hd : decode (mB z) pc = .ok (.ifCond .ge off, 3)) (h : ifV .ge pc off L S I = some (.inr c')) (k : NXT p l e R s m args below meth c cells slots Q z ad rv cI cL cZ D Ls xs c') : W p l e R s m args below meth c H locs cells slots Q (F0 m pc ls (S.map (conc rv))) := by
  obtain ⟨hx, hb, -⟩ := hC
  unfold ifV at h
  split at h
  · next x S' =>
    unfold jmp at h
    split at h
    · next h0 =>
      simp only [lcc, Option.some.injEq, Sum.inr.injEq] at h
      subst h
      have ox : ok32 x := hV.hd
      have o0 : ok32 0 := ⟨by decide, by decide⟩
      have e0 : (0 : Int32) = Int32.ofInt 0 := rfl
      refine lv_if_ge hx hb hd (tg_eq h0) (fun q => ?_) (fun q => ?_)
      · have hc : cmpB .ge x 0 = true := by
          simp only [e0, i32_eq ox o0, i32_lt ox o0, i32_le ox o0, i32_lt o0 ox, i32_le o0 ox, ne_eq] at q
          simpa [cmpB] using q
        simp only [hc, if_true] at k
        exact k ls H locs hV.tl
      · have hc : cmpB .ge x 0 = false := by
          simp only [e0, i32_eq ox o0, i32_lt ox o0, i32_le ox o0, i32_lt o0 ox, i32_le o0 ox, ne_eq] at q
          simpa [cmpB] using q
        simp only [hc] at k
        exact k ls H locs hV.tl
    · cases h
  · cases h
theorem sI_cmp_ge (hC : CX p s m args c z ad rv cI cL cZ D Ls xs) (hV : INV s z ad rv cI cL cZ D Ls xs I L S ls H locs) {off : Int} (hd : decode (mB z) pc = .ok (.if_icmp .ge off, 3)) (h : ifC .ge pc off L S I = some (.inr c')) (k : NXT p l e R s m args below meth c cells slots Q z ad rv cI cL cZ D Ls xs c') : W p l e R s m args below meth c H locs cells slots Q (F0 m pc ls (S.map (conc rv))) := by
  obtain ⟨hx, hb, -⟩ := hC
  unfold ifC at h
  split at h
  · next y x S' =>
    unfold jmp at h
    split at h
    · next h0 =>
      simp only [lcc, Option.some.injEq, Sum.inr.injEq] at h
      subst h
      have oy : ok32 y := hV.hd
      have ox : ok32 x := hV.tl.hd
      refine lv_icmp_ge hx hb hd (tg_eq h0) (fun q => ?_) (fun q => ?_)
      · have hc : cmpB .ge x y = true := by
          simp only [i32_eq ox oy, i32_lt ox oy, i32_le ox oy, i32_lt oy ox, i32_le oy ox, ne_eq] at q
          simpa [cmpB] using q
        simp only [hc, if_true] at k
        exact k ls H locs hV.tl.tl
      · have hc : cmpB .ge x y = false := by
          simp only [i32_eq ox oy, i32_lt ox oy, i32_le ox oy, i32_lt oy ox, i32_le oy ox, ne_eq] at q
          simpa [cmpB] using q
        simp only [hc] at k
        exact k ls H locs hV.tl.tl
    · cases h
  · cases h
theorem sI_if_gt (hC : CX p s m args c z ad rv cI cL cZ D Ls xs) (hV : INV s z ad rv cI cL cZ D Ls xs I L S ls H locs) {off : Int} (hd : decode (mB z) pc = .ok (.ifCond .gt off, 3)) (h : ifV .gt pc off L S I = some (.inr c')) (k : NXT p l e R s m args below meth c cells slots Q z ad rv cI cL cZ D Ls xs c') : W p l e R s m args below meth c H locs cells slots Q (F0 m pc ls (S.map (conc rv))) := by
  obtain ⟨hx, hb, -⟩ := hC
  unfold ifV at h
  split at h
  · next x S' =>
    unfold jmp at h
    split at h
    · next h0 =>
      simp only [lcc, Option.some.injEq, Sum.inr.injEq] at h
      subst h
      have ox : ok32 x := hV.hd
      have o0 : ok32 0 := ⟨by decide, by decide⟩
      have e0 : (0 : Int32) = Int32.ofInt 0 := rfl
      refine lv_if_gt hx hb hd (tg_eq h0) (fun q => ?_) (fun q => ?_)
      · have hc : cmpB .gt x 0 = true := by
          simp only [e0, i32_eq ox o0, i32_lt ox o0, i32_le ox o0, i32_lt o0 ox, i32_le o0 ox, ne_eq] at q
          simpa [cmpB] using q
        simp only [hc, if_true] at k
        exact k ls H locs hV.tl
      · have hc : cmpB .gt x 0 = false := by
          simp only [e0, i32_eq ox o0, i32_lt ox o0, i32_le ox o0, i32_lt o0 ox, i32_le o0 ox, ne_eq] at q
          simpa [cmpB] using q
        simp only [hc] at k
        exact k ls H locs hV.tl
    · cases h
  · cases h
theorem sI_cmp_gt (hC : CX p s m args c z ad rv cI cL cZ D Ls xs) (hV : INV s z ad rv cI cL cZ D Ls xs I L S ls H locs) {off : Int} (hd : decode (mB z) pc = .ok (.if_icmp .gt off, 3)) (h : ifC .gt pc off L S I = some (.inr c')) (k : NXT p l e R s m args below meth c cells slots Q z ad rv cI cL cZ D Ls xs c') : W p l e R s m args below meth c H locs cells slots Q (F0 m pc ls (S.map (conc rv))) := by
  obtain ⟨hx, hb, -⟩ := hC
  unfold ifC at h
  split at h
  · next y x S' =>
    unfold jmp at h
    split at h
    · next h0 =>
      simp only [lcc, Option.some.injEq, Sum.inr.injEq] at h
      subst h
      have oy : ok32 y := hV.hd
      have ox : ok32 x := hV.tl.hd
      refine lv_icmp_gt hx hb hd (tg_eq h0) (fun q => ?_) (fun q => ?_)
      · have hc : cmpB .gt x y = true := by
          simp only [i32_eq ox oy, i32_lt ox oy, i32_le ox oy, i32_lt oy ox, i32_le oy ox, ne_eq] at q
          simpa [cmpB] using q
        simp only [hc, if_true] at k
        exact k ls H locs hV.tl.tl
      · have hc : cmpB .gt x y = false := by
          simp only [i32_eq ox oy, i32_lt ox oy, i32_le ox oy, i32_lt oy ox, i32_le oy ox, ne_eq] at q
          simpa [cmpB] using q
        simp only [hc] at k
        exact k ls H locs hV.tl.tl
    · cases h
  · cases h
theorem sI_if_le (hC : CX p s m args c z ad rv cI cL cZ D Ls xs) (hV : INV s z ad rv cI cL cZ D Ls xs I L S ls H locs) {off : Int} (hd : decode (mB z) pc = .ok (.ifCond .le off, 3)) (h : ifV .le pc off L S I = some (.inr c')) (k : NXT p l e R s m args below meth c cells slots Q z ad rv cI cL cZ D Ls xs c') : W p l e R s m args below meth c H locs cells slots Q (F0 m pc ls (S.map (conc rv))) := by
  obtain ⟨hx, hb, -⟩ := hC
  unfold ifV at h
  split at h
  · next x S' =>
    unfold jmp at h
    split at h
    · next h0 =>
      simp only [lcc, Option.some.injEq, Sum.inr.injEq] at h
      subst h
      have ox : ok32 x := hV.hd
      have o0 : ok32 0 := ⟨by decide, by decide⟩
      have e0 : (0 : Int32) = Int32.ofInt 0 := rfl
      refine lv_if_le hx hb hd (tg_eq h0) (fun q => ?_) (fun q => ?_)
      · have hc : cmpB .le x 0 = true := by
          simp only [e0, i32_eq ox o0, i32_lt ox o0, i32_le ox o0, i32_lt o0 ox, i32_le o0 ox, ne_eq] at q
          simpa [cmpB] using q
        simp only [hc, if_true] at k
        exact k ls H locs hV.tl
      · have hc : cmpB .le x 0 = false := by
          simp only [e0, i32_eq ox o0, i32_lt ox o0, i32_le ox o0, i32_lt o0 ox, i32_le o0 ox, ne_eq] at q
          simpa [cmpB] using q
        simp only [hc] at k
        exact k ls H locs hV.tl
    · cases h
  · cases h
theorem sI_cmp_le (hC : CX p s m args c z ad rv cI cL cZ D Ls xs) (hV : INV s z ad rv cI cL cZ D Ls xs I L S ls H locs) {off : Int} (hd : decode (mB z) pc = .ok (.if_icmp .le off, 3)) (h : ifC .le pc off L S I = some (.inr c')) (k : NXT p l e R s m args below meth c cells slots Q z ad rv cI cL cZ D Ls xs c') : W p l e R s m args below meth c H locs cells slots Q (F0 m pc ls (S.map (conc rv))) := by
  obtain ⟨hx, hb, -⟩ := hC
  unfold ifC at h
  split at h
  · next y x S' =>
    unfold jmp at h
    split at h
    · next h0 =>
      simp only [lcc, Option.some.injEq, Sum.inr.injEq] at h
      subst h
      have oy : ok32 y := hV.hd
      have ox : ok32 x := hV.tl.hd
      refine lv_icmp_le hx hb hd (tg_eq h0) (fun q => ?_) (fun q => ?_)
      · have hc : cmpB .le x y = true := by
          simp only [i32_eq ox oy, i32_lt ox oy, i32_le ox oy, i32_lt oy ox, i32_le oy ox, ne_eq] at q
          simpa [cmpB] using q
        simp only [hc, if_true] at k
        exact k ls H locs hV.tl.tl
      · have hc : cmpB .le x y = false := by
          simp only [i32_eq ox oy, i32_lt ox oy, i32_le ox oy, i32_lt oy ox, i32_le oy ox, ne_eq] at q
          simpa [cmpB] using q
        simp only [hc] at k
        exact k ls H locs hV.tl.tl
    · cases h
  · cases h
theorem sI_tsw (hC : CX p s m args c z ad rv cI cL cZ D Ls xs) (hV : INV s z ad rv cI cL cZ D Ls xs I L S ls H locs) {dflt lo hi : Int} {offs : Array Int} {len : Nat} (hd : decode (mB z) pc = .ok (.tableswitch dflt lo hi offs, len)) (h : (match S with | .inl x :: S' => if (hi - lo).toNat < offs.size then goV pc (tsw pc dflt lo hi offs x) L S' I else none | _ => none) = some (.inr c')) (k : NXT p l e R s m args below meth c cells slots Q z ad rv cI cL cZ D Ls xs c') : W p l e R s m args below meth c H locs cells slots Q (F0 m pc ls (S.map (conc rv))) := by
  obtain ⟨hx, hb, -⟩ := hC
  split at h
  · next x S' =>
    split at h
    · next hz =>
     unfold goV at h
     split at h
     · next h0 =>
      simp only [lcc, Option.some.injEq, Sum.inr.injEq] at h
      subst h
      have ox : ok32 x := hV.hd
      have k1 := k ls H locs hV.tl
      by_cases hin : lo ≤ x ∧ x ≤ hi
      · have e : tsw pc dflt lo hi offs x = offs.getD (x - lo).toNat dflt := by unfold tsw; rw [if_pos hin]
        have hlt : (x - lo).toNat < offs.size := by omega
        rw [e] at h0 k1
        refine lv_tableIn hx hb hd (off := offs.getD (x - lo).toNat dflt) (by rw [i32_id ox]; omega) (by rw [i32_id ox]; omega) (by rw [i32_id ox, Array.getElem?_eq_getElem hlt, Array.getD, dif_pos hlt]; rfl) (tg_eq h0) k1
      · have e : tsw pc dflt lo hi offs x = dflt := by unfold tsw; rw [if_neg hin]
        rw [e] at h0 k1
        exact lv_tableOut hx hb hd (by rw [i32_id ox]; omega) (tg_eq h0) k1
     · cases h
    · cases h
  · cases h
theorem lsw_eq (d : Int) (x : Int) : ∀ ps : List (Int × Int), Op.lookupswitch.offset ps d x = lsw d ps x
  | [] => by simp [lsw, Op.lookupswitch.offset]
  | q :: r => by
    obtain ⟨a, o⟩ := q
    rw [Op.lookupswitch.offset_cons, lsw_eq d x r, lsw]
theorem sI_lsw (hC : CX p s m args c z ad rv cI cL cZ D Ls xs) (hV : INV s z ad rv cI cL cZ D Ls xs I L S ls H locs) {dflt : Int} {ps : Array (Int × Int)} {len : Nat} (hd : decode (mB z) pc = .ok (.lookupswitch dflt ps, len)) (h : (match S with | .inl x :: S' => if (ps.toList.zip (ps.toList.drop 1)).all (fun (a, next) => a.1 < next.1) = true then goV pc (lsw dflt ps.toList x) L S' I else none | _ => none) = some (.inr c')) (k : NXT p l e R s m args below meth c cells slots Q z ad rv cI cL cZ D Ls xs c') : W p l e R s m args below meth c H locs cells slots Q (F0 m pc ls (S.map (conc rv))) := by
  obtain ⟨hx, hb, -⟩ := hC
  split at h
  · next x S' =>
    split at h
    · next hp =>
      unfold goV at h
      split at h
      · next h0 =>
        simp only [lcc, Option.some.injEq, Sum.inr.injEq] at h
        subst h
        have ox : ok32 x := hV.hd
        exact lv_lookup hx hb hd hp (by rw [i32_id ox, lsw_eq]) (tg_eq h0) (k ls H locs hV.tl)
      · cases h
    · cases h
  · cases h
end STEP
