/-! A method: what the small machine answers is the method's contract. -/
section METH
variable {p : Program} {l : Launch} {e : Env} {R : Room} {s : State} {m : MethodId} {args : Array Value} {below : List Frame} {meth : Method} {c : Code}
variable {z pc : Nat} {ad : Nat → Nat} {rv : Nat → Value} {cI cL cZ : ClassId} {D : va_G} {I : MM}
theorem flat_args (hrc : ∀ k, (rv k).category ≠ 2) : ∀ (a : List AV) (i j : Nat) (w : AV), (flat a)[j]? = some w → w ≠ vR 0 → (i + j, conc rv w) ∈ lv_args i (a.map (conc rv))
  | [], _, _, _, h, _ => by simp [flat] at h
  | v :: r, i, j, w, h, hw => by
    rcases v with x | x | x
    · have hc : ¬ (conc rv (vI x)).category = 2 := by show ¬ (1 : Nat) = 2; decide
      simp only [flat] at h
      simp only [List.map_cons, lv_args, if_neg hc]
      cases j with
      | zero => cases h; exact List.mem_cons_self
      | succ j =>
        have := flat_args hrc r (i + 1) j w (by simpa using h) hw
        rw [show i + (j + 1) = i + 1 + j by omega]
        exact List.mem_cons_of_mem _ this
    · have hc : (conc rv (vL x)).category = 2 := rfl
      simp only [flat] at h
      simp only [List.map_cons, lv_args, if_pos hc]
      match j, h with
      | 0, h => cases h; exact List.mem_cons_self
      | 1, h => cases h; exact absurd rfl hw
      | j + 2, h =>
        have := flat_args hrc r (i + 2) j w (by simpa using h) hw
        rw [show i + (j + 2) = i + 2 + j by omega]
        exact List.mem_cons_of_mem _ this
    · have hc : ¬ (conc rv (vR x)).category = 2 := hrc x
      simp only [flat] at h
      simp only [List.map_cons, lv_args, if_neg hc]
      cases j with
      | zero => cases h; exact List.mem_cons_self
      | succ j =>
        have := flat_args hrc r (i + 1) j w (by simpa using h) hw
        rw [show i + (j + 1) = i + 1 + j by omega]
        exact List.mem_cons_of_mem _ this
theorem flat_len (hrc : ∀ k, (rv k).category ≠ 2) : ∀ a : List AV, (lg_sl (a.map (conc rv))).length = (flat a).length
  | [] => rfl
  | v :: r => by
    have ih := flat_len hrc r
    rcases v with x | x | x
    · have hc : ¬ (conc rv (vI x)).category = 2 := by show ¬ (1 : Nat) = 2; decide
      simp only [lg_sl, List.map_cons, List.flatMap_cons, flat, if_neg hc, List.length_append, List.length_cons, List.length_nil] at ih ⊢
      omega
    · have hc : (conc rv (vL x)).category = 2 := rfl
      simp only [lg_sl, List.map_cons, List.flatMap_cons, flat, if_pos hc, List.length_append, List.length_cons, List.length_nil] at ih ⊢
      omega
    · have hc : ¬ (conc rv (vR x)).category = 2 := hrc x
      simp only [lg_sl, List.map_cons, List.flatMap_cons, flat, if_neg hc, List.length_append, List.length_cons, List.length_nil] at ih ⊢
      omega
theorem LR_entry (hrc : ∀ k, (rv k).category ≠ 2) {a : List AV} {n : Nat} (h : (flat a).length ≤ n) : LR rv n ((lg_sl (a.map (conc rv)) ++ List.replicate (n - (lg_sl (a.map (conc rv))).length) Slot.unset).toArray) (entL n a) := by
  have h1 := lv_entry (a.map (conc rv)) (n := n) (by rw [flat_len hrc]; exact h)
  refine LR.of h1 (by simp only [entL, List.length_append, List.length_replicate]; omega) (fun j w hj hw => ?_)
  unfold entL at hj
  by_cases hl : j < (flat a).length
  · rw [List.getElem?_append_left hl] at hj
    have := flat_args hrc a 0 j w hj hw
    rwa [Nat.zero_add] at this
  · rw [List.getElem?_append_right (by omega)] at hj
    have := List.mem_of_getElem? hj
    exact absurd (List.mem_replicate.mp this).2 hw
/-- a method's returns, on the kit's side -/
theorem ret_met (hx : p.tables.exec = Jvm.exec) (hb : c.code = mB z) (hr : meth.sig.returnType = mR z) (hlocks : meth.locks = false) (hrv : ∀ k, k ≠ 99 → rv k = .ref (ad k)) {r : Option AV} {Ls : Nat} {xs : Nat → Int32} :
    RETH p l e R s m args below meth c 0 0 (MQ below (QcM z ad rv cI cL cZ D r I) args s 0 0 (adA ad (Wd z))) z ad rv cI cL cZ D Ls xs r I := by
  intro pc k L S ls H locs hk hV hd h
  have hP := hV.2.2.2.2.1
  have hS := hV.2.2.2.2.2.1
  have post : ∀ t : State, t.heap = H → s.WarmedH t.vm → QcM z ad rv cI cL cZ D r I args s (.returned (r.map (conc rv))) t := fun t ht _ => ⟨rfl, by rw [ht]; exact hP, hS.F ht⟩
  have hf : ∀ q ∈ locs, adA ad (Wd z) q.base := hS.2.2
  unfold retV at h
  split at h
  · next x =>
    split at h
    · next ok =>
      cases h
      show W p l e R s m args below meth c H locs 0 0 _ (F0 m pc ls [.int (Int32.ofInt x)])
      unfold retOK at ok
      split at ok
      · next hm _ =>
        exact W.iret hx hb (hr.trans hm) post hf hd hlocks
      · next y hm hy =>
        cases hy
        refine W.zret hx hb (hr.trans hm) ?_ post hf hd hlocks
        simp only [Bool.or_eq_true, beq_iff_eq] at ok
        rcases ok with rfl | rfl <;> rfl
      · next y hm hy =>
        cases hy
        refine W.zret hx hb (hr.trans hm) ?_ post hf hd hlocks
        simp only [Bool.or_eq_true, beq_iff_eq] at ok
        rcases ok with rfl | rfl <;> rfl
      · next y hm hy =>
        cases hy
        refine W.zret hx hb (hr.trans hm) ?_ post hf hd hlocks
        simp only [Bool.and_eq_true, decide_eq_true_eq] at ok
        have e1 : Int32.ofInt x = nI x.toNat := by
          show Int32.ofInt x = Int32.ofNat x.toNat
          rw [← Int32.ofInt_eq_ofNat, Int.toNat_of_nonneg ok.1]
        rw [e1]
        exact (pk_charN (by omega)).1
      all_goals first | (rename_i hy; cases hy; done) | cases ok
    · cases h
  · next x =>
    split at h
    · next ok =>
      cases h
      show W p l e R s m args below meth c H locs 0 0 _ (F0 m pc ls [.long (Int64.ofInt x)])
      unfold retOK at ok
      split at ok
      case h_5 hm _ => exact W.lret hx hb (hr.trans hm) post hf hd hlocks
      all_goals first | (rename_i hy; cases hy; done) | cases ok
    · cases h
  · next a =>
    split at h
    · next ok =>
      cases h
      unfold retOK at ok
      split at ok
      case h_6 hm hy =>
        cases hy
        have h99 : a ≠ 99 := by simpa using ok
        have hra := hrv a h99
        simp only [Option.map, conc, hra] at post
        show W p l e R s m args below meth c H locs 0 0 _ (F0 m pc ls [rv a])
        rw [hra]
        exact W.aret hx hb (hr.trans hm) (Or.inl ⟨_, rfl⟩) (Or.inr ⟨_, rfl⟩) post hf hd hlocks
      all_goals first | (rename_i hy; cases hy; done) | cases ok
    · cases h
  · split at h
    · next ok =>
      cases h
      show W p l e R s m args below meth c H locs 0 0 _ (F0 m pc ls [])
      unfold retOK at ok
      split at ok
      case h_7 hm _ => exact W.vret hx hb (hr.trans hm) post hf hd hlocks
      all_goals first | (rename_i hy; cases hy; done) | cases ok
    · cases h
  · cases h
/-- as the kit's Met.ofW, for any method in whose place the machine runs no entry of its own (Math.floorMod too) -/
theorem Met.ofWF {l : Launch} {y : MethodName} {ws ws' : List Cond} {rm : Room} {Pc : Array Value → State → Prop} {Qc : Array Value → State → Outcome → State → Prop} {mc ms : Nat} {free : Addr → Prop} {cc : ByteArray} {maxL : Nat} {ret : Option FieldType}
    (hy : plainFor y = true) (hw : ws = Cond.code y cc maxL ret :: ws')
    (body : ∀ p e s m args below meth c s₁, BodyLoose p l y (headSpec ws rm) cc maxL ret e s m args below meth c s₁ → c.maxLocals = maxL → Pc args s →
      W p l e (headSpec ws rm).room s m args below meth c s.heap [] 0 0 (MQ below Qc args s mc ms free) (entryFrame m args maxL)) : Met l y ws rm Pc Qc mc ms free := by
  refine MetFree.of_bodySF (code := cc) (maxLocals := maxL) (ret := ret) hy ?_ ?_
  · intro args s m h hn
    obtain ⟨meth, c, h1, h2, h3, h4, h5, h6, -, -⟩ := Cond.code_spec hn (atoms_spec (ws := ws) h _ (by rw [hw]; exact List.mem_cons_self))
    exact ⟨meth, c, h1, h2, h3, h4, h5, h6⟩
  · intro p e s m args below meth c s₁ B hml hP _
    have hh0 : s₁.heap = s.heap := by rw [B.state]; rfl
    obtain ⟨t, a1, o, b1, b2, b3⟩ := body p e s m args below meth c s₁ B hml hP s₁ hh0 (Stand.of_body B)
    exact ⟨t, o, a1, b1, b2, ⟨b3.1, b3.2⟩⟩
theorem plain_all : ∀ e ∈ mT, plainFor e.1 = true := by
  have h : ∀ e ∈ mT, plainName e.1.cls = true ∨ (e.1.cls = "java/lang/Math" ∧ e.1.name = "floorMod" ∧ e.1.desc = "(JJ)J") := by decide +kernel
  have hf : (NativeRow.find? Jvm.natives "java/lang/Math" "floorMod" "(JJ)J").isNone = true := by decide +kernel
  intro e he
  rcases h e he with q | ⟨q1, q2, q3⟩
  · exact plainFor_of_name q
  · unfold plainFor
    rw [q1, q2, q3, hf]
    simp
/-- the contract, out of the callees' contracts -/
theorem met_of {d y : Nat} {a : List AV} {r : Option AV} {I' : MM} (hy : y < 273) (hcal : ∀ y a I r I', y < 273 → call d y a I = some (r, I') → METZ l d y a I r I') (h : call (d + 1) y a I = some (r, I')) : METZ l (d + 1) y a I r I' := by
  intro hM ha
  refine ⟨pu_call _ _ _ _ _ _ h hM ha, fun ad rv cI cL cZ D hinj hrv hrc => ?_⟩
  rw [call] at h
  split at h
  · next hfl =>
    rw [runs] at h
    obtain ⟨n, hn⟩ := runC_iff.mp h
    refine Met.ofWF (cc := mB y) (maxL := mL y) (ret := mR y) (plain_all _ (mq_mem hy)) rfl ?_
    intro p e s m args below meth c s₁ B hml hv
    obtain ⟨rfl, hP, hK, hSt⟩ := hv
    have hx := B.exec
    have hb := B.bytes
    have hts0 := atoms_spec (ws := wsM y) B.pre
    have hts : ∀ w ∈ TBL, w.before _ s = true := fun w hw => hts0 w (List.mem_cons_of_mem _ hw)
    have n3 : clsN (mC y) = (mY y).cls := (mq_Q hy).2.2.1
    have hown : s.vm.findClass (clsN (mC y)) = some m.cls := by rw [n3]; exact findClass_of_methodNamed B.named
    have hwid : wid y ≠ 2 := by
      have h18 : ∀ e ∈ mT, e.2.2.2.2.1 ≠ 18 := by decide +kernel
      have := h18 _ (mq_mem hy)
      unfold wid
      rw [if_neg this]
      split <;> decide
    have hC : CX p s m ((a.map (conc rv)).toArray) c y ad rv cI cL cZ D 0 (fun _ => 0) := ⟨hx, hb, hml, hown, hts, hK, hrv, hrc, hinj, hSt, fun q => absurd q hwid⟩
    rw [lg_entry_eq]
    exact sound hcal ⟨Nat.le_refl _, by show 40 * d + 40 ≤ 40 * (d + 1); omega⟩ ⟨Nat.le_refl _, Nat.le_refl _⟩ hC (ret_met hx hb B.returns B.notSynchronized hrv) n (0, entL (mL y) a, [], I) _ _ _ hn
      ⟨hM, pu_flat ha, fun v hv => absurd hv List.not_mem_nil, LR_entry hrc hfl, hP, va_S.rf, fun q => absurd q hwid⟩
  · cases h
/-- every method's contract -/
theorem met_all : ∀ (d y : Nat) (a : List AV) (I : MM) (r : Option AV) (I' : MM), y < 273 → call d y a I = some (r, I') → METZ l d y a I r I'
  | 0, _, _, _, _, _, _, h => by cases h
  | d + 1, _, _, _, _, _, hy, h => met_of hy (met_all d) h
end METH
