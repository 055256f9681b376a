/-! One step of the small machine is one step of W. -/
def strB : List (List Int32) := strT.map (fun l => l.map Int32.ofInt)
def StatH (rv : Nat → Value) (ad : Nat → Nat) (A : Nat → Prop) (U : State) (H : Heap) : Prop :=
  (va_Z RX0 "LONGER" "[I" (.ref (ad 97)) A U H ∧ va_T .int (ad 97) 6 (fun j => .int (Int32.ofInt ((roT.getD 0 []).getD j 0))) A U H) ∧
  (va_Z RX0 "STRONGER" "[I" (.ref (ad 98)) A U H ∧ va_T .int (ad 98) 6 (fun j => .int (Int32.ofInt ((roT.getD 1 []).getD j 0))) A U H) ∧
  va_Z "java/lang/String" "COMPACT_STRINGS" "Z" (.int 1) A U H ∧
  va_Z "jdk/internal/util/Preconditions" "SIOOBE_FORMATTER" "Ljava/util/function/BiFunction;" (rv 99) A U H ∧
  vk_S 4 (strT.map (fun l => l.length)) strB (fun i => ad (89 + i)) (fun i => ad (93 + i)) A U H ∧
  vk_R RX9 43 "last" (ad 89) U ∧ vk_R RX9 56 "island" (ad 90) U ∧ vk_R RX9 63 "walker" (ad 91) U ∧ vk_R RX9 72 "board" (ad 92) U
def CX (p : Program) (s : State) (m : MethodId) (args : Array Value) (c : Code) (z : Nat) (ad : Nat → Nat) (rv : Nat → Value) (cI cL cZ : ClassId) (D : va_G) (Ls : Nat) (xs : Nat → Int32) : Prop :=
  p.tables.exec = Jvm.exec ∧ c.code = mB z ∧ c.maxLocals = mL z ∧ s.vm.findClass (clsN (mC z)) = some m.cls ∧ (∀ w ∈ TBL, w.before args s = true) ∧ va_K D vwCl (tysG cI cL cZ) s ∧
  (∀ k, k ≠ 99 → rv k = .ref (ad k)) ∧ (∀ k, (rv k).category ≠ 2) ∧ adInj ad (Wd z) ∧ StatH rv ad (adA ad (Wd z)) s s.heap ∧
  (wid z = 2 → va_X (ad 100) Ls xs s s.heap ∧ ad 100 < s.heap.size ∧ ¬ adA ad (Wd z) (ad 100))
def INV (s : State) (z : Nat) (ad : Nat → Nat) (rv : Nat → Value) (cI cL cZ : ClassId) (D : va_G) (Ls : Nat) (xs : Nat → Int32) (I : MM) (L S : List AV) (ls : Array Slot) (H : Heap) (locs : List Loc) : Prop :=
  okM I ∧ (∀ v ∈ L, okV v) ∧ (∀ v ∈ S, okV v) ∧ LR rv (mL z) ls L ∧ va_P D vwCl (wsK cI cL cZ ad I (Wd z)) H ∧ va_S (adA ad (Wd z)) s.heap H locs ∧
  (wid z = 2 → I 100 (-1) = Ls ∧ ∀ j : Nat, j < Ls → Int32.ofInt (I 100 j) = xs j)
theorem Wd_nodup (z : Nat) : (Wd z).Nodup := by
  have h : ∀ w, (WdN w).Nodup := fun w => by
    unfold WdN
    split <;> decide +kernel
  exact h _
/-- what is to be shown at the next place -/
def NXT (p : Program) (l : Launch) (e : Env) (R : Room) (s : State) (m : MethodId) (args : Array Value) (below : List Frame) (meth : Method) (c : Code) (cells slots : Nat) (Q : State → Prop) (z : Nat) (ad : Nat → Nat) (rv : Nat → Value) (cI cL cZ : ClassId) (D : va_G) (Ls : Nat) (xs : Nat → Int32) (c' : CFG) : Prop :=
  ∀ (ls' : Array Slot) (H' : Heap) (locs' : List Loc), INV s z ad rv cI cL cZ D Ls xs c'.2.2.2 c'.2.1 c'.2.2.1 ls' H' locs' → W p l e R s m args below meth c H' locs' cells slots Q (F0 m c'.1 ls' (c'.2.2.1.map (conc rv)))
section STEP
variable {p : Program} {l : Launch} {e : Env} {R : Room} {s : State} {m : MethodId} {args : Array Value} {below : List Frame} {meth : Method} {c : Code} {H : Heap} {locs : List Loc} {cells slots : Nat} {Q : State → Prop}
variable {z pc : Nat} {ad : Nat → Nat} {rv : Nat → Value} {cI cL cZ : ClassId} {D : va_G} {Ls : Nat} {xs : Nat → Int32} {I : MM} {L S S' : List AV} {ls : Array Slot} {c' : CFG}
/-- same locals and memory, another stack -/
theorem INV.stk (h : INV s z ad rv cI cL cZ D Ls xs I L S ls H locs) (hS : ∀ v ∈ S', okV v) : INV s z ad rv cI cL cZ D Ls xs I L S' ls H locs :=
  ⟨h.1, h.2.1, hS, h.2.2.2⟩
theorem INV.hd {v : AV} (h : INV s z ad rv cI cL cZ D Ls xs I L (v :: S) ls H locs) : okV v := h.2.2.1 v List.mem_cons_self
theorem INV.tl {v : AV} (h : INV s z ad rv cI cL cZ D Ls xs I L (v :: S) ls H locs) : INV s z ad rv cI cL cZ D Ls xs I L S ls H locs := h.stk (fun w hw => h.2.2.1 w (List.mem_cons_of_mem _ hw))
theorem INV.psh {v : AV} (h : INV s z ad rv cI cL cZ D Ls xs I L S ls H locs) (hv : okV v) : INV s z ad rv cI cL cZ D Ls xs I L (v :: S) ls H locs := h.stk (fun w hw => by
  rcases List.mem_cons.mp hw with rfl | hw
  · exact hv
  · exact h.2.2.1 w hw)
theorem sI_iadd (hC : CX p s m args c z ad rv cI cL cZ D Ls xs) (hV : INV s z ad rv cI cL cZ D Ls xs I L S ls H locs) (hd : decode (mB z) pc = .ok (.iadd, 1)) (h : oI (pc + 1) L S I iadd yes = some (.inr c')) (k : NXT p l e R s m args below meth c cells slots Q z ad rv cI cL cZ D Ls xs c') : W p l e R s m args below meth c H locs cells slots Q (F0 m pc ls (S.map (conc rv))) := by
  obtain ⟨hx, hb, -⟩ := hC
  unfold oI at h
  split at h
  · next y x S' =>
    simp only [yes, if_true, lcc, Option.some.injEq, Sum.inr.injEq] at h
    subst h
    have k1 := k ls H locs (hV.tl.tl.psh (v := vI (iadd x y)) (ok32_i _))
    simp only [List.map_cons, conc, iadd, Int32.ofInt_toInt] at k1
    exact lv_iadd hx hb hd k1
  · cases h
theorem sI_isub (hC : CX p s m args c z ad rv cI cL cZ D Ls xs) (hV : INV s z ad rv cI cL cZ D Ls xs I L S ls H locs) (hd : decode (mB z) pc = .ok (.isub, 1)) (h : oI (pc + 1) L S I isub yes = some (.inr c')) (k : NXT p l e R s m args below meth c cells slots Q z ad rv cI cL cZ D Ls xs c') : W p l e R s m args below meth c H locs cells slots Q (F0 m pc ls (S.map (conc rv))) := by
  obtain ⟨hx, hb, -⟩ := hC
  unfold oI at h
  split at h
  · next y x S' =>
    simp only [yes, if_true, lcc, Option.some.injEq, Sum.inr.injEq] at h
    subst h
    have k1 := k ls H locs (hV.tl.tl.psh (v := vI (isub x y)) (ok32_i _))
    simp only [List.map_cons, conc, isub, Int32.ofInt_toInt] at k1
    exact lv_isub hx hb hd k1
  · cases h
theorem sI_imul (hC : CX p s m args c z ad rv cI cL cZ D Ls xs) (hV : INV s z ad rv cI cL cZ D Ls xs I L S ls H locs) (hd : decode (mB z) pc = .ok (.imul, 1)) (h : oI (pc + 1) L S I imul yes = some (.inr c')) (k : NXT p l e R s m args below meth c cells slots Q z ad rv cI cL cZ D Ls xs c') : W p l e R s m args below meth c H locs cells slots Q (F0 m pc ls (S.map (conc rv))) := by
  obtain ⟨hx, hb, -⟩ := hC
  unfold oI at h
  split at h
  · next y x S' =>
    simp only [yes, if_true, lcc, Option.some.injEq, Sum.inr.injEq] at h
    subst h
    have k1 := k ls H locs (hV.tl.tl.psh (v := vI (imul x y)) (ok32_i _))
    simp only [List.map_cons, conc, imul, Int32.ofInt_toInt] at k1
    exact lv_imul hx hb hd k1
  · cases h
theorem sI_iand (hC : CX p s m args c z ad rv cI cL cZ D Ls xs) (hV : INV s z ad rv cI cL cZ D Ls xs I L S ls H locs) (hd : decode (mB z) pc = .ok (.iand, 1)) (h : oI (pc + 1) L S I iand yes = some (.inr c')) (k : NXT p l e R s m args below meth c cells slots Q z ad rv cI cL cZ D Ls xs c') : W p l e R s m args below meth c H locs cells slots Q (F0 m pc ls (S.map (conc rv))) := by
  obtain ⟨hx, hb, -⟩ := hC
  unfold oI at h
  split at h
  · next y x S' =>
    simp only [yes, if_true, lcc, Option.some.injEq, Sum.inr.injEq] at h
    subst h
    have k1 := k ls H locs (hV.tl.tl.psh (v := vI (iand x y)) (ok32_i _))
    simp only [List.map_cons, conc, iand, Int32.ofInt_toInt] at k1
    exact lv_iand hx hb hd k1
  · cases h
theorem sI_ior (hC : CX p s m args c z ad rv cI cL cZ D Ls xs) (hV : INV s z ad rv cI cL cZ D Ls xs I L S ls H locs) (hd : decode (mB z) pc = .ok (.ior, 1)) (h : oI (pc + 1) L S I ior yes = some (.inr c')) (k : NXT p l e R s m args below meth c cells slots Q z ad rv cI cL cZ D Ls xs c') : W p l e R s m args below meth c H locs cells slots Q (F0 m pc ls (S.map (conc rv))) := by
  obtain ⟨hx, hb, -⟩ := hC
  unfold oI at h
  split at h
  · next y x S' =>
    simp only [yes, if_true, lcc, Option.some.injEq, Sum.inr.injEq] at h
    subst h
    have k1 := k ls H locs (hV.tl.tl.psh (v := vI (ior x y)) (ok32_i _))
    simp only [List.map_cons, conc, ior, Int32.ofInt_toInt] at k1
    exact lv_ior hx hb hd k1
  · cases h
theorem sI_ixor (hC : CX p s m args c z ad rv cI cL cZ D Ls xs) (hV : INV s z ad rv cI cL cZ D Ls xs I L S ls H locs) (hd : decode (mB z) pc = .ok (.ixor, 1)) (h : oI (pc + 1) L S I ixor yes = some (.inr c')) (k : NXT p l e R s m args below meth c cells slots Q z ad rv cI cL cZ D Ls xs c') : W p l e R s m args below meth c H locs cells slots Q (F0 m pc ls (S.map (conc rv))) := by
  obtain ⟨hx, hb, -⟩ := hC
  unfold oI at h
  split at h
  · next y x S' =>
    simp only [yes, if_true, lcc, Option.some.injEq, Sum.inr.injEq] at h
    subst h
    have k1 := k ls H locs (hV.tl.tl.psh (v := vI (ixor x y)) (ok32_i _))
    simp only [List.map_cons, conc, ixor, Int32.ofInt_toInt] at k1
    exact lv_ixor hx hb hd k1
  · cases h
theorem sI_ishl (hC : CX p s m args c z ad rv cI cL cZ D Ls xs) (hV : INV s z ad rv cI cL cZ D Ls xs I L S ls H locs) (hd : decode (mB z) pc = .ok (.ishl, 1)) (h : oI (pc + 1) L S I ishl yes = some (.inr c')) (k : NXT p l e R s m args below meth c cells slots Q z ad rv cI cL cZ D Ls xs c') : W p l e R s m args below meth c H locs cells slots Q (F0 m pc ls (S.map (conc rv))) := by
  obtain ⟨hx, hb, -⟩ := hC
  unfold oI at h
  split at h
  · next y x S' =>
    simp only [yes, if_true, lcc, Option.some.injEq, Sum.inr.injEq] at h
    subst h
    have k1 := k ls H locs (hV.tl.tl.psh (v := vI (ishl x y)) (ok32_i _))
    simp only [List.map_cons, conc, ishl, Int32.ofInt_toInt] at k1
    exact lv_ishl hx hb hd k1
  · cases h
theorem sI_ishr (hC : CX p s m args c z ad rv cI cL cZ D Ls xs) (hV : INV s z ad rv cI cL cZ D Ls xs I L S ls H locs) (hd : decode (mB z) pc = .ok (.ishr, 1)) (h : oI (pc + 1) L S I ishr yes = some (.inr c')) (k : NXT p l e R s m args below meth c cells slots Q z ad rv cI cL cZ D Ls xs c') : W p l e R s m args below meth c H locs cells slots Q (F0 m pc ls (S.map (conc rv))) := by
  obtain ⟨hx, hb, -⟩ := hC
  unfold oI at h
  split at h
  · next y x S' =>
    simp only [yes, if_true, lcc, Option.some.injEq, Sum.inr.injEq] at h
    subst h
    have k1 := k ls H locs (hV.tl.tl.psh (v := vI (ishr x y)) (ok32_i _))
    simp only [List.map_cons, conc, ishr, Int32.ofInt_toInt] at k1
    exact lv_ishr hx hb hd k1
  · cases h
theorem sI_idiv (hC : CX p s m args c z ad rv cI cL cZ D Ls xs) (hV : INV s z ad rv cI cL cZ D Ls xs I L S ls H locs) (hd : decode (mB z) pc = .ok (.idiv, 1)) (h : oI (pc + 1) L S I idiv nz = some (.inr c')) (k : NXT p l e R s m args below meth c cells slots Q z ad rv cI cL cZ D Ls xs c') : W p l e R s m args below meth c H locs cells slots Q (F0 m pc ls (S.map (conc rv))) := by
  obtain ⟨hx, hb, -⟩ := hC
  unfold oI at h
  split at h
  · next y x S' =>
    split at h
    · next hy =>
      simp only [lcc, Option.some.injEq, Sum.inr.injEq] at h
      subst h
      have hy : y ≠ 0 := by simpa [nz] using hy
      have hoy : ok32 y := hV.hd
      have k1 := k ls H locs (hV.tl.tl.psh (v := vI (idiv x y)) (ok32_i _))
      simp only [List.map_cons, conc, idiv, Int32.ofInt_toInt] at k1
      exact lv_idiv hx hb hd (fun q => hy ((i32_eq hoy ⟨by decide, by decide⟩).mp q)) k1
    · cases h
  · cases h
theorem sI_irem (hC : CX p s m args c z ad rv cI cL cZ D Ls xs) (hV : INV s z ad rv cI cL cZ D Ls xs I L S ls H locs) (hd : decode (mB z) pc = .ok (.irem, 1)) (h : oI (pc + 1) L S I irem nz = some (.inr c')) (k : NXT p l e R s m args below meth c cells slots Q z ad rv cI cL cZ D Ls xs c') : W p l e R s m args below meth c H locs cells slots Q (F0 m pc ls (S.map (conc rv))) := by
  obtain ⟨hx, hb, -⟩ := hC
  unfold oI at h
  split at h
  · next y x S' =>
    split at h
    · next hy =>
      simp only [lcc, Option.some.injEq, Sum.inr.injEq] at h
      subst h
      have hy : y ≠ 0 := by simpa [nz] using hy
      have hoy : ok32 y := hV.hd
      have k1 := k ls H locs (hV.tl.tl.psh (v := vI (irem x y)) (ok32_i _))
      simp only [List.map_cons, conc, irem, Int32.ofInt_toInt] at k1
      exact lv_irem hx hb hd (fun q => hy ((i32_eq hoy ⟨by decide, by decide⟩).mp q)) k1
    · cases h
  · cases h
theorem sI_ladd (hC : CX p s m args c z ad rv cI cL cZ D Ls xs) (hV : INV s z ad rv cI cL cZ D Ls xs I L S ls H locs) (hd : decode (mB z) pc = .ok (.ladd, 1)) (h : oL (pc + 1) L S I ladd yes = some (.inr c')) (k : NXT p l e R s m args below meth c cells slots Q z ad rv cI cL cZ D Ls xs c') : W p l e R s m args below meth c H locs cells slots Q (F0 m pc ls (S.map (conc rv))) := by
  obtain ⟨hx, hb, -⟩ := hC
  unfold oL at h
  split at h
  · next y x S' =>
    simp only [yes, if_true, lcc, Option.some.injEq, Sum.inr.injEq] at h
    subst h
    have k1 := k ls H locs (hV.tl.tl.psh (v := vL (ladd x y)) (ok64_i _))
    simp only [List.map_cons, conc, ladd, Int64.ofInt_toInt] at k1
    exact lv_ladd hx hb hd k1
  · cases h
theorem sI_lsub (hC : CX p s m args c z ad rv cI cL cZ D Ls xs) (hV : INV s z ad rv cI cL cZ D Ls xs I L S ls H locs) (hd : decode (mB z) pc = .ok (.lsub, 1)) (h : oL (pc + 1) L S I lsub yes = some (.inr c')) (k : NXT p l e R s m args below meth c cells slots Q z ad rv cI cL cZ D Ls xs c') : W p l e R s m args below meth c H locs cells slots Q (F0 m pc ls (S.map (conc rv))) := by
  obtain ⟨hx, hb, -⟩ := hC
  unfold oL at h
  split at h
  · next y x S' =>
    simp only [yes, if_true, lcc, Option.some.injEq, Sum.inr.injEq] at h
    subst h
    have k1 := k ls H locs (hV.tl.tl.psh (v := vL (lsub x y)) (ok64_i _))
    simp only [List.map_cons, conc, lsub, Int64.ofInt_toInt] at k1
    exact lv_lsub hx hb hd k1
  · cases h
theorem sI_lmul (hC : CX p s m args c z ad rv cI cL cZ D Ls xs) (hV : INV s z ad rv cI cL cZ D Ls xs I L S ls H locs) (hd : decode (mB z) pc = .ok (.lmul, 1)) (h : oL (pc + 1) L S I lmul yes = some (.inr c')) (k : NXT p l e R s m args below meth c cells slots Q z ad rv cI cL cZ D Ls xs c') : W p l e R s m args below meth c H locs cells slots Q (F0 m pc ls (S.map (conc rv))) := by
  obtain ⟨hx, hb, -⟩ := hC
  unfold oL at h
  split at h
  · next y x S' =>
    simp only [yes, if_true, lcc, Option.some.injEq, Sum.inr.injEq] at h
    subst h
    have k1 := k ls H locs (hV.tl.tl.psh (v := vL (lmul x y)) (ok64_i _))
    simp only [List.map_cons, conc, lmul, Int64.ofInt_toInt] at k1
    exact lv_lmul hx hb hd k1
  · cases h
theorem sI_land (hC : CX p s m args c z ad rv cI cL cZ D Ls xs) (hV : INV s z ad rv cI cL cZ D Ls xs I L S ls H locs) (hd : decode (mB z) pc = .ok (.land, 1)) (h : oL (pc + 1) L S I land yes = some (.inr c')) (k : NXT p l e R s m args below meth c cells slots Q z ad rv cI cL cZ D Ls xs c') : W p l e R s m args below meth c H locs cells slots Q (F0 m pc ls (S.map (conc rv))) := by
  obtain ⟨hx, hb, -⟩ := hC
  unfold oL at h
  split at h
  · next y x S' =>
    simp only [yes, if_true, lcc, Option.some.injEq, Sum.inr.injEq] at h
    subst h
    have k1 := k ls H locs (hV.tl.tl.psh (v := vL (land x y)) (ok64_i _))
    simp only [List.map_cons, conc, land, Int64.ofInt_toInt] at k1
    exact lv_land hx hb hd k1
  · cases h
theorem sI_lor (hC : CX p s m args c z ad rv cI cL cZ D Ls xs) (hV : INV s z ad rv cI cL cZ D Ls xs I L S ls H locs) (hd : decode (mB z) pc = .ok (.lor, 1)) (h : oL (pc + 1) L S I lor yes = some (.inr c')) (k : NXT p l e R s m args below meth c cells slots Q z ad rv cI cL cZ D Ls xs c') : W p l e R s m args below meth c H locs cells slots Q (F0 m pc ls (S.map (conc rv))) := by
  obtain ⟨hx, hb, -⟩ := hC
  unfold oL at h
  split at h
  · next y x S' =>
    simp only [yes, if_true, lcc, Option.some.injEq, Sum.inr.injEq] at h
    subst h
    have k1 := k ls H locs (hV.tl.tl.psh (v := vL (lor x y)) (ok64_i _))
    simp only [List.map_cons, conc, lor, Int64.ofInt_toInt] at k1
    exact lv_lor hx hb hd k1
  · cases h
theorem sI_lxor (hC : CX p s m args c z ad rv cI cL cZ D Ls xs) (hV : INV s z ad rv cI cL cZ D Ls xs I L S ls H locs) (hd : decode (mB z) pc = .ok (.lxor, 1)) (h : oL (pc + 1) L S I lxor yes = some (.inr c')) (k : NXT p l e R s m args below meth c cells slots Q z ad rv cI cL cZ D Ls xs c') : W p l e R s m args below meth c H locs cells slots Q (F0 m pc ls (S.map (conc rv))) := by
  obtain ⟨hx, hb, -⟩ := hC
  unfold oL at h
  split at h
  · next y x S' =>
    simp only [yes, if_true, lcc, Option.some.injEq, Sum.inr.injEq] at h
    subst h
    have k1 := k ls H locs (hV.tl.tl.psh (v := vL (lxor x y)) (ok64_i _))
    simp only [List.map_cons, conc, lxor, Int64.ofInt_toInt] at k1
    exact lv_lxor hx hb hd k1
  · cases h
theorem sI_ldiv (hC : CX p s m args c z ad rv cI cL cZ D Ls xs) (hV : INV s z ad rv cI cL cZ D Ls xs I L S ls H locs) (hd : decode (mB z) pc = .ok (.ldiv, 1)) (h : oL (pc + 1) L S I ldiv nz = some (.inr c')) (k : NXT p l e R s m args below meth c cells slots Q z ad rv cI cL cZ D Ls xs c') : W p l e R s m args below meth c H locs cells slots Q (F0 m pc ls (S.map (conc rv))) := by
  obtain ⟨hx, hb, -⟩ := hC
  unfold oL at h
  split at h
  · next y x S' =>
    split at h
    · next hy =>
      simp only [lcc, Option.some.injEq, Sum.inr.injEq] at h
      subst h
      have hy : y ≠ 0 := by simpa [nz] using hy
      have hoy : ok64 y := hV.hd
      have k1 := k ls H locs (hV.tl.tl.psh (v := vL (ldiv x y)) (ok64_i _))
      simp only [List.map_cons, conc, ldiv, Int64.ofInt_toInt] at k1
      exact lv_ldiv hx hb hd (fun q => hy ((i64_eq hoy ⟨by decide, by decide⟩).mp q)) k1
    · cases h
  · cases h
theorem sI_lrem (hC : CX p s m args c z ad rv cI cL cZ D Ls xs) (hV : INV s z ad rv cI cL cZ D Ls xs I L S ls H locs) (hd : decode (mB z) pc = .ok (.lrem, 1)) (h : oL (pc + 1) L S I lrem nz = some (.inr c')) (k : NXT p l e R s m args below meth c cells slots Q z ad rv cI cL cZ D Ls xs c') : W p l e R s m args below meth c H locs cells slots Q (F0 m pc ls (S.map (conc rv))) := by
  obtain ⟨hx, hb, -⟩ := hC
  unfold oL at h
  split at h
  · next y x S' =>
    split at h
    · next hy =>
      simp only [lcc, Option.some.injEq, Sum.inr.injEq] at h
      subst h
      have hy : y ≠ 0 := by simpa [nz] using hy
      have hoy : ok64 y := hV.hd
      have k1 := k ls H locs (hV.tl.tl.psh (v := vL (lrem x y)) (ok64_i _))
      simp only [List.map_cons, conc, lrem, Int64.ofInt_toInt] at k1
      exact lv_lrem hx hb hd (fun q => hy ((i64_eq hoy ⟨by decide, by decide⟩).mp q)) k1
    · cases h
  · cases h
theorem sI_lshl (hC : CX p s m args c z ad rv cI cL cZ D Ls xs) (hV : INV s z ad rv cI cL cZ D Ls xs I L S ls H locs) (hd : decode (mB z) pc = .ok (.lshl, 1)) (h : oH (pc + 1) L S I lshl = some (.inr c')) (k : NXT p l e R s m args below meth c cells slots Q z ad rv cI cL cZ D Ls xs c') : W p l e R s m args below meth c H locs cells slots Q (F0 m pc ls (S.map (conc rv))) := by
  obtain ⟨hx, hb, -⟩ := hC
  unfold oH at h
  split at h
  · next y x S' =>
    simp only [lcc, Option.some.injEq, Sum.inr.injEq] at h
    subst h
    have k1 := k ls H locs (hV.tl.tl.psh (v := vL (lshl x y)) (ok64_i _))
    simp only [List.map_cons, conc, lshl, Int64.ofInt_toInt] at k1
    exact lv_lshl hx hb hd rfl k1
  · cases h
theorem sI_lshr (hC : CX p s m args c z ad rv cI cL cZ D Ls xs) (hV : INV s z ad rv cI cL cZ D Ls xs I L S ls H locs) (hd : decode (mB z) pc = .ok (.lshr, 1)) (h : oH (pc + 1) L S I lshr = some (.inr c')) (k : NXT p l e R s m args below meth c cells slots Q z ad rv cI cL cZ D Ls xs c') : W p l e R s m args below meth c H locs cells slots Q (F0 m pc ls (S.map (conc rv))) := by
  obtain ⟨hx, hb, -⟩ := hC
  unfold oH at h
  split at h
  · next y x S' =>
    simp only [lcc, Option.some.injEq, Sum.inr.injEq] at h
    subst h
    have k1 := k ls H locs (hV.tl.tl.psh (v := vL (lshr x y)) (ok64_i _))
    simp only [List.map_cons, conc, lshr, Int64.ofInt_toInt] at k1
    exact lv_lshr hx hb hd rfl k1
  · cases h
theorem sI_lushr (hC : CX p s m args c z ad rv cI cL cZ D Ls xs) (hV : INV s z ad rv cI cL cZ D Ls xs I L S ls H locs) (hd : decode (mB z) pc = .ok (.lushr, 1)) (h : oH (pc + 1) L S I lushr = some (.inr c')) (k : NXT p l e R s m args below meth c cells slots Q z ad rv cI cL cZ D Ls xs c') : W p l e R s m args below meth c H locs cells slots Q (F0 m pc ls (S.map (conc rv))) := by
  obtain ⟨hx, hb, -⟩ := hC
  unfold oH at h
  split at h
  · next y x S' =>
    simp only [lcc, Option.some.injEq, Sum.inr.injEq] at h
    subst h
    have k1 := k ls H locs (hV.tl.tl.psh (v := vL (lushr x y)) (ok64_i _))
    simp only [List.map_cons, conc, lushr, Int64.ofInt_toInt] at k1
    exact lv_lushr hx hb hd rfl k1
  · cases h
theorem sI_ineg (hC : CX p s m args c z ad rv cI cL cZ D Ls xs) (hV : INV s z ad rv cI cL cZ D Ls xs I L S ls H locs) (hd : decode (mB z) pc = .ok (.ineg, 1)) (h : oU (pc + 1) L S I ineg = some (.inr c')) (k : NXT p l e R s m args below meth c cells slots Q z ad rv cI cL cZ D Ls xs c') : W p l e R s m args below meth c H locs cells slots Q (F0 m pc ls (S.map (conc rv))) := by
  obtain ⟨hx, hb, -⟩ := hC
  unfold oU at h
  split at h
  · next x S' =>
    simp only [lcc, Option.some.injEq, Sum.inr.injEq] at h
    subst h
    have k1 := k ls H locs (hV.tl.psh (v := vI (ineg x)) (ok32_i _))
    simp only [List.map_cons, conc, ineg, Int32.ofInt_toInt] at k1
    exact lv_ineg hx hb hd k1
  · cases h
theorem sI_i2c (hC : CX p s m args c z ad rv cI cL cZ D Ls xs) (hV : INV s z ad rv cI cL cZ D Ls xs I L S ls H locs) (hd : decode (mB z) pc = .ok (.i2c, 1)) (h : oU (pc + 1) L S I i2c = some (.inr c')) (k : NXT p l e R s m args below meth c cells slots Q z ad rv cI cL cZ D Ls xs c') : W p l e R s m args below meth c H locs cells slots Q (F0 m pc ls (S.map (conc rv))) := by
  obtain ⟨hx, hb, -⟩ := hC
  unfold oU at h
  split at h
  · next x S' =>
    simp only [lcc, Option.some.injEq, Sum.inr.injEq] at h
    subst h
    have k1 := k ls H locs (hV.tl.psh (v := vI (i2c x)) (ok32_i _))
    simp only [List.map_cons, conc, i2c, Int32.ofInt_toInt] at k1
    exact lv_i2c hx hb hd rfl k1
  · cases h
theorem sI_lneg (hC : CX p s m args c z ad rv cI cL cZ D Ls xs) (hV : INV s z ad rv cI cL cZ D Ls xs I L S ls H locs) (hd : decode (mB z) pc = .ok (.lneg, 1)) (h : oV (pc + 1) L S I lneg = some (.inr c')) (k : NXT p l e R s m args below meth c cells slots Q z ad rv cI cL cZ D Ls xs c') : W p l e R s m args below meth c H locs cells slots Q (F0 m pc ls (S.map (conc rv))) := by
  obtain ⟨hx, hb, -⟩ := hC
  unfold oV at h
  split at h
  · next x S' =>
    simp only [lcc, Option.some.injEq, Sum.inr.injEq] at h
    subst h
    have k1 := k ls H locs (hV.tl.psh (v := vL (lneg x)) (ok64_i _))
    simp only [List.map_cons, conc, lneg, Int64.ofInt_toInt] at k1
    exact lv_lneg hx hb hd k1
  · cases h
theorem ok_lcmp (x y : Int) : okV (vI (lcmp x y)) := by
  unfold lcmp
  split
  · exact ⟨by decide, by decide⟩
  · split <;> exact ⟨by decide, by decide⟩
theorem sI_lcmp (hC : CX p s m args c z ad rv cI cL cZ D Ls xs) (hV : INV s z ad rv cI cL cZ D Ls xs I L S ls H locs) (hd : decode (mB z) pc = .ok (.lcmp, 1)) (h : (match S with | .inr (.inl y) :: .inr (.inl x) :: S' => lcc (pc + 1) L (vI (lcmp x y) :: S') I | _ => none) = some (.inr c')) (k : NXT p l e R s m args below meth c cells slots Q z ad rv cI cL cZ D Ls xs c') : W p l e R s m args below meth c H locs cells slots Q (F0 m pc ls (S.map (conc rv))) := by
  obtain ⟨hx, hb, -⟩ := hC
  split at h
  · next y x S' =>
    simp only [lcc, Option.some.injEq, Sum.inr.injEq] at h
    subst h
    have oy : ok64 y := hV.hd
    have ox : ok64 x := hV.tl.hd
    have k1 := k ls H locs (hV.tl.tl.psh (v := vI (lcmp x y)) (ok_lcmp x y))
    refine W.lcmp hx hb hd ?_
    have e : lg_cmp (Int64.ofInt x) (Int64.ofInt y) = Int32.ofInt (lcmp x y) := by
      unfold lg_cmp lcmp
      by_cases h1 : x > y
      · rw [if_pos ((i64_lt oy ox).mpr h1), if_pos h1]; rfl
      · rw [if_neg (fun q => h1 ((i64_lt oy ox).mp q)), if_neg h1]
        by_cases h2 : x = y
        · rw [if_pos (by rw [h2]), if_pos h2]; rfl
        · rw [if_neg (fun q => h2 ((i64_eq ox oy).mp q)), if_neg h2]; rfl
    rw [e]
    exact k1
  · cases h
theorem sI_i2l (hC : CX p s m args c z ad rv cI cL cZ D Ls xs) (hV : INV s z ad rv cI cL cZ D Ls xs I L S ls H locs) (hd : decode (mB z) pc = .ok (.i2l, 1)) (h : (match S with | .inl x :: S' => lcc (pc + 1) L (vL x :: S') I | _ => none) = some (.inr c')) (k : NXT p l e R s m args below meth c cells slots Q z ad rv cI cL cZ D Ls xs c') : W p l e R s m args below meth c H locs cells slots Q (F0 m pc ls (S.map (conc rv))) := by
  obtain ⟨hx, hb, -⟩ := hC
  split at h
  · next x S' =>
    simp only [lcc, Option.some.injEq, Sum.inr.injEq] at h
    subst h
    have ox : ok32 x := hV.hd
    have k1 := k ls H locs (hV.tl.psh (v := vL x) (by obtain ⟨h1, h2⟩ := ox; exact ⟨by omega, by omega⟩))
    exact lv_i2l hx hb hd (i32_long ox) k1
  · cases h
theorem sI_l2i (hC : CX p s m args c z ad rv cI cL cZ D Ls xs) (hV : INV s z ad rv cI cL cZ D Ls xs I L S ls H locs) (hd : decode (mB z) pc = .ok (.l2i, 1)) (h : (match S with | .inr (.inl x) :: S' => lcc (pc + 1) L (vI (l2i x) :: S') I | _ => none) = some (.inr c')) (k : NXT p l e R s m args below meth c cells slots Q z ad rv cI cL cZ D Ls xs c') : W p l e R s m args below meth c H locs cells slots Q (F0 m pc ls (S.map (conc rv))) := by
  obtain ⟨hx, hb, -⟩ := hC
  split at h
  · next x S' =>
    simp only [lcc, Option.some.injEq, Sum.inr.injEq] at h
    subst h
    have k1 := k ls H locs (hV.tl.psh (v := vI (l2i x)) (ok32_i _))
    simp only [List.map_cons, conc, l2i, Int32.ofInt_toInt] at k1
    exact lv_l2i hx hb hd rfl k1
  · cases h
theorem sI_iconst (hC : CX p s m args c z ad rv cI cL cZ D Ls xs) (hV : INV s z ad rv cI cL cZ D Ls xs I L S ls H locs) {v : Int} (hd : decode (mB z) pc = .ok (.iconst v, 1)) (h : (if ok8 v then lcc (pc + 1) L (vI v :: S) I else none) = some (.inr c')) (k : NXT p l e R s m args below meth c cells slots Q z ad rv cI cL cZ D Ls xs c') : W p l e R s m args below meth c H locs cells slots Q (F0 m pc ls (S.map (conc rv))) := by
  obtain ⟨hx, hb, -⟩ := hC
  split at h
  · next hv =>
    simp only [ok8, Bool.and_eq_true, decide_eq_true_eq] at hv
    simp only [lcc, Option.some.injEq, Sum.inr.injEq] at h
    subst h
    exact lv_iconst hx hb hd rfl (k ls H locs (hV.psh (v := vI v) ⟨by omega, by omega⟩))
  · cases h
theorem ofI8 {v : Int} (h : -128 ≤ v ∧ v ≤ 127) : (Int8.ofInt v).toInt32 = Int32.ofInt v := by
  apply Int32.toInt_inj.mp
  rw [Int8.toInt_toInt32, Int8.toInt_ofInt_of_le (by omega) (by omega), i32_id ⟨by omega, by omega⟩]
theorem ofI16 {v : Int} (h : -32768 ≤ v ∧ v ≤ 32767) : (Int16.ofInt v).toInt32 = Int32.ofInt v := by
  apply Int32.toInt_inj.mp
  rw [Int16.toInt_toInt32, Int16.toInt_ofInt_of_le (by omega) (by omega), i32_id ⟨by omega, by omega⟩]
theorem sI_bipush (hC : CX p s m args c z ad rv cI cL cZ D Ls xs) (hV : INV s z ad rv cI cL cZ D Ls xs I L S ls H locs) {v : Int} (hd : decode (mB z) pc = .ok (.bipush v, 2)) (h : (if ok8 v then lcc (pc + 2) L (vI v :: S) I else none) = some (.inr c')) (k : NXT p l e R s m args below meth c cells slots Q z ad rv cI cL cZ D Ls xs c') : W p l e R s m args below meth c H locs cells slots Q (F0 m pc ls (S.map (conc rv))) := by
  obtain ⟨hx, hb, -⟩ := hC
  split at h
  · next hv =>
    simp only [ok8, Bool.and_eq_true, decide_eq_true_eq] at hv
    simp only [lcc, Option.some.injEq, Sum.inr.injEq] at h
    subst h
    exact lv_bipush hx hb hd (ofI8 hv) (k ls H locs (hV.psh (v := vI v) ⟨by omega, by omega⟩))
  · cases h
theorem sI_sipush (hC : CX p s m args c z ad rv cI cL cZ D Ls xs) (hV : INV s z ad rv cI cL cZ D Ls xs I L S ls H locs) {v : Int} (hd : decode (mB z) pc = .ok (.sipush v, 3)) (h : (if ok16 v then lcc (pc + 3) L (vI v :: S) I else none) = some (.inr c')) (k : NXT p l e R s m args below meth c cells slots Q z ad rv cI cL cZ D Ls xs c') : W p l e R s m args below meth c H locs cells slots Q (F0 m pc ls (S.map (conc rv))) := by
  obtain ⟨hx, hb, -⟩ := hC
  split at h
  · next hv =>
    simp only [ok16, Bool.and_eq_true, decide_eq_true_eq] at hv
    simp only [lcc, Option.some.injEq, Sum.inr.injEq] at h
    subst h
    exact lv_sipush hx hb hd (ofI16 hv) (k ls H locs (hV.psh (v := vI v) ⟨by omega, by omega⟩))
  · cases h
theorem sI_lconst (hC : CX p s m args c z ad rv cI cL cZ D Ls xs) (hV : INV s z ad rv cI cL cZ D Ls xs I L S ls H locs) {v : Fin 2} (hd : decode (mB z) pc = .ok (.lconst v, 1)) (h : lcc (pc + 1) L (vL v.val :: S) I = some (.inr c')) (k : NXT p l e R s m args below meth c cells slots Q z ad rv cI cL cZ D Ls xs c') : W p l e R s m args below meth c H locs cells slots Q (F0 m pc ls (S.map (conc rv))) := by
  obtain ⟨hx, hb, -⟩ := hC
  simp only [lcc, Option.some.injEq, Sum.inr.injEq] at h
  subst h
  have hv := v.isLt
  exact lv_lconst hx hb hd (by rw [← Int64.ofInt_eq_ofNat]) (k ls H locs (hV.psh (v := vL v.val) ⟨by omega, by omega⟩))
theorem sI_dup (hC : CX p s m args c z ad rv cI cL cZ D Ls xs) (hV : INV s z ad rv cI cL cZ D Ls xs I L S ls H locs) (hd : decode (mB z) pc = .ok (.dup, 1)) (h : stkV 0 pc L S I = some (.inr c')) (k : NXT p l e R s m args below meth c cells slots Q z ad rv cI cL cZ D Ls xs c') : W p l e R s m args below meth c H locs cells slots Q (F0 m pc ls (S.map (conc rv))) := by
  obtain ⟨hx, hb, -, -, -, -, -, hrc, -⟩ := hC
  unfold stkV at h
  split at h
  · next v S' _ =>
    split at h
    · next hc1 =>
      simp only [lcc, Option.some.injEq, Sum.inr.injEq] at h
      subst h
      refine lv_dup hx hb hd ?_ (k ls H locs (hV.psh hV.hd))
      rcases v with x | x | x
      · rfl
      · cases hc1
      · have h1 := hrc x
        rcases lv_cat (rv x) with h2 | h2
        · exact h2
        · exact absurd h2 h1
    · cases h
  all_goals first | contradiction | cases h
theorem sI_pop (hC : CX p s m args c z ad rv cI cL cZ D Ls xs) (hV : INV s z ad rv cI cL cZ D Ls xs I L S ls H locs) (hd : decode (mB z) pc = .ok (.pop, 1)) (h : stkV 1 pc L S I = some (.inr c')) (k : NXT p l e R s m args below meth c cells slots Q z ad rv cI cL cZ D Ls xs c') : W p l e R s m args below meth c H locs cells slots Q (F0 m pc ls (S.map (conc rv))) := by
  obtain ⟨hx, hb, -⟩ := hC
  unfold stkV at h
  split at h
  · contradiction
  · next x S' _ =>
    simp only [lcc, Option.some.injEq, Sum.inr.injEq] at h
    subst h
    exact lv_pop hx hb hd rfl (k ls H locs hV.tl)
  all_goals first | contradiction | cases h
theorem sI_dup2 (hC : CX p s m args c z ad rv cI cL cZ D Ls xs) (hV : INV s z ad rv cI cL cZ D Ls xs I L S ls H locs) (hd : decode (mB z) pc = .ok (.dup2, 1)) (h : stkV 2 pc L S I = some (.inr c')) (k : NXT p l e R s m args below meth c cells slots Q z ad rv cI cL cZ D Ls xs c') : W p l e R s m args below meth c H locs cells slots Q (F0 m pc ls (S.map (conc rv))) := by
  obtain ⟨hx, hb, -, -, -, -, -, hrc, -⟩ := hC
  unfold stkV at h
  split at h
  · contradiction
  · contradiction
  · next x a S' _ =>
    simp only [lcc, Option.some.injEq, Sum.inr.injEq] at h
    subst h
    refine lv_dup2_11 hx hb hd rfl ?_ (k ls H locs ((hV.psh hV.tl.hd).psh hV.hd))
    rcases lv_cat (rv a) with h2 | h2
    · exact h2
    · exact absurd h2 (hrc a)
  · next x S' _ =>
    simp only [lcc, Option.some.injEq, Sum.inr.injEq] at h
    subst h
    exact lv_dup2_2 hx hb hd rfl (k ls H locs (hV.psh hV.hd))
  · cases h
end STEP
