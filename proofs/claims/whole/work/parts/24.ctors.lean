/-! Constructors: from blank cells to the first world (printed by gen24.py). -/
theorem ct_eqI {D : va_G} {cI cL cZ cA : ClassId} {s : State} (h : va_K D vwCl (tysG cI cL cZ) s) (h2 : va_K D vwCl (tysG cI cL cZ ++ [(cA, FieldType.int)]) s) : cA = cI := by
  have a : s.vm.findClass ("[" ++ FieldType.int.toString) = some cI := (h.2 0 _ rfl).2
  have b : s.vm.findClass ("[" ++ FieldType.int.toString) = some cA := (h2.2 3 _ rfl).2
  rw [a] at b; exact (Option.some.inj b).symm
theorem ct_eqL {D : va_G} {cI cL cZ cA : ClassId} {s : State} (h : va_K D vwCl (tysG cI cL cZ) s) (h2 : va_K D vwCl (tysG cI cL cZ ++ [(cA, FieldType.long)]) s) : cA = cL := by
  have a : s.vm.findClass ("[" ++ FieldType.long.toString) = some cL := (h.2 1 _ rfl).2
  have b : s.vm.findClass ("[" ++ FieldType.long.toString) = some cA := (h2.2 3 _ rfl).2
  rw [a] at b; exact (Option.some.inj b).symm
theorem ct_eqZ {D : va_G} {cI cL cZ cA : ClassId} {s : State} (h : va_K D vwCl (tysG cI cL cZ) s) (h2 : va_K D vwCl (tysG cI cL cZ ++ [(cA, FieldType.boolean)]) s) : cA = cZ := by
  have a : s.vm.findClass ("[" ++ FieldType.boolean.toString) = some cZ := (h.2 2 _ rfl).2
  have b : s.vm.findClass ("[" ++ FieldType.boolean.toString) = some cA := (h2.2 3 _ rfl).2
  rw [a] at b; exact (Option.some.inj b).symm
def rmC (f nc ns : Nat) : Room := { frames := f, cells := nc, slots := ns, locals := 40 * f }
def wsC (y : MethodName) (b : ByteArray) (n : Nat) : List Cond := Cond.code y b n none :: TBL
theorem goodC {y : MethodName} {b : ByteArray} {n : Nat} (h : Cond.code y b n none ∈ TBL) : GoodIn TBL (wsC y b n) := by
  intro w hw
  rcases List.mem_cons.mp hw with rfl | q
  · exact ⟨h, good_of_word (List.mem_filter.mp h).2⟩
  · exact ⟨q, good_of_word (List.mem_filter.mp q).2⟩
set_option maxRecDepth 100000 in
theorem w_oi : Cond.instanceMethod objectInit ∈ TBL := tb_1 (i := 25) rfl rfl
set_option maxRecDepth 100000 in
theorem w_oc : Cond.code objectInit ⟨#[0xb1]⟩ 1 none ∈ TBL := tb_1 (i := 26) rfl rfl
set_option maxRecDepth 100000 in
theorem w_a_int : Cond.arrayClass .int ∈ TBL := tb_1 (i := 84) rfl rfl
set_option maxRecDepth 100000 in
theorem w_a_long : Cond.arrayClass .long ∈ TBL := tb_1 (i := 161) rfl rfl
set_option maxRecDepth 100000 in
theorem w_a_boolean : Cond.arrayClass .boolean ∈ TBL := tb_5 (i := 207) rfl rfl
theorem dX0_init_0 : decode cX0_init 0 = .ok (.aload_n 0, 1) := by decide +kernel
theorem dX0_init_1 : decode cX0_init 1 = .ok (.invokespecial 3, 3) := by decide +kernel
theorem dX0_init_4 : decode cX0_init 4 = .ok (.aload_n 0, 1) := by decide +kernel
theorem dX0_init_5 : decode cX0_init 5 = .ok (.bipush 7, 2) := by decide +kernel
theorem dX0_init_7 : decode cX0_init 7 = .ok (.putfield 11, 3) := by decide +kernel
theorem dX0_init_10 : decode cX0_init 10 = .ok (.aload_n 0, 1) := by decide +kernel
theorem dX0_init_11 : decode cX0_init 11 = .ok (.iconst 3, 1) := by decide +kernel
theorem dX0_init_12 : decode cX0_init 12 = .ok (.newarray .int, 2) := by decide +kernel
theorem dX0_init_14 : decode cX0_init 14 = .ok (.putfield 15, 3) := by decide +kernel
theorem dX0_init_17 : decode cX0_init 17 = .ok (.aload_n 0, 1) := by decide +kernel
theorem dX0_init_18 : decode cX0_init 18 = .ok (.iconst 3, 1) := by decide +kernel
theorem dX0_init_19 : decode cX0_init 19 = .ok (.newarray .int, 2) := by decide +kernel
theorem dX0_init_21 : decode cX0_init 21 = .ok (.putfield 19, 3) := by decide +kernel
theorem dX0_init_24 : decode cX0_init 24 = .ok (.aload_n 0, 1) := by decide +kernel
theorem dX0_init_25 : decode cX0_init 25 = .ok (.iconst 2, 1) := by decide +kernel
theorem dX0_init_26 : decode cX0_init 26 = .ok (.newarray .int, 2) := by decide +kernel
theorem dX0_init_28 : decode cX0_init 28 = .ok (.putfield 22, 3) := by decide +kernel
theorem dX0_init_31 : decode cX0_init 31 = .ok (.aload_n 0, 1) := by decide +kernel
theorem dX0_init_32 : decode cX0_init 32 = .ok (.iconst 2, 1) := by decide +kernel
theorem dX0_init_33 : decode cX0_init 33 = .ok (.newarray .int, 2) := by decide +kernel
theorem dX0_init_35 : decode cX0_init 35 = .ok (.putfield 25, 3) := by decide +kernel
theorem dX0_init_38 : decode cX0_init 38 = .ok (.aload_n 0, 1) := by decide +kernel
theorem dX0_init_39 : decode cX0_init 39 = .ok (.iconst 2, 1) := by decide +kernel
theorem dX0_init_40 : decode cX0_init 40 = .ok (.newarray .int, 2) := by decide +kernel
theorem dX0_init_42 : decode cX0_init 42 = .ok (.putfield 28, 3) := by decide +kernel
theorem dX0_init_45 : decode cX0_init 45 = .ok (.aload_n 0, 1) := by decide +kernel
theorem dX0_init_46 : decode cX0_init 46 = .ok (.iconst 2, 1) := by decide +kernel
theorem dX0_init_47 : decode cX0_init 47 = .ok (.newarray .int, 2) := by decide +kernel
theorem dX0_init_49 : decode cX0_init 49 = .ok (.putfield 31, 3) := by decide +kernel
theorem dX0_init_52 : decode cX0_init 52 = .ok (.aload_n 0, 1) := by decide +kernel
theorem dX0_init_53 : decode cX0_init 53 = .ok (.iconst 2, 1) := by decide +kernel
theorem dX0_init_54 : decode cX0_init 54 = .ok (.newarray .int, 2) := by decide +kernel
theorem dX0_init_56 : decode cX0_init 56 = .ok (.putfield 34, 3) := by decide +kernel
theorem dX0_init_59 : decode cX0_init 59 = .ok (.return_, 1) := by decide +kernel
set_option maxRecDepth 100000 in
theorem wc_0 : Cond.code yX0_init cX0_init 1 none ∈ TBL := tb_1 (i := 31) rfl rfl
set_option maxRecDepth 100000 in
theorem wi_0 : Cond.initialized RX0 ∈ TBL := tb_1 (i := 2) rfl rfl
set_option maxRecDepth 100000 in
theorem wm_0 : Cond.instanceMethod yX0_init ∈ TBL := tb_1 (i := 30) rfl rfl
set_option maxHeartbeats 4000000 in
set_option maxRecDepth 100000 in
theorem ct_0 (l : Launch) (D : va_G) (cI cL cZ : ClassId) (h0 sz : Nat) : Met l yX0_init (wsC yX0_init cX0_init 1) (rmC 1 7 16) (va_Pc [.ref h0] (fun U => U.heap.size = sz ∧ va_P D vwCl [(h0, .inr (0, [.int 0, .int 0, .int 0, .int 0, .int 0, .null, .null, .null, .null, .null, .null, .null]))] U.heap ∧ va_K D vwCl (tysG cI cL cZ) U ∧ va_D (fun _ => True) [(h0, .inr (0, [.int 0, .int 0, .int 0, .int 0, .int 0, .null, .null, .null, .null, .null, .null, .null]))])) (va_Qv (fun _ : Unit => True) (fun _ t => ∃ q1 q2 q3 q4 q5 q6 q7, va_P D vwCl [(h0, .inr (0, [.int 7, .int 0, .int 0, .int 0, .int 0, .ref q1, .ref q2, .ref q3, .ref q4, .ref q5, .ref q6, .ref q7])), (q1, .inl (cI, 3, .inl (fun _ => 0))), (q2, .inl (cI, 3, .inl (fun _ => 0))), (q3, .inl (cI, 2, .inl (fun _ => 0))), (q4, .inl (cI, 2, .inl (fun _ => 0))), (q5, .inl (cI, 2, .inl (fun _ => 0))), (q6, .inl (cI, 2, .inl (fun _ => 0))), (q7, .inl (cI, 2, .inl (fun _ => 0)))] t.heap ∧ va_D (va_A [(h0, .inr (0, [.int 0, .int 0, .int 0, .int 0, .int 0, .null, .null, .null, .null, .null, .null, .null]))] sz) [(h0, .inr (0, [.int 7, .int 0, .int 0, .int 0, .int 0, .ref q1, .ref q2, .ref q3, .ref q4, .ref q5, .ref q6, .ref q7])), (q1, .inl (cI, 3, .inl (fun _ => 0))), (q2, .inl (cI, 3, .inl (fun _ => 0))), (q3, .inl (cI, 2, .inl (fun _ => 0))), (q4, .inl (cI, 2, .inl (fun _ => 0))), (q5, .inl (cI, 2, .inl (fun _ => 0))), (q6, .inl (cI, 2, .inl (fun _ => 0))), (q7, .inl (cI, 2, .inl (fun _ => 0)))]) (va_A [(h0, .inr (0, [.int 0, .int 0, .int 0, .int 0, .int 0, .null, .null, .null, .null, .null, .null, .null]))] sz)) 7 16 (va_A [(h0, .inr (0, [.int 0, .int 0, .int 0, .int 0, .int 0, .null, .null, .null, .null, .null, .null, .null]))] sz) := by
  refine Met.ofW (cc := cX0_init) (maxL := 1) (ret := none) (by decide) rfl ?_
  intro p e s m args below meth c s₁ B hml hv
  obtain ⟨rfl, hsz, hP, hK, hD0⟩ := hv
  have hx := B.exec
  have hb := B.bytes
  have hr := B.returns
  have hts0 := atoms_spec (ws := wsC yX0_init cX0_init 1) B.pre
  have hts : ∀ w ∈ TBL, w.before _ s = true := fun w hw => hts0 w (List.mem_cons_of_mem _ hw)
  have hown : s.vm.findClass RX0 = some m.cls := findClass_of_methodNamed B.named
  have hlocks := B.notSynchronized
  have hin : meth.name = "<init>" := (name_of_methodNamed B.named B.method).1
  subst hsz
  have hD := hD0.self (sz := s.heap.size)
  generalize hAe : va_A [(h0, .inr (0, [.int 0, .int 0, .int 0, .int 0, .int 0, .null, .null, .null, .null, .null, .null, .null]))] s.heap.size = A at hD ⊢
  have hA : ∀ q : Nat, s.heap.size ≤ q → A q := fun q h => by rw [← hAe]; exact Or.inr h
  have hS : va_S A s.heap s.heap [] := va_S.rf
  have hP : va_P D vwCl [(h0, .inr (0, [.int 0, .int 0, .int 0, .int 0, .int 0, .null, .null, .null, .null, .null, .null, .null]))] s.heap := hP
  have hl := lv_entry ([.ref h0]) (n := 1) (Nat.le_of_ble_eq_true rfl)
  rw [lg_entry_eq]
  generalize (lg_sl ([.ref h0]) ++ List.replicate (1 - (lg_sl ([.ref h0])).length) Slot.unset).toArray = ls at hl ⊢
  have hl : lv_has ls 1 [(0, .ref h0)] := hl
  refine lv_aload_n hx hb dX0_init_0 rfl (lv_at hl 0 rfl) ?_
  refine W.objInit hx hb hown (hts _ (tb_1 (i := 32) rfl rfl)) (hts _ w_oi) (hts _ w_oc) rfl (by rw [hml]; exact hl.1) rfl dX0_init_1 (Nat.le_of_ble_eq_true rfl) (Nat.le_of_ble_eq_true rfl) ?_
  refine W.eq (g2 := F0 m 4 ls []) rfl ?_
  refine lv_aload_n hx hb dX0_init_4 rfl (lv_at hl 0 rfl) ?_
  refine lv_bipush (v := 7) hx hb dX0_init_5 (by decide) ?_
  refine va_put (D := D) (ci := 0) (v := .int 7) (ty := .int) (C := clsN 0) (T := clsT 0) (N := clsK 0) hx hb hts (uws_ok (c := 0) (by decide)) (clsTy 0) (cty_ok 0 (by decide)) (cnm_ok 0 (by decide)) hown hK hP hD hS 0 rfl (ccl_ok 0 (by decide)) 0 (by decide) (hts _ (tb_1 (i := 33) rfl rfl)) (fun _ h9 => h9) rfl (by decide +kernel) rfl rfl (Nat.le_of_ble_eq_true rfl) dX0_init_7 (fun H locs hP hD hS => ?_)
  have hP : va_P D vwCl [(h0, .inr (0, [.int 7, .int 0, .int 0, .int 0, .int 0, .null, .null, .null, .null, .null, .null, .null]))] H := hP
  have hD : va_D A [(h0, .inr (0, [.int 7, .int 0, .int 0, .int 0, .int 0, .null, .null, .null, .null, .null, .null, .null]))] := hD
  refine lv_aload_n hx hb dX0_init_10 rfl (lv_at hl 0 rfl) ?_
  refine lv_iconst (v := 3) hx hb dX0_init_11 (by decide) ?_
  refine va_newa (atype := .int) hx hb (hts _ w_a_int) rfl hK hP hD hS hA (N' := 3) (a0 := (3, .inl (fun _ => 0))) (fun _ => rfl) (by decide) (by decide +kernel) (Nat.le_of_ble_eq_true rfl) (Nat.le_of_ble_eq_true rfl) (Nat.le_of_ble_eq_true rfl) dX0_init_12 (fun q1 cA H hK2 hP hD hS => ?_)
  rw [ct_eqI hK hK2] at hP hD
  have hP : va_P D vwCl [(h0, .inr (0, [.int 7, .int 0, .int 0, .int 0, .int 0, .null, .null, .null, .null, .null, .null, .null])), (q1, .inl (cI, 3, .inl (fun _ => 0)))] H := hP
  have hD : va_D A [(h0, .inr (0, [.int 7, .int 0, .int 0, .int 0, .int 0, .null, .null, .null, .null, .null, .null, .null])), (q1, .inl (cI, 3, .inl (fun _ => 0)))] := hD
  refine va_putF (D := D) (ci := 0) (v := .ref q1) (ty := .array .int) (C := clsN 0) (T := clsT 0) (N := clsK 0) hx hb hts (uws_ok (c := 0) (by decide)) (clsTy 0) (cty_ok 0 (by decide)) (cnm_ok 0 (by decide)) hown hK hP hD hS 0 rfl (ccl_ok 0 (by decide)) 5 (by decide) (hts _ (tb_1 (i := 49) rfl rfl)) (fun _ h9 => h9) rfl hin rfl (by decide +kernel) rfl rfl (Nat.le_of_ble_eq_true rfl) dX0_init_14 (fun H locs hP hD hS => ?_)
  have hP : va_P D vwCl [(h0, .inr (0, [.int 7, .int 0, .int 0, .int 0, .int 0, .ref q1, .null, .null, .null, .null, .null, .null])), (q1, .inl (cI, 3, .inl (fun _ => 0)))] H := hP
  have hD : va_D A [(h0, .inr (0, [.int 7, .int 0, .int 0, .int 0, .int 0, .ref q1, .null, .null, .null, .null, .null, .null])), (q1, .inl (cI, 3, .inl (fun _ => 0)))] := hD
  refine lv_aload_n hx hb dX0_init_17 rfl (lv_at hl 0 rfl) ?_
  refine lv_iconst (v := 3) hx hb dX0_init_18 (by decide) ?_
  refine va_newa (atype := .int) hx hb (hts _ w_a_int) rfl hK hP hD hS hA (N' := 3) (a0 := (3, .inl (fun _ => 0))) (fun _ => rfl) (by decide) (by decide +kernel) (Nat.le_of_ble_eq_true rfl) (Nat.le_of_ble_eq_true rfl) (Nat.le_of_ble_eq_true rfl) dX0_init_19 (fun q2 cA H hK2 hP hD hS => ?_)
  rw [ct_eqI hK hK2] at hP hD
  have hP : va_P D vwCl [(h0, .inr (0, [.int 7, .int 0, .int 0, .int 0, .int 0, .ref q1, .null, .null, .null, .null, .null, .null])), (q1, .inl (cI, 3, .inl (fun _ => 0))), (q2, .inl (cI, 3, .inl (fun _ => 0)))] H := hP
  have hD : va_D A [(h0, .inr (0, [.int 7, .int 0, .int 0, .int 0, .int 0, .ref q1, .null, .null, .null, .null, .null, .null])), (q1, .inl (cI, 3, .inl (fun _ => 0))), (q2, .inl (cI, 3, .inl (fun _ => 0)))] := hD
  refine va_putF (D := D) (ci := 0) (v := .ref q2) (ty := .array .int) (C := clsN 0) (T := clsT 0) (N := clsK 0) hx hb hts (uws_ok (c := 0) (by decide)) (clsTy 0) (cty_ok 0 (by decide)) (cnm_ok 0 (by decide)) hown hK hP hD hS 0 rfl (ccl_ok 0 (by decide)) 6 (by decide) (hts _ (tb_1 (i := 50) rfl rfl)) (fun _ h9 => h9) rfl hin rfl (by decide +kernel) rfl rfl (Nat.le_of_ble_eq_true rfl) dX0_init_21 (fun H locs hP hD hS => ?_)
  have hP : va_P D vwCl [(h0, .inr (0, [.int 7, .int 0, .int 0, .int 0, .int 0, .ref q1, .ref q2, .null, .null, .null, .null, .null])), (q1, .inl (cI, 3, .inl (fun _ => 0))), (q2, .inl (cI, 3, .inl (fun _ => 0)))] H := hP
  have hD : va_D A [(h0, .inr (0, [.int 7, .int 0, .int 0, .int 0, .int 0, .ref q1, .ref q2, .null, .null, .null, .null, .null])), (q1, .inl (cI, 3, .inl (fun _ => 0))), (q2, .inl (cI, 3, .inl (fun _ => 0)))] := hD
  refine lv_aload_n hx hb dX0_init_24 rfl (lv_at hl 0 rfl) ?_
  refine lv_iconst (v := 2) hx hb dX0_init_25 (by decide) ?_
  refine va_newa (atype := .int) hx hb (hts _ w_a_int) rfl hK hP hD hS hA (N' := 2) (a0 := (2, .inl (fun _ => 0))) (fun _ => rfl) (by decide) (by decide +kernel) (Nat.le_of_ble_eq_true rfl) (Nat.le_of_ble_eq_true rfl) (Nat.le_of_ble_eq_true rfl) dX0_init_26 (fun q3 cA H hK2 hP hD hS => ?_)
  rw [ct_eqI hK hK2] at hP hD
  have hP : va_P D vwCl [(h0, .inr (0, [.int 7, .int 0, .int 0, .int 0, .int 0, .ref q1, .ref q2, .null, .null, .null, .null, .null])), (q1, .inl (cI, 3, .inl (fun _ => 0))), (q2, .inl (cI, 3, .inl (fun _ => 0))), (q3, .inl (cI, 2, .inl (fun _ => 0)))] H := hP
  have hD : va_D A [(h0, .inr (0, [.int 7, .int 0, .int 0, .int 0, .int 0, .ref q1, .ref q2, .null, .null, .null, .null, .null])), (q1, .inl (cI, 3, .inl (fun _ => 0))), (q2, .inl (cI, 3, .inl (fun _ => 0))), (q3, .inl (cI, 2, .inl (fun _ => 0)))] := hD
  refine va_putF (D := D) (ci := 0) (v := .ref q3) (ty := .array .int) (C := clsN 0) (T := clsT 0) (N := clsK 0) hx hb hts (uws_ok (c := 0) (by decide)) (clsTy 0) (cty_ok 0 (by decide)) (cnm_ok 0 (by decide)) hown hK hP hD hS 0 rfl (ccl_ok 0 (by decide)) 7 (by decide) (hts _ (tb_1 (i := 52) rfl rfl)) (fun _ h9 => h9) rfl hin rfl (by decide +kernel) rfl rfl (Nat.le_of_ble_eq_true rfl) dX0_init_28 (fun H locs hP hD hS => ?_)
  have hP : va_P D vwCl [(h0, .inr (0, [.int 7, .int 0, .int 0, .int 0, .int 0, .ref q1, .ref q2, .ref q3, .null, .null, .null, .null])), (q1, .inl (cI, 3, .inl (fun _ => 0))), (q2, .inl (cI, 3, .inl (fun _ => 0))), (q3, .inl (cI, 2, .inl (fun _ => 0)))] H := hP
  have hD : va_D A [(h0, .inr (0, [.int 7, .int 0, .int 0, .int 0, .int 0, .ref q1, .ref q2, .ref q3, .null, .null, .null, .null])), (q1, .inl (cI, 3, .inl (fun _ => 0))), (q2, .inl (cI, 3, .inl (fun _ => 0))), (q3, .inl (cI, 2, .inl (fun _ => 0)))] := hD
  refine lv_aload_n hx hb dX0_init_31 rfl (lv_at hl 0 rfl) ?_
  refine lv_iconst (v := 2) hx hb dX0_init_32 (by decide) ?_
  refine va_newa (atype := .int) hx hb (hts _ w_a_int) rfl hK hP hD hS hA (N' := 2) (a0 := (2, .inl (fun _ => 0))) (fun _ => rfl) (by decide) (by decide +kernel) (Nat.le_of_ble_eq_true rfl) (Nat.le_of_ble_eq_true rfl) (Nat.le_of_ble_eq_true rfl) dX0_init_33 (fun q4 cA H hK2 hP hD hS => ?_)
  rw [ct_eqI hK hK2] at hP hD
  have hP : va_P D vwCl [(h0, .inr (0, [.int 7, .int 0, .int 0, .int 0, .int 0, .ref q1, .ref q2, .ref q3, .null, .null, .null, .null])), (q1, .inl (cI, 3, .inl (fun _ => 0))), (q2, .inl (cI, 3, .inl (fun _ => 0))), (q3, .inl (cI, 2, .inl (fun _ => 0))), (q4, .inl (cI, 2, .inl (fun _ => 0)))] H := hP
  have hD : va_D A [(h0, .inr (0, [.int 7, .int 0, .int 0, .int 0, .int 0, .ref q1, .ref q2, .ref q3, .null, .null, .null, .null])), (q1, .inl (cI, 3, .inl (fun _ => 0))), (q2, .inl (cI, 3, .inl (fun _ => 0))), (q3, .inl (cI, 2, .inl (fun _ => 0))), (q4, .inl (cI, 2, .inl (fun _ => 0)))] := hD
  refine va_putF (D := D) (ci := 0) (v := .ref q4) (ty := .array .int) (C := clsN 0) (T := clsT 0) (N := clsK 0) hx hb hts (uws_ok (c := 0) (by decide)) (clsTy 0) (cty_ok 0 (by decide)) (cnm_ok 0 (by decide)) hown hK hP hD hS 0 rfl (ccl_ok 0 (by decide)) 8 (by decide) (hts _ (tb_1 (i := 53) rfl rfl)) (fun _ h9 => h9) rfl hin rfl (by decide +kernel) rfl rfl (Nat.le_of_ble_eq_true rfl) dX0_init_35 (fun H locs hP hD hS => ?_)
  have hP : va_P D vwCl [(h0, .inr (0, [.int 7, .int 0, .int 0, .int 0, .int 0, .ref q1, .ref q2, .ref q3, .ref q4, .null, .null, .null])), (q1, .inl (cI, 3, .inl (fun _ => 0))), (q2, .inl (cI, 3, .inl (fun _ => 0))), (q3, .inl (cI, 2, .inl (fun _ => 0))), (q4, .inl (cI, 2, .inl (fun _ => 0)))] H := hP
  have hD : va_D A [(h0, .inr (0, [.int 7, .int 0, .int 0, .int 0, .int 0, .ref q1, .ref q2, .ref q3, .ref q4, .null, .null, .null])), (q1, .inl (cI, 3, .inl (fun _ => 0))), (q2, .inl (cI, 3, .inl (fun _ => 0))), (q3, .inl (cI, 2, .inl (fun _ => 0))), (q4, .inl (cI, 2, .inl (fun _ => 0)))] := hD
  refine lv_aload_n hx hb dX0_init_38 rfl (lv_at hl 0 rfl) ?_
  refine lv_iconst (v := 2) hx hb dX0_init_39 (by decide) ?_
  refine va_newa (atype := .int) hx hb (hts _ w_a_int) rfl hK hP hD hS hA (N' := 2) (a0 := (2, .inl (fun _ => 0))) (fun _ => rfl) (by decide) (by decide +kernel) (Nat.le_of_ble_eq_true rfl) (Nat.le_of_ble_eq_true rfl) (Nat.le_of_ble_eq_true rfl) dX0_init_40 (fun q5 cA H hK2 hP hD hS => ?_)
  rw [ct_eqI hK hK2] at hP hD
  have hP : va_P D vwCl [(h0, .inr (0, [.int 7, .int 0, .int 0, .int 0, .int 0, .ref q1, .ref q2, .ref q3, .ref q4, .null, .null, .null])), (q1, .inl (cI, 3, .inl (fun _ => 0))), (q2, .inl (cI, 3, .inl (fun _ => 0))), (q3, .inl (cI, 2, .inl (fun _ => 0))), (q4, .inl (cI, 2, .inl (fun _ => 0))), (q5, .inl (cI, 2, .inl (fun _ => 0)))] H := hP
  have hD : va_D A [(h0, .inr (0, [.int 7, .int 0, .int 0, .int 0, .int 0, .ref q1, .ref q2, .ref q3, .ref q4, .null, .null, .null])), (q1, .inl (cI, 3, .inl (fun _ => 0))), (q2, .inl (cI, 3, .inl (fun _ => 0))), (q3, .inl (cI, 2, .inl (fun _ => 0))), (q4, .inl (cI, 2, .inl (fun _ => 0))), (q5, .inl (cI, 2, .inl (fun _ => 0)))] := hD
  refine va_putF (D := D) (ci := 0) (v := .ref q5) (ty := .array .int) (C := clsN 0) (T := clsT 0) (N := clsK 0) hx hb hts (uws_ok (c := 0) (by decide)) (clsTy 0) (cty_ok 0 (by decide)) (cnm_ok 0 (by decide)) hown hK hP hD hS 0 rfl (ccl_ok 0 (by decide)) 9 (by decide) (hts _ (tb_1 (i := 54) rfl rfl)) (fun _ h9 => h9) rfl hin rfl (by decide +kernel) rfl rfl (Nat.le_of_ble_eq_true rfl) dX0_init_42 (fun H locs hP hD hS => ?_)
  have hP : va_P D vwCl [(h0, .inr (0, [.int 7, .int 0, .int 0, .int 0, .int 0, .ref q1, .ref q2, .ref q3, .ref q4, .ref q5, .null, .null])), (q1, .inl (cI, 3, .inl (fun _ => 0))), (q2, .inl (cI, 3, .inl (fun _ => 0))), (q3, .inl (cI, 2, .inl (fun _ => 0))), (q4, .inl (cI, 2, .inl (fun _ => 0))), (q5, .inl (cI, 2, .inl (fun _ => 0)))] H := hP
  have hD : va_D A [(h0, .inr (0, [.int 7, .int 0, .int 0, .int 0, .int 0, .ref q1, .ref q2, .ref q3, .ref q4, .ref q5, .null, .null])), (q1, .inl (cI, 3, .inl (fun _ => 0))), (q2, .inl (cI, 3, .inl (fun _ => 0))), (q3, .inl (cI, 2, .inl (fun _ => 0))), (q4, .inl (cI, 2, .inl (fun _ => 0))), (q5, .inl (cI, 2, .inl (fun _ => 0)))] := hD
  refine lv_aload_n hx hb dX0_init_45 rfl (lv_at hl 0 rfl) ?_
  refine lv_iconst (v := 2) hx hb dX0_init_46 (by decide) ?_
  refine va_newa (atype := .int) hx hb (hts _ w_a_int) rfl hK hP hD hS hA (N' := 2) (a0 := (2, .inl (fun _ => 0))) (fun _ => rfl) (by decide) (by decide +kernel) (Nat.le_of_ble_eq_true rfl) (Nat.le_of_ble_eq_true rfl) (Nat.le_of_ble_eq_true rfl) dX0_init_47 (fun q6 cA H hK2 hP hD hS => ?_)
  rw [ct_eqI hK hK2] at hP hD
  have hP : va_P D vwCl [(h0, .inr (0, [.int 7, .int 0, .int 0, .int 0, .int 0, .ref q1, .ref q2, .ref q3, .ref q4, .ref q5, .null, .null])), (q1, .inl (cI, 3, .inl (fun _ => 0))), (q2, .inl (cI, 3, .inl (fun _ => 0))), (q3, .inl (cI, 2, .inl (fun _ => 0))), (q4, .inl (cI, 2, .inl (fun _ => 0))), (q5, .inl (cI, 2, .inl (fun _ => 0))), (q6, .inl (cI, 2, .inl (fun _ => 0)))] H := hP
  have hD : va_D A [(h0, .inr (0, [.int 7, .int 0, .int 0, .int 0, .int 0, .ref q1, .ref q2, .ref q3, .ref q4, .ref q5, .null, .null])), (q1, .inl (cI, 3, .inl (fun _ => 0))), (q2, .inl (cI, 3, .inl (fun _ => 0))), (q3, .inl (cI, 2, .inl (fun _ => 0))), (q4, .inl (cI, 2, .inl (fun _ => 0))), (q5, .inl (cI, 2, .inl (fun _ => 0))), (q6, .inl (cI, 2, .inl (fun _ => 0)))] := hD
  refine va_putF (D := D) (ci := 0) (v := .ref q6) (ty := .array .int) (C := clsN 0) (T := clsT 0) (N := clsK 0) hx hb hts (uws_ok (c := 0) (by decide)) (clsTy 0) (cty_ok 0 (by decide)) (cnm_ok 0 (by decide)) hown hK hP hD hS 0 rfl (ccl_ok 0 (by decide)) 10 (by decide) (hts _ (tb_1 (i := 55) rfl rfl)) (fun _ h9 => h9) rfl hin rfl (by decide +kernel) rfl rfl (Nat.le_of_ble_eq_true rfl) dX0_init_49 (fun H locs hP hD hS => ?_)
  have hP : va_P D vwCl [(h0, .inr (0, [.int 7, .int 0, .int 0, .int 0, .int 0, .ref q1, .ref q2, .ref q3, .ref q4, .ref q5, .ref q6, .null])), (q1, .inl (cI, 3, .inl (fun _ => 0))), (q2, .inl (cI, 3, .inl (fun _ => 0))), (q3, .inl (cI, 2, .inl (fun _ => 0))), (q4, .inl (cI, 2, .inl (fun _ => 0))), (q5, .inl (cI, 2, .inl (fun _ => 0))), (q6, .inl (cI, 2, .inl (fun _ => 0)))] H := hP
  have hD : va_D A [(h0, .inr (0, [.int 7, .int 0, .int 0, .int 0, .int 0, .ref q1, .ref q2, .ref q3, .ref q4, .ref q5, .ref q6, .null])), (q1, .inl (cI, 3, .inl (fun _ => 0))), (q2, .inl (cI, 3, .inl (fun _ => 0))), (q3, .inl (cI, 2, .inl (fun _ => 0))), (q4, .inl (cI, 2, .inl (fun _ => 0))), (q5, .inl (cI, 2, .inl (fun _ => 0))), (q6, .inl (cI, 2, .inl (fun _ => 0)))] := hD
  refine lv_aload_n hx hb dX0_init_52 rfl (lv_at hl 0 rfl) ?_
  refine lv_iconst (v := 2) hx hb dX0_init_53 (by decide) ?_
  refine va_newa (atype := .int) hx hb (hts _ w_a_int) rfl hK hP hD hS hA (N' := 2) (a0 := (2, .inl (fun _ => 0))) (fun _ => rfl) (by decide) (by decide +kernel) (Nat.le_of_ble_eq_true rfl) (Nat.le_of_ble_eq_true rfl) (Nat.le_of_ble_eq_true rfl) dX0_init_54 (fun q7 cA H hK2 hP hD hS => ?_)
  rw [ct_eqI hK hK2] at hP hD
  have hP : va_P D vwCl [(h0, .inr (0, [.int 7, .int 0, .int 0, .int 0, .int 0, .ref q1, .ref q2, .ref q3, .ref q4, .ref q5, .ref q6, .null])), (q1, .inl (cI, 3, .inl (fun _ => 0))), (q2, .inl (cI, 3, .inl (fun _ => 0))), (q3, .inl (cI, 2, .inl (fun _ => 0))), (q4, .inl (cI, 2, .inl (fun _ => 0))), (q5, .inl (cI, 2, .inl (fun _ => 0))), (q6, .inl (cI, 2, .inl (fun _ => 0))), (q7, .inl (cI, 2, .inl (fun _ => 0)))] H := hP
  have hD : va_D A [(h0, .inr (0, [.int 7, .int 0, .int 0, .int 0, .int 0, .ref q1, .ref q2, .ref q3, .ref q4, .ref q5, .ref q6, .null])), (q1, .inl (cI, 3, .inl (fun _ => 0))), (q2, .inl (cI, 3, .inl (fun _ => 0))), (q3, .inl (cI, 2, .inl (fun _ => 0))), (q4, .inl (cI, 2, .inl (fun _ => 0))), (q5, .inl (cI, 2, .inl (fun _ => 0))), (q6, .inl (cI, 2, .inl (fun _ => 0))), (q7, .inl (cI, 2, .inl (fun _ => 0)))] := hD
  refine va_putF (D := D) (ci := 0) (v := .ref q7) (ty := .array .int) (C := clsN 0) (T := clsT 0) (N := clsK 0) hx hb hts (uws_ok (c := 0) (by decide)) (clsTy 0) (cty_ok 0 (by decide)) (cnm_ok 0 (by decide)) hown hK hP hD hS 0 rfl (ccl_ok 0 (by decide)) 11 (by decide) (hts _ (tb_1 (i := 57) rfl rfl)) (fun _ h9 => h9) rfl hin rfl (by decide +kernel) rfl rfl (Nat.le_of_ble_eq_true rfl) dX0_init_56 (fun H locs hP hD hS => ?_)
  have hP : va_P D vwCl [(h0, .inr (0, [.int 7, .int 0, .int 0, .int 0, .int 0, .ref q1, .ref q2, .ref q3, .ref q4, .ref q5, .ref q6, .ref q7])), (q1, .inl (cI, 3, .inl (fun _ => 0))), (q2, .inl (cI, 3, .inl (fun _ => 0))), (q3, .inl (cI, 2, .inl (fun _ => 0))), (q4, .inl (cI, 2, .inl (fun _ => 0))), (q5, .inl (cI, 2, .inl (fun _ => 0))), (q6, .inl (cI, 2, .inl (fun _ => 0))), (q7, .inl (cI, 2, .inl (fun _ => 0)))] H := hP
  have hD : va_D A [(h0, .inr (0, [.int 7, .int 0, .int 0, .int 0, .int 0, .ref q1, .ref q2, .ref q3, .ref q4, .ref q5, .ref q6, .ref q7])), (q1, .inl (cI, 3, .inl (fun _ => 0))), (q2, .inl (cI, 3, .inl (fun _ => 0))), (q3, .inl (cI, 2, .inl (fun _ => 0))), (q4, .inl (cI, 2, .inl (fun _ => 0))), (q5, .inl (cI, 2, .inl (fun _ => 0))), (q6, .inl (cI, 2, .inl (fun _ => 0))), (q7, .inl (cI, 2, .inl (fun _ => 0)))] := hD
  have hP9 := hP.sub (ws' := [(h0, .inr (0, [.int 7, .int 0, .int 0, .int 0, .int 0, .ref q1, .ref q2, .ref q3, .ref q4, .ref q5, .ref q6, .ref q7])), (q1, .inl (cI, 3, .inl (fun _ => 0))), (q2, .inl (cI, 3, .inl (fun _ => 0))), (q3, .inl (cI, 2, .inl (fun _ => 0))), (q4, .inl (cI, 2, .inl (fun _ => 0))), (q5, .inl (cI, 2, .inl (fun _ => 0))), (q6, .inl (cI, 2, .inl (fun _ => 0))), (q7, .inl (cI, 2, .inl (fun _ => 0)))]) [0, 1, 2, 3, 4, 5, 6, 7] rfl
  have hD9 := hD.sub (ws' := [(h0, .inr (0, [.int 7, .int 0, .int 0, .int 0, .int 0, .ref q1, .ref q2, .ref q3, .ref q4, .ref q5, .ref q6, .ref q7])), (q1, .inl (cI, 3, .inl (fun _ => 0))), (q2, .inl (cI, 3, .inl (fun _ => 0))), (q3, .inl (cI, 2, .inl (fun _ => 0))), (q4, .inl (cI, 2, .inl (fun _ => 0))), (q5, .inl (cI, 2, .inl (fun _ => 0))), (q6, .inl (cI, 2, .inl (fun _ => 0))), (q7, .inl (cI, 2, .inl (fun _ => 0)))]) [0, 1, 2, 3, 4, 5, 6, 7] (by decide) rfl
  refine W.widen (k := 7) (n := 16) (Nat.le_of_ble_eq_true rfl) (Nat.le_of_ble_eq_true rfl) ?_
  refine W.vret hx hb hr (fun t ht hW => ⟨⟨(), rfl, trivial, q1, q2, q3, q4, q5, q6, q7, by rw [ht]; exact hP9, hD9⟩, hS.F ht⟩) hS.2.2 dX0_init_59

theorem dX7_init_0 : decode cX7_init 0 = .ok (.aload_n 0, 1) := by decide +kernel
theorem dX7_init_1 : decode cX7_init 1 = .ok (.invokespecial 1, 3) := by decide +kernel
theorem dX7_init_4 : decode cX7_init 4 = .ok (.return_, 1) := by decide +kernel
set_option maxRecDepth 100000 in
theorem wc_7 : Cond.code yX7_init cX7_init 1 none ∈ TBL := tb_1 (i := 233) rfl rfl
set_option maxRecDepth 100000 in
theorem wi_7 : Cond.initialized RX7 ∈ TBL := tb_1 (i := 9) rfl rfl
set_option maxRecDepth 100000 in
theorem wm_7 : Cond.instanceMethod yX7_init ∈ TBL := tb_1 (i := 232) rfl rfl
set_option maxHeartbeats 4000000 in
set_option maxRecDepth 100000 in
theorem ct_7 (l : Launch) (D : va_G) (cI cL cZ : ClassId) (h0 sz : Nat) : Met l yX7_init (wsC yX7_init cX7_init 1) (rmC 1 0 0) (va_Pc [.ref h0] (fun U => U.heap.size = sz ∧ va_P D vwCl [(h0, .inr (7, [.int 0, .int 0, .int 0, .int 0, .int 0, .int 0]))] U.heap ∧ va_K D vwCl (tysG cI cL cZ) U ∧ va_D (fun _ => True) [(h0, .inr (7, [.int 0, .int 0, .int 0, .int 0, .int 0, .int 0]))])) (va_Qv (fun _ : Unit => True) (fun _ t => va_P D vwCl [(h0, .inr (7, [.int 0, .int 0, .int 0, .int 0, .int 0, .int 0]))] t.heap ∧ va_D (va_A [(h0, .inr (7, [.int 0, .int 0, .int 0, .int 0, .int 0, .int 0]))] sz) [(h0, .inr (7, [.int 0, .int 0, .int 0, .int 0, .int 0, .int 0]))]) (va_A [(h0, .inr (7, [.int 0, .int 0, .int 0, .int 0, .int 0, .int 0]))] sz)) 0 0 (va_A [(h0, .inr (7, [.int 0, .int 0, .int 0, .int 0, .int 0, .int 0]))] sz) := by
  refine Met.ofW (cc := cX7_init) (maxL := 1) (ret := none) (by decide) rfl ?_
  intro p e s m args below meth c s₁ B hml hv
  obtain ⟨rfl, hsz, hP, hK, hD0⟩ := hv
  have hx := B.exec
  have hb := B.bytes
  have hr := B.returns
  have hts0 := atoms_spec (ws := wsC yX7_init cX7_init 1) B.pre
  have hts : ∀ w ∈ TBL, w.before _ s = true := fun w hw => hts0 w (List.mem_cons_of_mem _ hw)
  have hown : s.vm.findClass RX7 = some m.cls := findClass_of_methodNamed B.named
  have hlocks := B.notSynchronized
  have hin : meth.name = "<init>" := (name_of_methodNamed B.named B.method).1
  subst hsz
  have hD := hD0.self (sz := s.heap.size)
  generalize hAe : va_A [(h0, .inr (7, [.int 0, .int 0, .int 0, .int 0, .int 0, .int 0]))] s.heap.size = A at hD ⊢
  have hA : ∀ q : Nat, s.heap.size ≤ q → A q := fun q h => by rw [← hAe]; exact Or.inr h
  have hS : va_S A s.heap s.heap [] := va_S.rf
  have hP : va_P D vwCl [(h0, .inr (7, [.int 0, .int 0, .int 0, .int 0, .int 0, .int 0]))] s.heap := hP
  have hl := lv_entry ([.ref h0]) (n := 1) (Nat.le_of_ble_eq_true rfl)
  rw [lg_entry_eq]
  generalize (lg_sl ([.ref h0]) ++ List.replicate (1 - (lg_sl ([.ref h0])).length) Slot.unset).toArray = ls at hl ⊢
  have hl : lv_has ls 1 [(0, .ref h0)] := hl
  refine lv_aload_n hx hb dX7_init_0 rfl (lv_at hl 0 rfl) ?_
  refine W.objInit hx hb hown (hts _ (tb_1 (i := 234) rfl rfl)) (hts _ w_oi) (hts _ w_oc) rfl (by rw [hml]; exact hl.1) rfl dX7_init_1 (Nat.le_of_ble_eq_true rfl) (Nat.le_of_ble_eq_true rfl) ?_
  refine W.eq (g2 := F0 m 4 ls []) rfl ?_
  have hP9 := hP.sub (ws' := [(h0, .inr (7, [.int 0, .int 0, .int 0, .int 0, .int 0, .int 0]))]) [0] rfl
  have hD9 := hD.sub (ws' := [(h0, .inr (7, [.int 0, .int 0, .int 0, .int 0, .int 0, .int 0]))]) [0] (by decide) rfl
  refine W.widen (k := 0) (n := 0) (Nat.le_of_ble_eq_true rfl) (Nat.le_of_ble_eq_true rfl) ?_
  refine W.vret hx hb hr (fun t ht hW => ⟨⟨(), rfl, trivial, by rw [ht]; exact hP9, hD9⟩, hS.F ht⟩) hS.2.2 dX7_init_4

theorem dX8_init_0 : decode cX8_init 0 = .ok (.aload_n 0, 1) := by decide +kernel
theorem dX8_init_1 : decode cX8_init 1 = .ok (.invokespecial 3, 3) := by decide +kernel
theorem dX8_init_4 : decode cX8_init 4 = .ok (.aload_n 0, 1) := by decide +kernel
theorem dX8_init_5 : decode cX8_init 5 = .ok (.sipush 200, 3) := by decide +kernel
theorem dX8_init_8 : decode cX8_init 8 = .ok (.newarray .int, 2) := by decide +kernel
theorem dX8_init_10 : decode cX8_init 10 = .ok (.putfield 11, 3) := by decide +kernel
theorem dX8_init_13 : decode cX8_init 13 = .ok (.return_, 1) := by decide +kernel
set_option maxRecDepth 100000 in
theorem wc_8 : Cond.code yX8_init cX8_init 1 none ∈ TBL := tb_1 (i := 89) rfl rfl
set_option maxRecDepth 100000 in
theorem wi_8 : Cond.initialized RX8 ∈ TBL := tb_1 (i := 3) rfl rfl
set_option maxRecDepth 100000 in
theorem wm_8 : Cond.instanceMethod yX8_init ∈ TBL := tb_1 (i := 88) rfl rfl
set_option maxHeartbeats 4000000 in
set_option maxRecDepth 100000 in
theorem ct_8 (l : Launch) (D : va_G) (cI cL cZ : ClassId) (h0 sz : Nat) : Met l yX8_init (wsC yX8_init cX8_init 1) (rmC 1 1 200) (va_Pc [.ref h0] (fun U => U.heap.size = sz ∧ va_P D vwCl [(h0, .inr (8, [.null, .int 0]))] U.heap ∧ va_K D vwCl (tysG cI cL cZ) U ∧ va_D (fun _ => True) [(h0, .inr (8, [.null, .int 0]))])) (va_Qv (fun _ : Unit => True) (fun _ t => ∃ q1, va_P D vwCl [(h0, .inr (8, [.ref q1, .int 0])), (q1, .inl (cI, 200, .inl (fun _ => 0)))] t.heap ∧ va_D (va_A [(h0, .inr (8, [.null, .int 0]))] sz) [(h0, .inr (8, [.ref q1, .int 0])), (q1, .inl (cI, 200, .inl (fun _ => 0)))]) (va_A [(h0, .inr (8, [.null, .int 0]))] sz)) 1 200 (va_A [(h0, .inr (8, [.null, .int 0]))] sz) := by
  refine Met.ofW (cc := cX8_init) (maxL := 1) (ret := none) (by decide) rfl ?_
  intro p e s m args below meth c s₁ B hml hv
  obtain ⟨rfl, hsz, hP, hK, hD0⟩ := hv
  have hx := B.exec
  have hb := B.bytes
  have hr := B.returns
  have hts0 := atoms_spec (ws := wsC yX8_init cX8_init 1) B.pre
  have hts : ∀ w ∈ TBL, w.before _ s = true := fun w hw => hts0 w (List.mem_cons_of_mem _ hw)
  have hown : s.vm.findClass RX8 = some m.cls := findClass_of_methodNamed B.named
  have hlocks := B.notSynchronized
  have hin : meth.name = "<init>" := (name_of_methodNamed B.named B.method).1
  subst hsz
  have hD := hD0.self (sz := s.heap.size)
  generalize hAe : va_A [(h0, .inr (8, [.null, .int 0]))] s.heap.size = A at hD ⊢
  have hA : ∀ q : Nat, s.heap.size ≤ q → A q := fun q h => by rw [← hAe]; exact Or.inr h
  have hS : va_S A s.heap s.heap [] := va_S.rf
  have hP : va_P D vwCl [(h0, .inr (8, [.null, .int 0]))] s.heap := hP
  have hl := lv_entry ([.ref h0]) (n := 1) (Nat.le_of_ble_eq_true rfl)
  rw [lg_entry_eq]
  generalize (lg_sl ([.ref h0]) ++ List.replicate (1 - (lg_sl ([.ref h0])).length) Slot.unset).toArray = ls at hl ⊢
  have hl : lv_has ls 1 [(0, .ref h0)] := hl
  refine lv_aload_n hx hb dX8_init_0 rfl (lv_at hl 0 rfl) ?_
  refine W.objInit hx hb hown (hts _ (tb_1 (i := 90) rfl rfl)) (hts _ w_oi) (hts _ w_oc) rfl (by rw [hml]; exact hl.1) rfl dX8_init_1 (Nat.le_of_ble_eq_true rfl) (Nat.le_of_ble_eq_true rfl) ?_
  refine W.eq (g2 := F0 m 4 ls []) rfl ?_
  refine lv_aload_n hx hb dX8_init_4 rfl (lv_at hl 0 rfl) ?_
  refine lv_sipush (v := 200) hx hb dX8_init_5 (by decide) ?_
  refine va_newa (atype := .int) hx hb (hts _ w_a_int) rfl hK hP hD hS hA (N' := 200) (a0 := (200, .inl (fun _ => 0))) (fun _ => rfl) (by decide) (by decide +kernel) (Nat.le_of_ble_eq_true rfl) (Nat.le_of_ble_eq_true rfl) (Nat.le_of_ble_eq_true rfl) dX8_init_8 (fun q1 cA H hK2 hP hD hS => ?_)
  rw [ct_eqI hK hK2] at hP hD
  have hP : va_P D vwCl [(h0, .inr (8, [.null, .int 0])), (q1, .inl (cI, 200, .inl (fun _ => 0)))] H := hP
  have hD : va_D A [(h0, .inr (8, [.null, .int 0])), (q1, .inl (cI, 200, .inl (fun _ => 0)))] := hD
  refine va_putF (D := D) (ci := 8) (v := .ref q1) (ty := .array .int) (C := clsN 8) (T := clsT 8) (N := clsK 8) hx hb hts (uws_ok (c := 8) (by decide)) (clsTy 8) (cty_ok 8 (by decide)) (cnm_ok 8 (by decide)) hown hK hP hD hS 0 rfl (ccl_ok 8 (by decide)) 0 (by decide) (hts _ (tb_1 (i := 91) rfl rfl)) (fun _ h9 => h9) rfl hin rfl (by decide +kernel) rfl rfl (Nat.le_of_ble_eq_true rfl) dX8_init_10 (fun H locs hP hD hS => ?_)
  have hP : va_P D vwCl [(h0, .inr (8, [.ref q1, .int 0])), (q1, .inl (cI, 200, .inl (fun _ => 0)))] H := hP
  have hD : va_D A [(h0, .inr (8, [.ref q1, .int 0])), (q1, .inl (cI, 200, .inl (fun _ => 0)))] := hD
  have hP9 := hP.sub (ws' := [(h0, .inr (8, [.ref q1, .int 0])), (q1, .inl (cI, 200, .inl (fun _ => 0)))]) [0, 1] rfl
  have hD9 := hD.sub (ws' := [(h0, .inr (8, [.ref q1, .int 0])), (q1, .inl (cI, 200, .inl (fun _ => 0)))]) [0, 1] (by decide) rfl
  refine W.widen (k := 1) (n := 200) (Nat.le_of_ble_eq_true rfl) (Nat.le_of_ble_eq_true rfl) ?_
  refine W.vret hx hb hr (fun t ht hW => ⟨⟨(), rfl, trivial, q1, by rw [ht]; exact hP9, hD9⟩, hS.F ht⟩) hS.2.2 dX8_init_13

theorem dX4_init_0 : decode cX4_init 0 = .ok (.aload_n 0, 1) := by decide +kernel
theorem dX4_init_1 : decode cX4_init 1 = .ok (.invokespecial 1, 3) := by decide +kernel
theorem dX4_init_4 : decode cX4_init 4 = .ok (.aload_n 0, 1) := by decide +kernel
theorem dX4_init_5 : decode cX4_init 5 = .ok (.bipush 8, 2) := by decide +kernel
theorem dX4_init_7 : decode cX4_init 7 = .ok (.newarray .int, 2) := by decide +kernel
theorem dX4_init_9 : decode cX4_init 9 = .ok (.putfield 9, 3) := by decide +kernel
theorem dX4_init_12 : decode cX4_init 12 = .ok (.return_, 1) := by decide +kernel
set_option maxRecDepth 100000 in
theorem wc_4 : Cond.code yX4_init cX4_init 1 none ∈ TBL := tb_1 (i := 166) rfl rfl
set_option maxRecDepth 100000 in
theorem wi_4 : Cond.initialized RX4 ∈ TBL := tb_1 (i := 6) rfl rfl
set_option maxRecDepth 100000 in
theorem wm_4 : Cond.instanceMethod yX4_init ∈ TBL := tb_1 (i := 165) rfl rfl
set_option maxHeartbeats 4000000 in
set_option maxRecDepth 100000 in
theorem ct_4 (l : Launch) (D : va_G) (cI cL cZ : ClassId) (h0 sz : Nat) : Met l yX4_init (wsC yX4_init cX4_init 1) (rmC 1 1 8) (va_Pc [.ref h0] (fun U => U.heap.size = sz ∧ va_P D vwCl [(h0, .inr (4, [.null, .int 0]))] U.heap ∧ va_K D vwCl (tysG cI cL cZ) U ∧ va_D (fun _ => True) [(h0, .inr (4, [.null, .int 0]))])) (va_Qv (fun _ : Unit => True) (fun _ t => ∃ q1, va_P D vwCl [(h0, .inr (4, [.ref q1, .int 0])), (q1, .inl (cI, 8, .inl (fun _ => 0)))] t.heap ∧ va_D (va_A [(h0, .inr (4, [.null, .int 0]))] sz) [(h0, .inr (4, [.ref q1, .int 0])), (q1, .inl (cI, 8, .inl (fun _ => 0)))]) (va_A [(h0, .inr (4, [.null, .int 0]))] sz)) 1 8 (va_A [(h0, .inr (4, [.null, .int 0]))] sz) := by
  refine Met.ofW (cc := cX4_init) (maxL := 1) (ret := none) (by decide) rfl ?_
  intro p e s m args below meth c s₁ B hml hv
  obtain ⟨rfl, hsz, hP, hK, hD0⟩ := hv
  have hx := B.exec
  have hb := B.bytes
  have hr := B.returns
  have hts0 := atoms_spec (ws := wsC yX4_init cX4_init 1) B.pre
  have hts : ∀ w ∈ TBL, w.before _ s = true := fun w hw => hts0 w (List.mem_cons_of_mem _ hw)
  have hown : s.vm.findClass RX4 = some m.cls := findClass_of_methodNamed B.named
  have hlocks := B.notSynchronized
  have hin : meth.name = "<init>" := (name_of_methodNamed B.named B.method).1
  subst hsz
  have hD := hD0.self (sz := s.heap.size)
  generalize hAe : va_A [(h0, .inr (4, [.null, .int 0]))] s.heap.size = A at hD ⊢
  have hA : ∀ q : Nat, s.heap.size ≤ q → A q := fun q h => by rw [← hAe]; exact Or.inr h
  have hS : va_S A s.heap s.heap [] := va_S.rf
  have hP : va_P D vwCl [(h0, .inr (4, [.null, .int 0]))] s.heap := hP
  have hl := lv_entry ([.ref h0]) (n := 1) (Nat.le_of_ble_eq_true rfl)
  rw [lg_entry_eq]
  generalize (lg_sl ([.ref h0]) ++ List.replicate (1 - (lg_sl ([.ref h0])).length) Slot.unset).toArray = ls at hl ⊢
  have hl : lv_has ls 1 [(0, .ref h0)] := hl
  refine lv_aload_n hx hb dX4_init_0 rfl (lv_at hl 0 rfl) ?_
  refine W.objInit hx hb hown (hts _ (tb_1 (i := 167) rfl rfl)) (hts _ w_oi) (hts _ w_oc) rfl (by rw [hml]; exact hl.1) rfl dX4_init_1 (Nat.le_of_ble_eq_true rfl) (Nat.le_of_ble_eq_true rfl) ?_
  refine W.eq (g2 := F0 m 4 ls []) rfl ?_
  refine lv_aload_n hx hb dX4_init_4 rfl (lv_at hl 0 rfl) ?_
  refine lv_bipush (v := 8) hx hb dX4_init_5 (by decide) ?_
  refine va_newa (atype := .int) hx hb (hts _ w_a_int) rfl hK hP hD hS hA (N' := 8) (a0 := (8, .inl (fun _ => 0))) (fun _ => rfl) (by decide) (by decide +kernel) (Nat.le_of_ble_eq_true rfl) (Nat.le_of_ble_eq_true rfl) (Nat.le_of_ble_eq_true rfl) dX4_init_7 (fun q1 cA H hK2 hP hD hS => ?_)
  rw [ct_eqI hK hK2] at hP hD
  have hP : va_P D vwCl [(h0, .inr (4, [.null, .int 0])), (q1, .inl (cI, 8, .inl (fun _ => 0)))] H := hP
  have hD : va_D A [(h0, .inr (4, [.null, .int 0])), (q1, .inl (cI, 8, .inl (fun _ => 0)))] := hD
  refine va_putF (D := D) (ci := 4) (v := .ref q1) (ty := .array .int) (C := clsN 4) (T := clsT 4) (N := clsK 4) hx hb hts (uws_ok (c := 4) (by decide)) (clsTy 4) (cty_ok 4 (by decide)) (cnm_ok 4 (by decide)) hown hK hP hD hS 0 rfl (ccl_ok 4 (by decide)) 0 (by decide) (hts _ (tb_1 (i := 168) rfl rfl)) (fun _ h9 => h9) rfl hin rfl (by decide +kernel) rfl rfl (Nat.le_of_ble_eq_true rfl) dX4_init_9 (fun H locs hP hD hS => ?_)
  have hP : va_P D vwCl [(h0, .inr (4, [.ref q1, .int 0])), (q1, .inl (cI, 8, .inl (fun _ => 0)))] H := hP
  have hD : va_D A [(h0, .inr (4, [.ref q1, .int 0])), (q1, .inl (cI, 8, .inl (fun _ => 0)))] := hD
  have hP9 := hP.sub (ws' := [(h0, .inr (4, [.ref q1, .int 0])), (q1, .inl (cI, 8, .inl (fun _ => 0)))]) [0, 1] rfl
  have hD9 := hD.sub (ws' := [(h0, .inr (4, [.ref q1, .int 0])), (q1, .inl (cI, 8, .inl (fun _ => 0)))]) [0, 1] (by decide) rfl
  refine W.widen (k := 1) (n := 8) (Nat.le_of_ble_eq_true rfl) (Nat.le_of_ble_eq_true rfl) ?_
  refine W.vret hx hb hr (fun t ht hW => ⟨⟨(), rfl, trivial, q1, by rw [ht]; exact hP9, hD9⟩, hS.F ht⟩) hS.2.2 dX4_init_12

theorem dX5_init_0 : decode cX5_init 0 = .ok (.aload_n 0, 1) := by decide +kernel
theorem dX5_init_1 : decode cX5_init 1 = .ok (.invokespecial 3, 3) := by decide +kernel
theorem dX5_init_4 : decode cX5_init 4 = .ok (.aload_n 0, 1) := by decide +kernel
theorem dX5_init_5 : decode cX5_init 5 = .ok (.bipush 40, 2) := by decide +kernel
theorem dX5_init_7 : decode cX5_init 7 = .ok (.newarray .int, 2) := by decide +kernel
theorem dX5_init_9 : decode cX5_init 9 = .ok (.putfield 11, 3) := by decide +kernel
theorem dX5_init_12 : decode cX5_init 12 = .ok (.aload_n 0, 1) := by decide +kernel
theorem dX5_init_13 : decode cX5_init 13 = .ok (.bipush 40, 2) := by decide +kernel
theorem dX5_init_15 : decode cX5_init 15 = .ok (.newarray .int, 2) := by decide +kernel
theorem dX5_init_17 : decode cX5_init 17 = .ok (.putfield 15, 3) := by decide +kernel
theorem dX5_init_20 : decode cX5_init 20 = .ok (.aload_n 0, 1) := by decide +kernel
theorem dX5_init_21 : decode cX5_init 21 = .ok (.bipush 40, 2) := by decide +kernel
theorem dX5_init_23 : decode cX5_init 23 = .ok (.newarray .long, 2) := by decide +kernel
theorem dX5_init_25 : decode cX5_init 25 = .ok (.putfield 18, 3) := by decide +kernel
theorem dX5_init_28 : decode cX5_init 28 = .ok (.return_, 1) := by decide +kernel
set_option maxRecDepth 100000 in
theorem wc_5 : Cond.code yX5_init cX5_init 1 none ∈ TBL := tb_1 (i := 130) rfl rfl
set_option maxRecDepth 100000 in
theorem wi_5 : Cond.initialized RX5 ∈ TBL := tb_1 (i := 5) rfl rfl
set_option maxRecDepth 100000 in
theorem wm_5 : Cond.instanceMethod yX5_init ∈ TBL := tb_1 (i := 129) rfl rfl
set_option maxHeartbeats 4000000 in
set_option maxRecDepth 100000 in
theorem ct_5 (l : Launch) (D : va_G) (cI cL cZ : ClassId) (h0 sz : Nat) : Met l yX5_init (wsC yX5_init cX5_init 1) (rmC 1 3 120) (va_Pc [.ref h0] (fun U => U.heap.size = sz ∧ va_P D vwCl [(h0, .inr (5, [.null, .int 0, .null, .int 0, .null, .int 0, .int 0, .int 0, .int 0]))] U.heap ∧ va_K D vwCl (tysG cI cL cZ) U ∧ va_D (fun _ => True) [(h0, .inr (5, [.null, .int 0, .null, .int 0, .null, .int 0, .int 0, .int 0, .int 0]))])) (va_Qv (fun _ : Unit => True) (fun _ t => ∃ q1 q2 q3, va_P D vwCl [(h0, .inr (5, [.ref q1, .int 0, .ref q2, .int 0, .ref q3, .int 0, .int 0, .int 0, .int 0])), (q1, .inl (cI, 40, .inl (fun _ => 0))), (q2, .inl (cI, 40, .inl (fun _ => 0))), (q3, .inl (cL, 40, .inr (.inl (fun _ => 0))))] t.heap ∧ va_D (va_A [(h0, .inr (5, [.null, .int 0, .null, .int 0, .null, .int 0, .int 0, .int 0, .int 0]))] sz) [(h0, .inr (5, [.ref q1, .int 0, .ref q2, .int 0, .ref q3, .int 0, .int 0, .int 0, .int 0])), (q1, .inl (cI, 40, .inl (fun _ => 0))), (q2, .inl (cI, 40, .inl (fun _ => 0))), (q3, .inl (cL, 40, .inr (.inl (fun _ => 0))))]) (va_A [(h0, .inr (5, [.null, .int 0, .null, .int 0, .null, .int 0, .int 0, .int 0, .int 0]))] sz)) 3 120 (va_A [(h0, .inr (5, [.null, .int 0, .null, .int 0, .null, .int 0, .int 0, .int 0, .int 0]))] sz) := by
  refine Met.ofW (cc := cX5_init) (maxL := 1) (ret := none) (by decide) rfl ?_
  intro p e s m args below meth c s₁ B hml hv
  obtain ⟨rfl, hsz, hP, hK, hD0⟩ := hv
  have hx := B.exec
  have hb := B.bytes
  have hr := B.returns
  have hts0 := atoms_spec (ws := wsC yX5_init cX5_init 1) B.pre
  have hts : ∀ w ∈ TBL, w.before _ s = true := fun w hw => hts0 w (List.mem_cons_of_mem _ hw)
  have hown : s.vm.findClass RX5 = some m.cls := findClass_of_methodNamed B.named
  have hlocks := B.notSynchronized
  have hin : meth.name = "<init>" := (name_of_methodNamed B.named B.method).1
  subst hsz
  have hD := hD0.self (sz := s.heap.size)
  generalize hAe : va_A [(h0, .inr (5, [.null, .int 0, .null, .int 0, .null, .int 0, .int 0, .int 0, .int 0]))] s.heap.size = A at hD ⊢
  have hA : ∀ q : Nat, s.heap.size ≤ q → A q := fun q h => by rw [← hAe]; exact Or.inr h
  have hS : va_S A s.heap s.heap [] := va_S.rf
  have hP : va_P D vwCl [(h0, .inr (5, [.null, .int 0, .null, .int 0, .null, .int 0, .int 0, .int 0, .int 0]))] s.heap := hP
  have hl := lv_entry ([.ref h0]) (n := 1) (Nat.le_of_ble_eq_true rfl)
  rw [lg_entry_eq]
  generalize (lg_sl ([.ref h0]) ++ List.replicate (1 - (lg_sl ([.ref h0])).length) Slot.unset).toArray = ls at hl ⊢
  have hl : lv_has ls 1 [(0, .ref h0)] := hl
  refine lv_aload_n hx hb dX5_init_0 rfl (lv_at hl 0 rfl) ?_
  refine W.objInit hx hb hown (hts _ (tb_1 (i := 131) rfl rfl)) (hts _ w_oi) (hts _ w_oc) rfl (by rw [hml]; exact hl.1) rfl dX5_init_1 (Nat.le_of_ble_eq_true rfl) (Nat.le_of_ble_eq_true rfl) ?_
  refine W.eq (g2 := F0 m 4 ls []) rfl ?_
  refine lv_aload_n hx hb dX5_init_4 rfl (lv_at hl 0 rfl) ?_
  refine lv_bipush (v := 40) hx hb dX5_init_5 (by decide) ?_
  refine va_newa (atype := .int) hx hb (hts _ w_a_int) rfl hK hP hD hS hA (N' := 40) (a0 := (40, .inl (fun _ => 0))) (fun _ => rfl) (by decide) (by decide +kernel) (Nat.le_of_ble_eq_true rfl) (Nat.le_of_ble_eq_true rfl) (Nat.le_of_ble_eq_true rfl) dX5_init_7 (fun q1 cA H hK2 hP hD hS => ?_)
  rw [ct_eqI hK hK2] at hP hD
  have hP : va_P D vwCl [(h0, .inr (5, [.null, .int 0, .null, .int 0, .null, .int 0, .int 0, .int 0, .int 0])), (q1, .inl (cI, 40, .inl (fun _ => 0)))] H := hP
  have hD : va_D A [(h0, .inr (5, [.null, .int 0, .null, .int 0, .null, .int 0, .int 0, .int 0, .int 0])), (q1, .inl (cI, 40, .inl (fun _ => 0)))] := hD
  refine va_putF (D := D) (ci := 5) (v := .ref q1) (ty := .array .int) (C := clsN 5) (T := clsT 5) (N := clsK 5) hx hb hts (uws_ok (c := 5) (by decide)) (clsTy 5) (cty_ok 5 (by decide)) (cnm_ok 5 (by decide)) hown hK hP hD hS 0 rfl (ccl_ok 5 (by decide)) 0 (by decide) (hts _ (tb_1 (i := 132) rfl rfl)) (fun _ h9 => h9) rfl hin rfl (by decide +kernel) rfl rfl (Nat.le_of_ble_eq_true rfl) dX5_init_9 (fun H locs hP hD hS => ?_)
  have hP : va_P D vwCl [(h0, .inr (5, [.ref q1, .int 0, .null, .int 0, .null, .int 0, .int 0, .int 0, .int 0])), (q1, .inl (cI, 40, .inl (fun _ => 0)))] H := hP
  have hD : va_D A [(h0, .inr (5, [.ref q1, .int 0, .null, .int 0, .null, .int 0, .int 0, .int 0, .int 0])), (q1, .inl (cI, 40, .inl (fun _ => 0)))] := hD
  refine lv_aload_n hx hb dX5_init_12 rfl (lv_at hl 0 rfl) ?_
  refine lv_bipush (v := 40) hx hb dX5_init_13 (by decide) ?_
  refine va_newa (atype := .int) hx hb (hts _ w_a_int) rfl hK hP hD hS hA (N' := 40) (a0 := (40, .inl (fun _ => 0))) (fun _ => rfl) (by decide) (by decide +kernel) (Nat.le_of_ble_eq_true rfl) (Nat.le_of_ble_eq_true rfl) (Nat.le_of_ble_eq_true rfl) dX5_init_15 (fun q2 cA H hK2 hP hD hS => ?_)
  rw [ct_eqI hK hK2] at hP hD
  have hP : va_P D vwCl [(h0, .inr (5, [.ref q1, .int 0, .null, .int 0, .null, .int 0, .int 0, .int 0, .int 0])), (q1, .inl (cI, 40, .inl (fun _ => 0))), (q2, .inl (cI, 40, .inl (fun _ => 0)))] H := hP
  have hD : va_D A [(h0, .inr (5, [.ref q1, .int 0, .null, .int 0, .null, .int 0, .int 0, .int 0, .int 0])), (q1, .inl (cI, 40, .inl (fun _ => 0))), (q2, .inl (cI, 40, .inl (fun _ => 0)))] := hD
  refine va_putF (D := D) (ci := 5) (v := .ref q2) (ty := .array .int) (C := clsN 5) (T := clsT 5) (N := clsK 5) hx hb hts (uws_ok (c := 5) (by decide)) (clsTy 5) (cty_ok 5 (by decide)) (cnm_ok 5 (by decide)) hown hK hP hD hS 0 rfl (ccl_ok 5 (by decide)) 2 (by decide) (hts _ (tb_1 (i := 135) rfl rfl)) (fun _ h9 => h9) rfl hin rfl (by decide +kernel) rfl rfl (Nat.le_of_ble_eq_true rfl) dX5_init_17 (fun H locs hP hD hS => ?_)
  have hP : va_P D vwCl [(h0, .inr (5, [.ref q1, .int 0, .ref q2, .int 0, .null, .int 0, .int 0, .int 0, .int 0])), (q1, .inl (cI, 40, .inl (fun _ => 0))), (q2, .inl (cI, 40, .inl (fun _ => 0)))] H := hP
  have hD : va_D A [(h0, .inr (5, [.ref q1, .int 0, .ref q2, .int 0, .null, .int 0, .int 0, .int 0, .int 0])), (q1, .inl (cI, 40, .inl (fun _ => 0))), (q2, .inl (cI, 40, .inl (fun _ => 0)))] := hD
  refine lv_aload_n hx hb dX5_init_20 rfl (lv_at hl 0 rfl) ?_
  refine lv_bipush (v := 40) hx hb dX5_init_21 (by decide) ?_
  refine va_newa (atype := .long) hx hb (hts _ w_a_long) rfl hK hP hD hS hA (N' := 40) (a0 := (40, .inr (.inl (fun _ => 0)))) (fun _ => rfl) (by decide) (by decide +kernel) (Nat.le_of_ble_eq_true rfl) (Nat.le_of_ble_eq_true rfl) (Nat.le_of_ble_eq_true rfl) dX5_init_23 (fun q3 cA H hK2 hP hD hS => ?_)
  rw [ct_eqL hK hK2] at hP hD
  have hP : va_P D vwCl [(h0, .inr (5, [.ref q1, .int 0, .ref q2, .int 0, .null, .int 0, .int 0, .int 0, .int 0])), (q1, .inl (cI, 40, .inl (fun _ => 0))), (q2, .inl (cI, 40, .inl (fun _ => 0))), (q3, .inl (cL, 40, .inr (.inl (fun _ => 0))))] H := hP
  have hD : va_D A [(h0, .inr (5, [.ref q1, .int 0, .ref q2, .int 0, .null, .int 0, .int 0, .int 0, .int 0])), (q1, .inl (cI, 40, .inl (fun _ => 0))), (q2, .inl (cI, 40, .inl (fun _ => 0))), (q3, .inl (cL, 40, .inr (.inl (fun _ => 0))))] := hD
  refine va_putF (D := D) (ci := 5) (v := .ref q3) (ty := .array .long) (C := clsN 5) (T := clsT 5) (N := clsK 5) hx hb hts (uws_ok (c := 5) (by decide)) (clsTy 5) (cty_ok 5 (by decide)) (cnm_ok 5 (by decide)) hown hK hP hD hS 0 rfl (ccl_ok 5 (by decide)) 4 (by decide) (hts _ (tb_1 (i := 137) rfl rfl)) (fun _ h9 => h9) rfl hin rfl (by decide +kernel) rfl rfl (Nat.le_of_ble_eq_true rfl) dX5_init_25 (fun H locs hP hD hS => ?_)
  have hP : va_P D vwCl [(h0, .inr (5, [.ref q1, .int 0, .ref q2, .int 0, .ref q3, .int 0, .int 0, .int 0, .int 0])), (q1, .inl (cI, 40, .inl (fun _ => 0))), (q2, .inl (cI, 40, .inl (fun _ => 0))), (q3, .inl (cL, 40, .inr (.inl (fun _ => 0))))] H := hP
  have hD : va_D A [(h0, .inr (5, [.ref q1, .int 0, .ref q2, .int 0, .ref q3, .int 0, .int 0, .int 0, .int 0])), (q1, .inl (cI, 40, .inl (fun _ => 0))), (q2, .inl (cI, 40, .inl (fun _ => 0))), (q3, .inl (cL, 40, .inr (.inl (fun _ => 0))))] := hD
  have hP9 := hP.sub (ws' := [(h0, .inr (5, [.ref q1, .int 0, .ref q2, .int 0, .ref q3, .int 0, .int 0, .int 0, .int 0])), (q1, .inl (cI, 40, .inl (fun _ => 0))), (q2, .inl (cI, 40, .inl (fun _ => 0))), (q3, .inl (cL, 40, .inr (.inl (fun _ => 0))))]) [0, 1, 2, 3] rfl
  have hD9 := hD.sub (ws' := [(h0, .inr (5, [.ref q1, .int 0, .ref q2, .int 0, .ref q3, .int 0, .int 0, .int 0, .int 0])), (q1, .inl (cI, 40, .inl (fun _ => 0))), (q2, .inl (cI, 40, .inl (fun _ => 0))), (q3, .inl (cL, 40, .inr (.inl (fun _ => 0))))]) [0, 1, 2, 3] (by decide) rfl
  refine W.widen (k := 3) (n := 120) (Nat.le_of_ble_eq_true rfl) (Nat.le_of_ble_eq_true rfl) ?_
  refine W.vret hx hb hr (fun t ht hW => ⟨⟨(), rfl, trivial, q1, q2, q3, by rw [ht]; exact hP9, hD9⟩, hS.F ht⟩) hS.2.2 dX5_init_28

theorem dX6_init_0 : decode cX6_init 0 = .ok (.aload_n 0, 1) := by decide +kernel
theorem dX6_init_1 : decode cX6_init 1 = .ok (.invokespecial 3, 3) := by decide +kernel
theorem dX6_init_4 : decode cX6_init 4 = .ok (.aload_n 0, 1) := by decide +kernel
theorem dX6_init_5 : decode cX6_init 5 = .ok (.ldc 11, 2) := by decide +kernel
theorem dX6_init_7 : decode cX6_init 7 = .ok (.newarray .int, 2) := by decide +kernel
theorem dX6_init_9 : decode cX6_init 9 = .ok (.putfield 12, 3) := by decide +kernel
theorem dX6_init_12 : decode cX6_init 12 = .ok (.aload_n 0, 1) := by decide +kernel
theorem dX6_init_13 : decode cX6_init 13 = .ok (.ldc 11, 2) := by decide +kernel
theorem dX6_init_15 : decode cX6_init 15 = .ok (.newarray .int, 2) := by decide +kernel
theorem dX6_init_17 : decode cX6_init 17 = .ok (.putfield 18, 3) := by decide +kernel
theorem dX6_init_20 : decode cX6_init 20 = .ok (.aload_n 0, 1) := by decide +kernel
theorem dX6_init_21 : decode cX6_init 21 = .ok (.ldc 11, 2) := by decide +kernel
theorem dX6_init_23 : decode cX6_init 23 = .ok (.newarray .int, 2) := by decide +kernel
theorem dX6_init_25 : decode cX6_init 25 = .ok (.putfield 21, 3) := by decide +kernel
theorem dX6_init_28 : decode cX6_init 28 = .ok (.aload_n 0, 1) := by decide +kernel
theorem dX6_init_29 : decode cX6_init 29 = .ok (.bipush 64, 2) := by decide +kernel
theorem dX6_init_31 : decode cX6_init 31 = .ok (.newarray .int, 2) := by decide +kernel
theorem dX6_init_33 : decode cX6_init 33 = .ok (.putfield 24, 3) := by decide +kernel
theorem dX6_init_36 : decode cX6_init 36 = .ok (.aload_n 0, 1) := by decide +kernel
theorem dX6_init_37 : decode cX6_init 37 = .ok (.bipush (-9), 2) := by decide +kernel
theorem dX6_init_39 : decode cX6_init 39 = .ok (.putfield 27, 3) := by decide +kernel
theorem dX6_init_42 : decode cX6_init 42 = .ok (.aload_n 0, 1) := by decide +kernel
theorem dX6_init_43 : decode cX6_init 43 = .ok (.iconst 2, 1) := by decide +kernel
theorem dX6_init_44 : decode cX6_init 44 = .ok (.newarray .int, 2) := by decide +kernel
theorem dX6_init_46 : decode cX6_init 46 = .ok (.dup, 1) := by decide +kernel
theorem dX6_init_47 : decode cX6_init 47 = .ok (.iconst 0, 1) := by decide +kernel
theorem dX6_init_48 : decode cX6_init 48 = .ok (.bipush (-9), 2) := by decide +kernel
theorem dX6_init_50 : decode cX6_init 50 = .ok (.iastore, 1) := by decide +kernel
theorem dX6_init_51 : decode cX6_init 51 = .ok (.dup, 1) := by decide +kernel
theorem dX6_init_52 : decode cX6_init 52 = .ok (.iconst 1, 1) := by decide +kernel
theorem dX6_init_53 : decode cX6_init 53 = .ok (.bipush (-9), 2) := by decide +kernel
theorem dX6_init_55 : decode cX6_init 55 = .ok (.iastore, 1) := by decide +kernel
theorem dX6_init_56 : decode cX6_init 56 = .ok (.putfield 31, 3) := by decide +kernel
theorem dX6_init_59 : decode cX6_init 59 = .ok (.aload_n 0, 1) := by decide +kernel
theorem dX6_init_60 : decode cX6_init 60 = .ok (.iconst 3, 1) := by decide +kernel
theorem dX6_init_61 : decode cX6_init 61 = .ok (.newarray .int, 2) := by decide +kernel
theorem dX6_init_63 : decode cX6_init 63 = .ok (.dup, 1) := by decide +kernel
theorem dX6_init_64 : decode cX6_init 64 = .ok (.iconst 0, 1) := by decide +kernel
theorem dX6_init_65 : decode cX6_init 65 = .ok (.bipush (-9), 2) := by decide +kernel
theorem dX6_init_67 : decode cX6_init 67 = .ok (.iastore, 1) := by decide +kernel
theorem dX6_init_68 : decode cX6_init 68 = .ok (.dup, 1) := by decide +kernel
theorem dX6_init_69 : decode cX6_init 69 = .ok (.iconst 1, 1) := by decide +kernel
theorem dX6_init_70 : decode cX6_init 70 = .ok (.bipush (-9), 2) := by decide +kernel
theorem dX6_init_72 : decode cX6_init 72 = .ok (.iastore, 1) := by decide +kernel
theorem dX6_init_73 : decode cX6_init 73 = .ok (.dup, 1) := by decide +kernel
theorem dX6_init_74 : decode cX6_init 74 = .ok (.iconst 2, 1) := by decide +kernel
theorem dX6_init_75 : decode cX6_init 75 = .ok (.bipush (-9), 2) := by decide +kernel
theorem dX6_init_77 : decode cX6_init 77 = .ok (.iastore, 1) := by decide +kernel
theorem dX6_init_78 : decode cX6_init 78 = .ok (.putfield 34, 3) := by decide +kernel
theorem dX6_init_81 : decode cX6_init 81 = .ok (.return_, 1) := by decide +kernel
set_option maxRecDepth 100000 in
theorem wc_6 : Cond.code yX6_init cX6_init 1 none ∈ TBL := tb_1 (i := 180) rfl rfl
set_option maxRecDepth 100000 in
theorem wi_6 : Cond.initialized RX6 ∈ TBL := tb_1 (i := 7) rfl rfl
set_option maxRecDepth 100000 in
theorem wm_6 : Cond.instanceMethod yX6_init ∈ TBL := tb_1 (i := 179) rfl rfl
set_option maxHeartbeats 4000000 in
set_option maxRecDepth 100000 in
theorem ct_6 (l : Launch) (D : va_G) (cI cL cZ : ClassId) (h0 sz : Nat) : Met l yX6_init (wsC yX6_init cX6_init 1) (rmC 1 6 393285) (va_Pc [.ref h0] (fun U => U.heap.size = sz ∧ va_P D vwCl [(h0, .inr (6, [.null, .null, .null, .null, .int 0, .int 0, .int 0, .int 0, .int 0, .int 0, .int 0, .null, .null]))] U.heap ∧ va_K D vwCl (tysG cI cL cZ) U ∧ va_D (fun _ => True) [(h0, .inr (6, [.null, .null, .null, .null, .int 0, .int 0, .int 0, .int 0, .int 0, .int 0, .int 0, .null, .null]))])) (va_Qv (fun _ : Unit => True) (fun _ t => ∃ q1 q2 q3 q4 q5 q6, va_P D vwCl [(h0, .inr (6, [.ref q1, .ref q2, .ref q3, .ref q4, .int 0, .int 0, .int 0, .int 0, .int 0, .int 0, .int (-9), .ref q5, .ref q6])), (q1, .inl (cI, 131072, .inl (fun _ => 0))), (q2, .inl (cI, 131072, .inl (fun _ => 0))), (q3, .inl (cI, 131072, .inl (fun _ => 0))), (q4, .inl (cI, 64, .inl (fun _ => 0))), (q5, .inl (cI, 2, .inl (upd (upd (fun _ => 0) 0 (-9)) 1 (-9)))), (q6, .inl (cI, 3, .inl (upd (upd (upd (fun _ => 0) 0 (-9)) 1 (-9)) 2 (-9))))] t.heap ∧ va_D (va_A [(h0, .inr (6, [.null, .null, .null, .null, .int 0, .int 0, .int 0, .int 0, .int 0, .int 0, .int 0, .null, .null]))] sz) [(h0, .inr (6, [.ref q1, .ref q2, .ref q3, .ref q4, .int 0, .int 0, .int 0, .int 0, .int 0, .int 0, .int (-9), .ref q5, .ref q6])), (q1, .inl (cI, 131072, .inl (fun _ => 0))), (q2, .inl (cI, 131072, .inl (fun _ => 0))), (q3, .inl (cI, 131072, .inl (fun _ => 0))), (q4, .inl (cI, 64, .inl (fun _ => 0))), (q5, .inl (cI, 2, .inl (upd (upd (fun _ => 0) 0 (-9)) 1 (-9)))), (q6, .inl (cI, 3, .inl (upd (upd (upd (fun _ => 0) 0 (-9)) 1 (-9)) 2 (-9))))]) (va_A [(h0, .inr (6, [.null, .null, .null, .null, .int 0, .int 0, .int 0, .int 0, .int 0, .int 0, .int 0, .null, .null]))] sz)) 6 393285 (va_A [(h0, .inr (6, [.null, .null, .null, .null, .int 0, .int 0, .int 0, .int 0, .int 0, .int 0, .int 0, .null, .null]))] sz) := by
  refine Met.ofW (cc := cX6_init) (maxL := 1) (ret := none) (by decide) rfl ?_
  intro p e s m args below meth c s₁ B hml hv
  obtain ⟨rfl, hsz, hP, hK, hD0⟩ := hv
  have hx := B.exec
  have hb := B.bytes
  have hr := B.returns
  have hts0 := atoms_spec (ws := wsC yX6_init cX6_init 1) B.pre
  have hts : ∀ w ∈ TBL, w.before _ s = true := fun w hw => hts0 w (List.mem_cons_of_mem _ hw)
  have hown : s.vm.findClass RX6 = some m.cls := findClass_of_methodNamed B.named
  have hlocks := B.notSynchronized
  have hin : meth.name = "<init>" := (name_of_methodNamed B.named B.method).1
  subst hsz
  have hD := hD0.self (sz := s.heap.size)
  generalize hAe : va_A [(h0, .inr (6, [.null, .null, .null, .null, .int 0, .int 0, .int 0, .int 0, .int 0, .int 0, .int 0, .null, .null]))] s.heap.size = A at hD ⊢
  have hA : ∀ q : Nat, s.heap.size ≤ q → A q := fun q h => by rw [← hAe]; exact Or.inr h
  have hS : va_S A s.heap s.heap [] := va_S.rf
  have hP : va_P D vwCl [(h0, .inr (6, [.null, .null, .null, .null, .int 0, .int 0, .int 0, .int 0, .int 0, .int 0, .int 0, .null, .null]))] s.heap := hP
  have hl := lv_entry ([.ref h0]) (n := 1) (Nat.le_of_ble_eq_true rfl)
  rw [lg_entry_eq]
  generalize (lg_sl ([.ref h0]) ++ List.replicate (1 - (lg_sl ([.ref h0])).length) Slot.unset).toArray = ls at hl ⊢
  have hl : lv_has ls 1 [(0, .ref h0)] := hl
  refine lv_aload_n hx hb dX6_init_0 rfl (lv_at hl 0 rfl) ?_
  refine W.objInit hx hb hown (hts _ (tb_1 (i := 181) rfl rfl)) (hts _ w_oi) (hts _ w_oc) rfl (by rw [hml]; exact hl.1) rfl dX6_init_1 (Nat.le_of_ble_eq_true rfl) (Nat.le_of_ble_eq_true rfl) ?_
  refine W.eq (g2 := F0 m 4 ls []) rfl ?_
  refine lv_aload_n hx hb dX6_init_4 rfl (lv_at hl 0 rfl) ?_
  refine lv_ldc (v := 131072) hx hb hown (hts _ (tb_1 (i := 182) rfl rfl)) dX6_init_5 ?_
  refine va_newa (atype := .int) hx hb (hts _ w_a_int) rfl hK hP hD hS hA (N' := 131072) (a0 := (131072, .inl (fun _ => 0))) (fun _ => rfl) (by decide) (by decide +kernel) (Nat.le_of_ble_eq_true rfl) (Nat.le_of_ble_eq_true rfl) (Nat.le_of_ble_eq_true rfl) dX6_init_7 (fun q1 cA H hK2 hP hD hS => ?_)
  rw [ct_eqI hK hK2] at hP hD
  have hP : va_P D vwCl [(h0, .inr (6, [.null, .null, .null, .null, .int 0, .int 0, .int 0, .int 0, .int 0, .int 0, .int 0, .null, .null])), (q1, .inl (cI, 131072, .inl (fun _ => 0)))] H := hP
  have hD : va_D A [(h0, .inr (6, [.null, .null, .null, .null, .int 0, .int 0, .int 0, .int 0, .int 0, .int 0, .int 0, .null, .null])), (q1, .inl (cI, 131072, .inl (fun _ => 0)))] := hD
  refine va_putF (D := D) (ci := 6) (v := .ref q1) (ty := .array .int) (C := clsN 6) (T := clsT 6) (N := clsK 6) hx hb hts (uws_ok (c := 6) (by decide)) (clsTy 6) (cty_ok 6 (by decide)) (cnm_ok 6 (by decide)) hown hK hP hD hS 0 rfl (ccl_ok 6 (by decide)) 0 (by decide) (hts _ (tb_1 (i := 183) rfl rfl)) (fun _ h9 => h9) rfl hin rfl (by decide +kernel) rfl rfl (Nat.le_of_ble_eq_true rfl) dX6_init_9 (fun H locs hP hD hS => ?_)
  have hP : va_P D vwCl [(h0, .inr (6, [.ref q1, .null, .null, .null, .int 0, .int 0, .int 0, .int 0, .int 0, .int 0, .int 0, .null, .null])), (q1, .inl (cI, 131072, .inl (fun _ => 0)))] H := hP
  have hD : va_D A [(h0, .inr (6, [.ref q1, .null, .null, .null, .int 0, .int 0, .int 0, .int 0, .int 0, .int 0, .int 0, .null, .null])), (q1, .inl (cI, 131072, .inl (fun _ => 0)))] := hD
  refine lv_aload_n hx hb dX6_init_12 rfl (lv_at hl 0 rfl) ?_
  refine lv_ldc (v := 131072) hx hb hown (hts _ (tb_1 (i := 182) rfl rfl)) dX6_init_13 ?_
  refine va_newa (atype := .int) hx hb (hts _ w_a_int) rfl hK hP hD hS hA (N' := 131072) (a0 := (131072, .inl (fun _ => 0))) (fun _ => rfl) (by decide) (by decide +kernel) (Nat.le_of_ble_eq_true rfl) (Nat.le_of_ble_eq_true rfl) (Nat.le_of_ble_eq_true rfl) dX6_init_15 (fun q2 cA H hK2 hP hD hS => ?_)
  rw [ct_eqI hK hK2] at hP hD
  have hP : va_P D vwCl [(h0, .inr (6, [.ref q1, .null, .null, .null, .int 0, .int 0, .int 0, .int 0, .int 0, .int 0, .int 0, .null, .null])), (q1, .inl (cI, 131072, .inl (fun _ => 0))), (q2, .inl (cI, 131072, .inl (fun _ => 0)))] H := hP
  have hD : va_D A [(h0, .inr (6, [.ref q1, .null, .null, .null, .int 0, .int 0, .int 0, .int 0, .int 0, .int 0, .int 0, .null, .null])), (q1, .inl (cI, 131072, .inl (fun _ => 0))), (q2, .inl (cI, 131072, .inl (fun _ => 0)))] := hD
  refine va_putF (D := D) (ci := 6) (v := .ref q2) (ty := .array .int) (C := clsN 6) (T := clsT 6) (N := clsK 6) hx hb hts (uws_ok (c := 6) (by decide)) (clsTy 6) (cty_ok 6 (by decide)) (cnm_ok 6 (by decide)) hown hK hP hD hS 0 rfl (ccl_ok 6 (by decide)) 1 (by decide) (hts _ (tb_1 (i := 184) rfl rfl)) (fun _ h9 => h9) rfl hin rfl (by decide +kernel) rfl rfl (Nat.le_of_ble_eq_true rfl) dX6_init_17 (fun H locs hP hD hS => ?_)
  have hP : va_P D vwCl [(h0, .inr (6, [.ref q1, .ref q2, .null, .null, .int 0, .int 0, .int 0, .int 0, .int 0, .int 0, .int 0, .null, .null])), (q1, .inl (cI, 131072, .inl (fun _ => 0))), (q2, .inl (cI, 131072, .inl (fun _ => 0)))] H := hP
  have hD : va_D A [(h0, .inr (6, [.ref q1, .ref q2, .null, .null, .int 0, .int 0, .int 0, .int 0, .int 0, .int 0, .int 0, .null, .null])), (q1, .inl (cI, 131072, .inl (fun _ => 0))), (q2, .inl (cI, 131072, .inl (fun _ => 0)))] := hD
  refine lv_aload_n hx hb dX6_init_20 rfl (lv_at hl 0 rfl) ?_
  refine lv_ldc (v := 131072) hx hb hown (hts _ (tb_1 (i := 182) rfl rfl)) dX6_init_21 ?_
  refine va_newa (atype := .int) hx hb (hts _ w_a_int) rfl hK hP hD hS hA (N' := 131072) (a0 := (131072, .inl (fun _ => 0))) (fun _ => rfl) (by decide) (by decide +kernel) (Nat.le_of_ble_eq_true rfl) (Nat.le_of_ble_eq_true rfl) (Nat.le_of_ble_eq_true rfl) dX6_init_23 (fun q3 cA H hK2 hP hD hS => ?_)
  rw [ct_eqI hK hK2] at hP hD
  have hP : va_P D vwCl [(h0, .inr (6, [.ref q1, .ref q2, .null, .null, .int 0, .int 0, .int 0, .int 0, .int 0, .int 0, .int 0, .null, .null])), (q1, .inl (cI, 131072, .inl (fun _ => 0))), (q2, .inl (cI, 131072, .inl (fun _ => 0))), (q3, .inl (cI, 131072, .inl (fun _ => 0)))] H := hP
  have hD : va_D A [(h0, .inr (6, [.ref q1, .ref q2, .null, .null, .int 0, .int 0, .int 0, .int 0, .int 0, .int 0, .int 0, .null, .null])), (q1, .inl (cI, 131072, .inl (fun _ => 0))), (q2, .inl (cI, 131072, .inl (fun _ => 0))), (q3, .inl (cI, 131072, .inl (fun _ => 0)))] := hD
  refine va_putF (D := D) (ci := 6) (v := .ref q3) (ty := .array .int) (C := clsN 6) (T := clsT 6) (N := clsK 6) hx hb hts (uws_ok (c := 6) (by decide)) (clsTy 6) (cty_ok 6 (by decide)) (cnm_ok 6 (by decide)) hown hK hP hD hS 0 rfl (ccl_ok 6 (by decide)) 2 (by decide) (hts _ (tb_1 (i := 185) rfl rfl)) (fun _ h9 => h9) rfl hin rfl (by decide +kernel) rfl rfl (Nat.le_of_ble_eq_true rfl) dX6_init_25 (fun H locs hP hD hS => ?_)
  have hP : va_P D vwCl [(h0, .inr (6, [.ref q1, .ref q2, .ref q3, .null, .int 0, .int 0, .int 0, .int 0, .int 0, .int 0, .int 0, .null, .null])), (q1, .inl (cI, 131072, .inl (fun _ => 0))), (q2, .inl (cI, 131072, .inl (fun _ => 0))), (q3, .inl (cI, 131072, .inl (fun _ => 0)))] H := hP
  have hD : va_D A [(h0, .inr (6, [.ref q1, .ref q2, .ref q3, .null, .int 0, .int 0, .int 0, .int 0, .int 0, .int 0, .int 0, .null, .null])), (q1, .inl (cI, 131072, .inl (fun _ => 0))), (q2, .inl (cI, 131072, .inl (fun _ => 0))), (q3, .inl (cI, 131072, .inl (fun _ => 0)))] := hD
  refine lv_aload_n hx hb dX6_init_28 rfl (lv_at hl 0 rfl) ?_
  refine lv_bipush (v := 64) hx hb dX6_init_29 (by decide) ?_
  refine va_newa (atype := .int) hx hb (hts _ w_a_int) rfl hK hP hD hS hA (N' := 64) (a0 := (64, .inl (fun _ => 0))) (fun _ => rfl) (by decide) (by decide +kernel) (Nat.le_of_ble_eq_true rfl) (Nat.le_of_ble_eq_true rfl) (Nat.le_of_ble_eq_true rfl) dX6_init_31 (fun q4 cA H hK2 hP hD hS => ?_)
  rw [ct_eqI hK hK2] at hP hD
  have hP : va_P D vwCl [(h0, .inr (6, [.ref q1, .ref q2, .ref q3, .null, .int 0, .int 0, .int 0, .int 0, .int 0, .int 0, .int 0, .null, .null])), (q1, .inl (cI, 131072, .inl (fun _ => 0))), (q2, .inl (cI, 131072, .inl (fun _ => 0))), (q3, .inl (cI, 131072, .inl (fun _ => 0))), (q4, .inl (cI, 64, .inl (fun _ => 0)))] H := hP
  have hD : va_D A [(h0, .inr (6, [.ref q1, .ref q2, .ref q3, .null, .int 0, .int 0, .int 0, .int 0, .int 0, .int 0, .int 0, .null, .null])), (q1, .inl (cI, 131072, .inl (fun _ => 0))), (q2, .inl (cI, 131072, .inl (fun _ => 0))), (q3, .inl (cI, 131072, .inl (fun _ => 0))), (q4, .inl (cI, 64, .inl (fun _ => 0)))] := hD
  refine va_putF (D := D) (ci := 6) (v := .ref q4) (ty := .array .int) (C := clsN 6) (T := clsT 6) (N := clsK 6) hx hb hts (uws_ok (c := 6) (by decide)) (clsTy 6) (cty_ok 6 (by decide)) (cnm_ok 6 (by decide)) hown hK hP hD hS 0 rfl (ccl_ok 6 (by decide)) 3 (by decide) (hts _ (tb_1 (i := 186) rfl rfl)) (fun _ h9 => h9) rfl hin rfl (by decide +kernel) rfl rfl (Nat.le_of_ble_eq_true rfl) dX6_init_33 (fun H locs hP hD hS => ?_)
  have hP : va_P D vwCl [(h0, .inr (6, [.ref q1, .ref q2, .ref q3, .ref q4, .int 0, .int 0, .int 0, .int 0, .int 0, .int 0, .int 0, .null, .null])), (q1, .inl (cI, 131072, .inl (fun _ => 0))), (q2, .inl (cI, 131072, .inl (fun _ => 0))), (q3, .inl (cI, 131072, .inl (fun _ => 0))), (q4, .inl (cI, 64, .inl (fun _ => 0)))] H := hP
  have hD : va_D A [(h0, .inr (6, [.ref q1, .ref q2, .ref q3, .ref q4, .int 0, .int 0, .int 0, .int 0, .int 0, .int 0, .int 0, .null, .null])), (q1, .inl (cI, 131072, .inl (fun _ => 0))), (q2, .inl (cI, 131072, .inl (fun _ => 0))), (q3, .inl (cI, 131072, .inl (fun _ => 0))), (q4, .inl (cI, 64, .inl (fun _ => 0)))] := hD
  refine lv_aload_n hx hb dX6_init_36 rfl (lv_at hl 0 rfl) ?_
  refine lv_bipush (v := -9) hx hb dX6_init_37 (by decide) ?_
  refine va_put (D := D) (ci := 6) (v := .int (-9)) (ty := .int) (C := clsN 6) (T := clsT 6) (N := clsK 6) hx hb hts (uws_ok (c := 6) (by decide)) (clsTy 6) (cty_ok 6 (by decide)) (cnm_ok 6 (by decide)) hown hK hP hD hS 0 rfl (ccl_ok 6 (by decide)) 10 (by decide) (hts _ (tb_1 (i := 193) rfl rfl)) (fun _ h9 => h9) rfl (by decide +kernel) rfl rfl (Nat.le_of_ble_eq_true rfl) dX6_init_39 (fun H locs hP hD hS => ?_)
  have hP : va_P D vwCl [(h0, .inr (6, [.ref q1, .ref q2, .ref q3, .ref q4, .int 0, .int 0, .int 0, .int 0, .int 0, .int 0, .int (-9), .null, .null])), (q1, .inl (cI, 131072, .inl (fun _ => 0))), (q2, .inl (cI, 131072, .inl (fun _ => 0))), (q3, .inl (cI, 131072, .inl (fun _ => 0))), (q4, .inl (cI, 64, .inl (fun _ => 0)))] H := hP
  have hD : va_D A [(h0, .inr (6, [.ref q1, .ref q2, .ref q3, .ref q4, .int 0, .int 0, .int 0, .int 0, .int 0, .int 0, .int (-9), .null, .null])), (q1, .inl (cI, 131072, .inl (fun _ => 0))), (q2, .inl (cI, 131072, .inl (fun _ => 0))), (q3, .inl (cI, 131072, .inl (fun _ => 0))), (q4, .inl (cI, 64, .inl (fun _ => 0)))] := hD
  refine lv_aload_n hx hb dX6_init_42 rfl (lv_at hl 0 rfl) ?_
  refine lv_iconst (v := 2) hx hb dX6_init_43 (by decide) ?_
  refine va_newa (atype := .int) hx hb (hts _ w_a_int) rfl hK hP hD hS hA (N' := 2) (a0 := (2, .inl (fun _ => 0))) (fun _ => rfl) (by decide) (by decide +kernel) (Nat.le_of_ble_eq_true rfl) (Nat.le_of_ble_eq_true rfl) (Nat.le_of_ble_eq_true rfl) dX6_init_44 (fun q5 cA H hK2 hP hD hS => ?_)
  rw [ct_eqI hK hK2] at hP hD
  have hP : va_P D vwCl [(h0, .inr (6, [.ref q1, .ref q2, .ref q3, .ref q4, .int 0, .int 0, .int 0, .int 0, .int 0, .int 0, .int (-9), .null, .null])), (q1, .inl (cI, 131072, .inl (fun _ => 0))), (q2, .inl (cI, 131072, .inl (fun _ => 0))), (q3, .inl (cI, 131072, .inl (fun _ => 0))), (q4, .inl (cI, 64, .inl (fun _ => 0))), (q5, .inl (cI, 2, .inl (fun _ => 0)))] H := hP
  have hD : va_D A [(h0, .inr (6, [.ref q1, .ref q2, .ref q3, .ref q4, .int 0, .int 0, .int 0, .int 0, .int 0, .int 0, .int (-9), .null, .null])), (q1, .inl (cI, 131072, .inl (fun _ => 0))), (q2, .inl (cI, 131072, .inl (fun _ => 0))), (q3, .inl (cI, 131072, .inl (fun _ => 0))), (q4, .inl (cI, 64, .inl (fun _ => 0))), (q5, .inl (cI, 2, .inl (fun _ => 0)))] := hD
  refine lv_dup hx hb dX6_init_46 rfl ?_
  refine lv_iconst (v := 0) hx hb dX6_init_47 (by decide) ?_
  refine lv_bipush (v := -9) hx hb dX6_init_48 (by decide) ?_
  refine va_iast hx hb hK hP hD hS 5 0 rfl rfl (show vp_in 0 2 by unfold vp_in; decide +kernel) dX6_init_50 (fun H locs hP hD hS => ?_)
  have hP : va_P D vwCl [(h0, .inr (6, [.ref q1, .ref q2, .ref q3, .ref q4, .int 0, .int 0, .int 0, .int 0, .int 0, .int 0, .int (-9), .null, .null])), (q1, .inl (cI, 131072, .inl (fun _ => 0))), (q2, .inl (cI, 131072, .inl (fun _ => 0))), (q3, .inl (cI, 131072, .inl (fun _ => 0))), (q4, .inl (cI, 64, .inl (fun _ => 0))), (q5, .inl (cI, 2, .inl (upd (fun _ => 0) 0 (-9))))] H := hP
  have hD : va_D A [(h0, .inr (6, [.ref q1, .ref q2, .ref q3, .ref q4, .int 0, .int 0, .int 0, .int 0, .int 0, .int 0, .int (-9), .null, .null])), (q1, .inl (cI, 131072, .inl (fun _ => 0))), (q2, .inl (cI, 131072, .inl (fun _ => 0))), (q3, .inl (cI, 131072, .inl (fun _ => 0))), (q4, .inl (cI, 64, .inl (fun _ => 0))), (q5, .inl (cI, 2, .inl (upd (fun _ => 0) 0 (-9))))] := hD
  refine lv_dup hx hb dX6_init_51 rfl ?_
  refine lv_iconst (v := 1) hx hb dX6_init_52 (by decide) ?_
  refine lv_bipush (v := -9) hx hb dX6_init_53 (by decide) ?_
  refine va_iast hx hb hK hP hD hS 5 0 rfl rfl (show vp_in 1 2 by unfold vp_in; decide +kernel) dX6_init_55 (fun H locs hP hD hS => ?_)
  have hP : va_P D vwCl [(h0, .inr (6, [.ref q1, .ref q2, .ref q3, .ref q4, .int 0, .int 0, .int 0, .int 0, .int 0, .int 0, .int (-9), .null, .null])), (q1, .inl (cI, 131072, .inl (fun _ => 0))), (q2, .inl (cI, 131072, .inl (fun _ => 0))), (q3, .inl (cI, 131072, .inl (fun _ => 0))), (q4, .inl (cI, 64, .inl (fun _ => 0))), (q5, .inl (cI, 2, .inl (upd (upd (fun _ => 0) 0 (-9)) 1 (-9))))] H := hP
  have hD : va_D A [(h0, .inr (6, [.ref q1, .ref q2, .ref q3, .ref q4, .int 0, .int 0, .int 0, .int 0, .int 0, .int 0, .int (-9), .null, .null])), (q1, .inl (cI, 131072, .inl (fun _ => 0))), (q2, .inl (cI, 131072, .inl (fun _ => 0))), (q3, .inl (cI, 131072, .inl (fun _ => 0))), (q4, .inl (cI, 64, .inl (fun _ => 0))), (q5, .inl (cI, 2, .inl (upd (upd (fun _ => 0) 0 (-9)) 1 (-9))))] := hD
  refine va_putF (D := D) (ci := 6) (v := .ref q5) (ty := .array .int) (C := clsN 6) (T := clsT 6) (N := clsK 6) hx hb hts (uws_ok (c := 6) (by decide)) (clsTy 6) (cty_ok 6 (by decide)) (cnm_ok 6 (by decide)) hown hK hP hD hS 0 rfl (ccl_ok 6 (by decide)) 11 (by decide) (hts _ (tb_1 (i := 194) rfl rfl)) (fun _ h9 => h9) rfl hin rfl (by decide +kernel) rfl rfl (Nat.le_of_ble_eq_true rfl) dX6_init_56 (fun H locs hP hD hS => ?_)
  have hP : va_P D vwCl [(h0, .inr (6, [.ref q1, .ref q2, .ref q3, .ref q4, .int 0, .int 0, .int 0, .int 0, .int 0, .int 0, .int (-9), .ref q5, .null])), (q1, .inl (cI, 131072, .inl (fun _ => 0))), (q2, .inl (cI, 131072, .inl (fun _ => 0))), (q3, .inl (cI, 131072, .inl (fun _ => 0))), (q4, .inl (cI, 64, .inl (fun _ => 0))), (q5, .inl (cI, 2, .inl (upd (upd (fun _ => 0) 0 (-9)) 1 (-9))))] H := hP
  have hD : va_D A [(h0, .inr (6, [.ref q1, .ref q2, .ref q3, .ref q4, .int 0, .int 0, .int 0, .int 0, .int 0, .int 0, .int (-9), .ref q5, .null])), (q1, .inl (cI, 131072, .inl (fun _ => 0))), (q2, .inl (cI, 131072, .inl (fun _ => 0))), (q3, .inl (cI, 131072, .inl (fun _ => 0))), (q4, .inl (cI, 64, .inl (fun _ => 0))), (q5, .inl (cI, 2, .inl (upd (upd (fun _ => 0) 0 (-9)) 1 (-9))))] := hD
  refine lv_aload_n hx hb dX6_init_59 rfl (lv_at hl 0 rfl) ?_
  refine lv_iconst (v := 3) hx hb dX6_init_60 (by decide) ?_
  refine va_newa (atype := .int) hx hb (hts _ w_a_int) rfl hK hP hD hS hA (N' := 3) (a0 := (3, .inl (fun _ => 0))) (fun _ => rfl) (by decide) (by decide +kernel) (Nat.le_of_ble_eq_true rfl) (Nat.le_of_ble_eq_true rfl) (Nat.le_of_ble_eq_true rfl) dX6_init_61 (fun q6 cA H hK2 hP hD hS => ?_)
  rw [ct_eqI hK hK2] at hP hD
  have hP : va_P D vwCl [(h0, .inr (6, [.ref q1, .ref q2, .ref q3, .ref q4, .int 0, .int 0, .int 0, .int 0, .int 0, .int 0, .int (-9), .ref q5, .null])), (q1, .inl (cI, 131072, .inl (fun _ => 0))), (q2, .inl (cI, 131072, .inl (fun _ => 0))), (q3, .inl (cI, 131072, .inl (fun _ => 0))), (q4, .inl (cI, 64, .inl (fun _ => 0))), (q5, .inl (cI, 2, .inl (upd (upd (fun _ => 0) 0 (-9)) 1 (-9)))), (q6, .inl (cI, 3, .inl (fun _ => 0)))] H := hP
  have hD : va_D A [(h0, .inr (6, [.ref q1, .ref q2, .ref q3, .ref q4, .int 0, .int 0, .int 0, .int 0, .int 0, .int 0, .int (-9), .ref q5, .null])), (q1, .inl (cI, 131072, .inl (fun _ => 0))), (q2, .inl (cI, 131072, .inl (fun _ => 0))), (q3, .inl (cI, 131072, .inl (fun _ => 0))), (q4, .inl (cI, 64, .inl (fun _ => 0))), (q5, .inl (cI, 2, .inl (upd (upd (fun _ => 0) 0 (-9)) 1 (-9)))), (q6, .inl (cI, 3, .inl (fun _ => 0)))] := hD
  refine lv_dup hx hb dX6_init_63 rfl ?_
  refine lv_iconst (v := 0) hx hb dX6_init_64 (by decide) ?_
  refine lv_bipush (v := -9) hx hb dX6_init_65 (by decide) ?_
  refine va_iast hx hb hK hP hD hS 6 0 rfl rfl (show vp_in 0 3 by unfold vp_in; decide +kernel) dX6_init_67 (fun H locs hP hD hS => ?_)
  have hP : va_P D vwCl [(h0, .inr (6, [.ref q1, .ref q2, .ref q3, .ref q4, .int 0, .int 0, .int 0, .int 0, .int 0, .int 0, .int (-9), .ref q5, .null])), (q1, .inl (cI, 131072, .inl (fun _ => 0))), (q2, .inl (cI, 131072, .inl (fun _ => 0))), (q3, .inl (cI, 131072, .inl (fun _ => 0))), (q4, .inl (cI, 64, .inl (fun _ => 0))), (q5, .inl (cI, 2, .inl (upd (upd (fun _ => 0) 0 (-9)) 1 (-9)))), (q6, .inl (cI, 3, .inl (upd (fun _ => 0) 0 (-9))))] H := hP
  have hD : va_D A [(h0, .inr (6, [.ref q1, .ref q2, .ref q3, .ref q4, .int 0, .int 0, .int 0, .int 0, .int 0, .int 0, .int (-9), .ref q5, .null])), (q1, .inl (cI, 131072, .inl (fun _ => 0))), (q2, .inl (cI, 131072, .inl (fun _ => 0))), (q3, .inl (cI, 131072, .inl (fun _ => 0))), (q4, .inl (cI, 64, .inl (fun _ => 0))), (q5, .inl (cI, 2, .inl (upd (upd (fun _ => 0) 0 (-9)) 1 (-9)))), (q6, .inl (cI, 3, .inl (upd (fun _ => 0) 0 (-9))))] := hD
  refine lv_dup hx hb dX6_init_68 rfl ?_
  refine lv_iconst (v := 1) hx hb dX6_init_69 (by decide) ?_
  refine lv_bipush (v := -9) hx hb dX6_init_70 (by decide) ?_
  refine va_iast hx hb hK hP hD hS 6 0 rfl rfl (show vp_in 1 3 by unfold vp_in; decide +kernel) dX6_init_72 (fun H locs hP hD hS => ?_)
  have hP : va_P D vwCl [(h0, .inr (6, [.ref q1, .ref q2, .ref q3, .ref q4, .int 0, .int 0, .int 0, .int 0, .int 0, .int 0, .int (-9), .ref q5, .null])), (q1, .inl (cI, 131072, .inl (fun _ => 0))), (q2, .inl (cI, 131072, .inl (fun _ => 0))), (q3, .inl (cI, 131072, .inl (fun _ => 0))), (q4, .inl (cI, 64, .inl (fun _ => 0))), (q5, .inl (cI, 2, .inl (upd (upd (fun _ => 0) 0 (-9)) 1 (-9)))), (q6, .inl (cI, 3, .inl (upd (upd (fun _ => 0) 0 (-9)) 1 (-9))))] H := hP
  have hD : va_D A [(h0, .inr (6, [.ref q1, .ref q2, .ref q3, .ref q4, .int 0, .int 0, .int 0, .int 0, .int 0, .int 0, .int (-9), .ref q5, .null])), (q1, .inl (cI, 131072, .inl (fun _ => 0))), (q2, .inl (cI, 131072, .inl (fun _ => 0))), (q3, .inl (cI, 131072, .inl (fun _ => 0))), (q4, .inl (cI, 64, .inl (fun _ => 0))), (q5, .inl (cI, 2, .inl (upd (upd (fun _ => 0) 0 (-9)) 1 (-9)))), (q6, .inl (cI, 3, .inl (upd (upd (fun _ => 0) 0 (-9)) 1 (-9))))] := hD
  refine lv_dup hx hb dX6_init_73 rfl ?_
  refine lv_iconst (v := 2) hx hb dX6_init_74 (by decide) ?_
  refine lv_bipush (v := -9) hx hb dX6_init_75 (by decide) ?_
  refine va_iast hx hb hK hP hD hS 6 0 rfl rfl (show vp_in 2 3 by unfold vp_in; decide +kernel) dX6_init_77 (fun H locs hP hD hS => ?_)
  have hP : va_P D vwCl [(h0, .inr (6, [.ref q1, .ref q2, .ref q3, .ref q4, .int 0, .int 0, .int 0, .int 0, .int 0, .int 0, .int (-9), .ref q5, .null])), (q1, .inl (cI, 131072, .inl (fun _ => 0))), (q2, .inl (cI, 131072, .inl (fun _ => 0))), (q3, .inl (cI, 131072, .inl (fun _ => 0))), (q4, .inl (cI, 64, .inl (fun _ => 0))), (q5, .inl (cI, 2, .inl (upd (upd (fun _ => 0) 0 (-9)) 1 (-9)))), (q6, .inl (cI, 3, .inl (upd (upd (upd (fun _ => 0) 0 (-9)) 1 (-9)) 2 (-9))))] H := hP
  have hD : va_D A [(h0, .inr (6, [.ref q1, .ref q2, .ref q3, .ref q4, .int 0, .int 0, .int 0, .int 0, .int 0, .int 0, .int (-9), .ref q5, .null])), (q1, .inl (cI, 131072, .inl (fun _ => 0))), (q2, .inl (cI, 131072, .inl (fun _ => 0))), (q3, .inl (cI, 131072, .inl (fun _ => 0))), (q4, .inl (cI, 64, .inl (fun _ => 0))), (q5, .inl (cI, 2, .inl (upd (upd (fun _ => 0) 0 (-9)) 1 (-9)))), (q6, .inl (cI, 3, .inl (upd (upd (upd (fun _ => 0) 0 (-9)) 1 (-9)) 2 (-9))))] := hD
  refine va_putF (D := D) (ci := 6) (v := .ref q6) (ty := .array .int) (C := clsN 6) (T := clsT 6) (N := clsK 6) hx hb hts (uws_ok (c := 6) (by decide)) (clsTy 6) (cty_ok 6 (by decide)) (cnm_ok 6 (by decide)) hown hK hP hD hS 0 rfl (ccl_ok 6 (by decide)) 12 (by decide) (hts _ (tb_1 (i := 195) rfl rfl)) (fun _ h9 => h9) rfl hin rfl (by decide +kernel) rfl rfl (Nat.le_of_ble_eq_true rfl) dX6_init_78 (fun H locs hP hD hS => ?_)
  have hP : va_P D vwCl [(h0, .inr (6, [.ref q1, .ref q2, .ref q3, .ref q4, .int 0, .int 0, .int 0, .int 0, .int 0, .int 0, .int (-9), .ref q5, .ref q6])), (q1, .inl (cI, 131072, .inl (fun _ => 0))), (q2, .inl (cI, 131072, .inl (fun _ => 0))), (q3, .inl (cI, 131072, .inl (fun _ => 0))), (q4, .inl (cI, 64, .inl (fun _ => 0))), (q5, .inl (cI, 2, .inl (upd (upd (fun _ => 0) 0 (-9)) 1 (-9)))), (q6, .inl (cI, 3, .inl (upd (upd (upd (fun _ => 0) 0 (-9)) 1 (-9)) 2 (-9))))] H := hP
  have hD : va_D A [(h0, .inr (6, [.ref q1, .ref q2, .ref q3, .ref q4, .int 0, .int 0, .int 0, .int 0, .int 0, .int 0, .int (-9), .ref q5, .ref q6])), (q1, .inl (cI, 131072, .inl (fun _ => 0))), (q2, .inl (cI, 131072, .inl (fun _ => 0))), (q3, .inl (cI, 131072, .inl (fun _ => 0))), (q4, .inl (cI, 64, .inl (fun _ => 0))), (q5, .inl (cI, 2, .inl (upd (upd (fun _ => 0) 0 (-9)) 1 (-9)))), (q6, .inl (cI, 3, .inl (upd (upd (upd (fun _ => 0) 0 (-9)) 1 (-9)) 2 (-9))))] := hD
  have hP9 := hP.sub (ws' := [(h0, .inr (6, [.ref q1, .ref q2, .ref q3, .ref q4, .int 0, .int 0, .int 0, .int 0, .int 0, .int 0, .int (-9), .ref q5, .ref q6])), (q1, .inl (cI, 131072, .inl (fun _ => 0))), (q2, .inl (cI, 131072, .inl (fun _ => 0))), (q3, .inl (cI, 131072, .inl (fun _ => 0))), (q4, .inl (cI, 64, .inl (fun _ => 0))), (q5, .inl (cI, 2, .inl (upd (upd (fun _ => 0) 0 (-9)) 1 (-9)))), (q6, .inl (cI, 3, .inl (upd (upd (upd (fun _ => 0) 0 (-9)) 1 (-9)) 2 (-9))))]) [0, 1, 2, 3, 4, 5, 6] rfl
  have hD9 := hD.sub (ws' := [(h0, .inr (6, [.ref q1, .ref q2, .ref q3, .ref q4, .int 0, .int 0, .int 0, .int 0, .int 0, .int 0, .int (-9), .ref q5, .ref q6])), (q1, .inl (cI, 131072, .inl (fun _ => 0))), (q2, .inl (cI, 131072, .inl (fun _ => 0))), (q3, .inl (cI, 131072, .inl (fun _ => 0))), (q4, .inl (cI, 64, .inl (fun _ => 0))), (q5, .inl (cI, 2, .inl (upd (upd (fun _ => 0) 0 (-9)) 1 (-9)))), (q6, .inl (cI, 3, .inl (upd (upd (upd (fun _ => 0) 0 (-9)) 1 (-9)) 2 (-9))))]) [0, 1, 2, 3, 4, 5, 6] (by decide) rfl
  refine W.widen (k := 6) (n := 393285) (Nat.le_of_ble_eq_true rfl) (Nat.le_of_ble_eq_true rfl) ?_
  refine W.vret hx hb hr (fun t ht hW => ⟨⟨(), rfl, trivial, q1, q2, q3, q4, q5, q6, by rw [ht]; exact hP9, hD9⟩, hS.F ht⟩) hS.2.2 dX6_init_81

theorem dX1_init_0 : decode cX1_init 0 = .ok (.aload_n 0, 1) := by decide +kernel
theorem dX1_init_1 : decode cX1_init 1 = .ok (.invokespecial 5, 3) := by decide +kernel
theorem dX1_init_4 : decode cX1_init 4 = .ok (.aload_n 0, 1) := by decide +kernel
theorem dX1_init_5 : decode cX1_init 5 = .ok (.iconst 4, 1) := by decide +kernel
theorem dX1_init_6 : decode cX1_init 6 = .ok (.newarray .long, 2) := by decide +kernel
theorem dX1_init_8 : decode cX1_init 8 = .ok (.putfield 11, 3) := by decide +kernel
theorem dX1_init_11 : decode cX1_init 11 = .ok (.aload_n 0, 1) := by decide +kernel
theorem dX1_init_12 : decode cX1_init 12 = .ok (.iconst 4, 1) := by decide +kernel
theorem dX1_init_13 : decode cX1_init 13 = .ok (.newarray .long, 2) := by decide +kernel
theorem dX1_init_15 : decode cX1_init 15 = .ok (.dup, 1) := by decide +kernel
theorem dX1_init_16 : decode cX1_init 16 = .ok (.iconst 0, 1) := by decide +kernel
theorem dX1_init_17 : decode cX1_init 17 = .ok (.lconst 1, 1) := by decide +kernel
theorem dX1_init_18 : decode cX1_init 18 = .ok (.lastore, 1) := by decide +kernel
theorem dX1_init_19 : decode cX1_init 19 = .ok (.dup, 1) := by decide +kernel
theorem dX1_init_20 : decode cX1_init 20 = .ok (.iconst 1, 1) := by decide +kernel
theorem dX1_init_21 : decode cX1_init 21 = .ok (.lconst 0, 1) := by decide +kernel
theorem dX1_init_22 : decode cX1_init 22 = .ok (.lastore, 1) := by decide +kernel
theorem dX1_init_23 : decode cX1_init 23 = .ok (.dup, 1) := by decide +kernel
theorem dX1_init_24 : decode cX1_init 24 = .ok (.iconst 2, 1) := by decide +kernel
theorem dX1_init_25 : decode cX1_init 25 = .ok (.lconst 0, 1) := by decide +kernel
theorem dX1_init_26 : decode cX1_init 26 = .ok (.lastore, 1) := by decide +kernel
theorem dX1_init_27 : decode cX1_init 27 = .ok (.dup, 1) := by decide +kernel
theorem dX1_init_28 : decode cX1_init 28 = .ok (.iconst 3, 1) := by decide +kernel
theorem dX1_init_29 : decode cX1_init 29 = .ok (.lconst 0, 1) := by decide +kernel
theorem dX1_init_30 : decode cX1_init 30 = .ok (.lastore, 1) := by decide +kernel
theorem dX1_init_31 : decode cX1_init 31 = .ok (.putfield 15, 3) := by decide +kernel
theorem dX1_init_34 : decode cX1_init 34 = .ok (.aload_n 0, 1) := by decide +kernel
theorem dX1_init_35 : decode cX1_init 35 = .ok (.iconst 4, 1) := by decide +kernel
theorem dX1_init_36 : decode cX1_init 36 = .ok (.newarray .long, 2) := by decide +kernel
theorem dX1_init_38 : decode cX1_init 38 = .ok (.putfield 18, 3) := by decide +kernel
theorem dX1_init_41 : decode cX1_init 41 = .ok (.aload_n 0, 1) := by decide +kernel
theorem dX1_init_42 : decode cX1_init 42 = .ok (.iconst 1, 1) := by decide +kernel
theorem dX1_init_43 : decode cX1_init 43 = .ok (.putfield 21, 3) := by decide +kernel
theorem dX1_init_46 : decode cX1_init 46 = .ok (.return_, 1) := by decide +kernel
set_option maxRecDepth 100000 in
theorem wc_1 : Cond.code yX1_init cX1_init 1 none ∈ TBL := tb_2 (i := 40) rfl rfl
set_option maxRecDepth 100000 in
theorem wi_1 : Cond.initialized RX1 ∈ TBL := tb_1 (i := 10) rfl rfl
set_option maxRecDepth 100000 in
theorem wm_1 : Cond.instanceMethod yX1_init ∈ TBL := tb_2 (i := 39) rfl rfl
set_option maxHeartbeats 4000000 in
set_option maxRecDepth 100000 in
theorem ct_1 (l : Launch) (D : va_G) (cI cL cZ : ClassId) (h0 sz : Nat) : Met l yX1_init (wsC yX1_init cX1_init 1) (rmC 1 3 12) (va_Pc [.ref h0] (fun U => U.heap.size = sz ∧ va_P D vwCl [(h0, .inr (1, [.null, .null, .null, .int 0, .int 0]))] U.heap ∧ va_K D vwCl (tysG cI cL cZ) U ∧ va_D (fun _ => True) [(h0, .inr (1, [.null, .null, .null, .int 0, .int 0]))])) (va_Qv (fun _ : Unit => True) (fun _ t => ∃ q1 q2 q3, va_P D vwCl [(h0, .inr (1, [.ref q1, .ref q2, .ref q3, .int 0, .int 1])), (q1, .inl (cL, 4, .inr (.inl (fun _ => 0)))), (q2, .inl (cL, 4, .inr (.inl (vp_updL (vp_updL (vp_updL (vp_updL (fun _ => 0) 0 1) 1 0) 2 0) 3 0)))), (q3, .inl (cL, 4, .inr (.inl (fun _ => 0))))] t.heap ∧ va_D (va_A [(h0, .inr (1, [.null, .null, .null, .int 0, .int 0]))] sz) [(h0, .inr (1, [.ref q1, .ref q2, .ref q3, .int 0, .int 1])), (q1, .inl (cL, 4, .inr (.inl (fun _ => 0)))), (q2, .inl (cL, 4, .inr (.inl (vp_updL (vp_updL (vp_updL (vp_updL (fun _ => 0) 0 1) 1 0) 2 0) 3 0)))), (q3, .inl (cL, 4, .inr (.inl (fun _ => 0))))]) (va_A [(h0, .inr (1, [.null, .null, .null, .int 0, .int 0]))] sz)) 3 12 (va_A [(h0, .inr (1, [.null, .null, .null, .int 0, .int 0]))] sz) := by
  refine Met.ofW (cc := cX1_init) (maxL := 1) (ret := none) (by decide) rfl ?_
  intro p e s m args below meth c s₁ B hml hv
  obtain ⟨rfl, hsz, hP, hK, hD0⟩ := hv
  have hx := B.exec
  have hb := B.bytes
  have hr := B.returns
  have hts0 := atoms_spec (ws := wsC yX1_init cX1_init 1) B.pre
  have hts : ∀ w ∈ TBL, w.before _ s = true := fun w hw => hts0 w (List.mem_cons_of_mem _ hw)
  have hown : s.vm.findClass RX1 = some m.cls := findClass_of_methodNamed B.named
  have hlocks := B.notSynchronized
  have hin : meth.name = "<init>" := (name_of_methodNamed B.named B.method).1
  subst hsz
  have hD := hD0.self (sz := s.heap.size)
  generalize hAe : va_A [(h0, .inr (1, [.null, .null, .null, .int 0, .int 0]))] s.heap.size = A at hD ⊢
  have hA : ∀ q : Nat, s.heap.size ≤ q → A q := fun q h => by rw [← hAe]; exact Or.inr h
  have hS : va_S A s.heap s.heap [] := va_S.rf
  have hP : va_P D vwCl [(h0, .inr (1, [.null, .null, .null, .int 0, .int 0]))] s.heap := hP
  have hl := lv_entry ([.ref h0]) (n := 1) (Nat.le_of_ble_eq_true rfl)
  rw [lg_entry_eq]
  generalize (lg_sl ([.ref h0]) ++ List.replicate (1 - (lg_sl ([.ref h0])).length) Slot.unset).toArray = ls at hl ⊢
  have hl : lv_has ls 1 [(0, .ref h0)] := hl
  refine lv_aload_n hx hb dX1_init_0 rfl (lv_at hl 0 rfl) ?_
  refine W.objInit hx hb hown (hts _ (tb_2 (i := 41) rfl rfl)) (hts _ w_oi) (hts _ w_oc) rfl (by rw [hml]; exact hl.1) rfl dX1_init_1 (Nat.le_of_ble_eq_true rfl) (Nat.le_of_ble_eq_true rfl) ?_
  refine W.eq (g2 := F0 m 4 ls []) rfl ?_
  refine lv_aload_n hx hb dX1_init_4 rfl (lv_at hl 0 rfl) ?_
  refine lv_iconst (v := 4) hx hb dX1_init_5 (by decide) ?_
  refine va_newa (atype := .long) hx hb (hts _ w_a_long) rfl hK hP hD hS hA (N' := 4) (a0 := (4, .inr (.inl (fun _ => 0)))) (fun _ => rfl) (by decide) (by decide +kernel) (Nat.le_of_ble_eq_true rfl) (Nat.le_of_ble_eq_true rfl) (Nat.le_of_ble_eq_true rfl) dX1_init_6 (fun q1 cA H hK2 hP hD hS => ?_)
  rw [ct_eqL hK hK2] at hP hD
  have hP : va_P D vwCl [(h0, .inr (1, [.null, .null, .null, .int 0, .int 0])), (q1, .inl (cL, 4, .inr (.inl (fun _ => 0))))] H := hP
  have hD : va_D A [(h0, .inr (1, [.null, .null, .null, .int 0, .int 0])), (q1, .inl (cL, 4, .inr (.inl (fun _ => 0))))] := hD
  refine va_putF (D := D) (ci := 1) (v := .ref q1) (ty := .array .long) (C := clsN 1) (T := clsT 1) (N := clsK 1) hx hb hts (uws_ok (c := 1) (by decide)) (clsTy 1) (cty_ok 1 (by decide)) (cnm_ok 1 (by decide)) hown hK hP hD hS 0 rfl (ccl_ok 1 (by decide)) 0 (by decide) (hts _ (tb_2 (i := 42) rfl rfl)) (fun _ h9 => h9) rfl hin rfl (by decide +kernel) rfl rfl (Nat.le_of_ble_eq_true rfl) dX1_init_8 (fun H locs hP hD hS => ?_)
  have hP : va_P D vwCl [(h0, .inr (1, [.ref q1, .null, .null, .int 0, .int 0])), (q1, .inl (cL, 4, .inr (.inl (fun _ => 0))))] H := hP
  have hD : va_D A [(h0, .inr (1, [.ref q1, .null, .null, .int 0, .int 0])), (q1, .inl (cL, 4, .inr (.inl (fun _ => 0))))] := hD
  refine lv_aload_n hx hb dX1_init_11 rfl (lv_at hl 0 rfl) ?_
  refine lv_iconst (v := 4) hx hb dX1_init_12 (by decide) ?_
  refine va_newa (atype := .long) hx hb (hts _ w_a_long) rfl hK hP hD hS hA (N' := 4) (a0 := (4, .inr (.inl (fun _ => 0)))) (fun _ => rfl) (by decide) (by decide +kernel) (Nat.le_of_ble_eq_true rfl) (Nat.le_of_ble_eq_true rfl) (Nat.le_of_ble_eq_true rfl) dX1_init_13 (fun q2 cA H hK2 hP hD hS => ?_)
  rw [ct_eqL hK hK2] at hP hD
  have hP : va_P D vwCl [(h0, .inr (1, [.ref q1, .null, .null, .int 0, .int 0])), (q1, .inl (cL, 4, .inr (.inl (fun _ => 0)))), (q2, .inl (cL, 4, .inr (.inl (fun _ => 0))))] H := hP
  have hD : va_D A [(h0, .inr (1, [.ref q1, .null, .null, .int 0, .int 0])), (q1, .inl (cL, 4, .inr (.inl (fun _ => 0)))), (q2, .inl (cL, 4, .inr (.inl (fun _ => 0))))] := hD
  refine lv_dup hx hb dX1_init_15 rfl ?_
  refine lv_iconst (v := 0) hx hb dX1_init_16 (by decide) ?_
  refine lv_lconst (v := 1) hx hb dX1_init_17 (by decide) ?_
  refine va_last hx hb hK hP hD hS 2 1 rfl rfl (show vp_in 0 4 by unfold vp_in; decide +kernel) dX1_init_18 (fun H locs hP hD hS => ?_)
  have hP : va_P D vwCl [(h0, .inr (1, [.ref q1, .null, .null, .int 0, .int 0])), (q1, .inl (cL, 4, .inr (.inl (fun _ => 0)))), (q2, .inl (cL, 4, .inr (.inl (vp_updL (fun _ => 0) 0 1))))] H := hP
  have hD : va_D A [(h0, .inr (1, [.ref q1, .null, .null, .int 0, .int 0])), (q1, .inl (cL, 4, .inr (.inl (fun _ => 0)))), (q2, .inl (cL, 4, .inr (.inl (vp_updL (fun _ => 0) 0 1))))] := hD
  refine lv_dup hx hb dX1_init_19 rfl ?_
  refine lv_iconst (v := 1) hx hb dX1_init_20 (by decide) ?_
  refine lv_lconst (v := 0) hx hb dX1_init_21 (by decide) ?_
  refine va_last hx hb hK hP hD hS 2 1 rfl rfl (show vp_in 1 4 by unfold vp_in; decide +kernel) dX1_init_22 (fun H locs hP hD hS => ?_)
  have hP : va_P D vwCl [(h0, .inr (1, [.ref q1, .null, .null, .int 0, .int 0])), (q1, .inl (cL, 4, .inr (.inl (fun _ => 0)))), (q2, .inl (cL, 4, .inr (.inl (vp_updL (vp_updL (fun _ => 0) 0 1) 1 0))))] H := hP
  have hD : va_D A [(h0, .inr (1, [.ref q1, .null, .null, .int 0, .int 0])), (q1, .inl (cL, 4, .inr (.inl (fun _ => 0)))), (q2, .inl (cL, 4, .inr (.inl (vp_updL (vp_updL (fun _ => 0) 0 1) 1 0))))] := hD
  refine lv_dup hx hb dX1_init_23 rfl ?_
  refine lv_iconst (v := 2) hx hb dX1_init_24 (by decide) ?_
  refine lv_lconst (v := 0) hx hb dX1_init_25 (by decide) ?_
  refine va_last hx hb hK hP hD hS 2 1 rfl rfl (show vp_in 2 4 by unfold vp_in; decide +kernel) dX1_init_26 (fun H locs hP hD hS => ?_)
  have hP : va_P D vwCl [(h0, .inr (1, [.ref q1, .null, .null, .int 0, .int 0])), (q1, .inl (cL, 4, .inr (.inl (fun _ => 0)))), (q2, .inl (cL, 4, .inr (.inl (vp_updL (vp_updL (vp_updL (fun _ => 0) 0 1) 1 0) 2 0))))] H := hP
  have hD : va_D A [(h0, .inr (1, [.ref q1, .null, .null, .int 0, .int 0])), (q1, .inl (cL, 4, .inr (.inl (fun _ => 0)))), (q2, .inl (cL, 4, .inr (.inl (vp_updL (vp_updL (vp_updL (fun _ => 0) 0 1) 1 0) 2 0))))] := hD
  refine lv_dup hx hb dX1_init_27 rfl ?_
  refine lv_iconst (v := 3) hx hb dX1_init_28 (by decide) ?_
  refine lv_lconst (v := 0) hx hb dX1_init_29 (by decide) ?_
  refine va_last hx hb hK hP hD hS 2 1 rfl rfl (show vp_in 3 4 by unfold vp_in; decide +kernel) dX1_init_30 (fun H locs hP hD hS => ?_)
  have hP : va_P D vwCl [(h0, .inr (1, [.ref q1, .null, .null, .int 0, .int 0])), (q1, .inl (cL, 4, .inr (.inl (fun _ => 0)))), (q2, .inl (cL, 4, .inr (.inl (vp_updL (vp_updL (vp_updL (vp_updL (fun _ => 0) 0 1) 1 0) 2 0) 3 0))))] H := hP
  have hD : va_D A [(h0, .inr (1, [.ref q1, .null, .null, .int 0, .int 0])), (q1, .inl (cL, 4, .inr (.inl (fun _ => 0)))), (q2, .inl (cL, 4, .inr (.inl (vp_updL (vp_updL (vp_updL (vp_updL (fun _ => 0) 0 1) 1 0) 2 0) 3 0))))] := hD
  refine va_putF (D := D) (ci := 1) (v := .ref q2) (ty := .array .long) (C := clsN 1) (T := clsT 1) (N := clsK 1) hx hb hts (uws_ok (c := 1) (by decide)) (clsTy 1) (cty_ok 1 (by decide)) (cnm_ok 1 (by decide)) hown hK hP hD hS 0 rfl (ccl_ok 1 (by decide)) 1 (by decide) (hts _ (tb_2 (i := 43) rfl rfl)) (fun _ h9 => h9) rfl hin rfl (by decide +kernel) rfl rfl (Nat.le_of_ble_eq_true rfl) dX1_init_31 (fun H locs hP hD hS => ?_)
  have hP : va_P D vwCl [(h0, .inr (1, [.ref q1, .ref q2, .null, .int 0, .int 0])), (q1, .inl (cL, 4, .inr (.inl (fun _ => 0)))), (q2, .inl (cL, 4, .inr (.inl (vp_updL (vp_updL (vp_updL (vp_updL (fun _ => 0) 0 1) 1 0) 2 0) 3 0))))] H := hP
  have hD : va_D A [(h0, .inr (1, [.ref q1, .ref q2, .null, .int 0, .int 0])), (q1, .inl (cL, 4, .inr (.inl (fun _ => 0)))), (q2, .inl (cL, 4, .inr (.inl (vp_updL (vp_updL (vp_updL (vp_updL (fun _ => 0) 0 1) 1 0) 2 0) 3 0))))] := hD
  refine lv_aload_n hx hb dX1_init_34 rfl (lv_at hl 0 rfl) ?_
  refine lv_iconst (v := 4) hx hb dX1_init_35 (by decide) ?_
  refine va_newa (atype := .long) hx hb (hts _ w_a_long) rfl hK hP hD hS hA (N' := 4) (a0 := (4, .inr (.inl (fun _ => 0)))) (fun _ => rfl) (by decide) (by decide +kernel) (Nat.le_of_ble_eq_true rfl) (Nat.le_of_ble_eq_true rfl) (Nat.le_of_ble_eq_true rfl) dX1_init_36 (fun q3 cA H hK2 hP hD hS => ?_)
  rw [ct_eqL hK hK2] at hP hD
  have hP : va_P D vwCl [(h0, .inr (1, [.ref q1, .ref q2, .null, .int 0, .int 0])), (q1, .inl (cL, 4, .inr (.inl (fun _ => 0)))), (q2, .inl (cL, 4, .inr (.inl (vp_updL (vp_updL (vp_updL (vp_updL (fun _ => 0) 0 1) 1 0) 2 0) 3 0)))), (q3, .inl (cL, 4, .inr (.inl (fun _ => 0))))] H := hP
  have hD : va_D A [(h0, .inr (1, [.ref q1, .ref q2, .null, .int 0, .int 0])), (q1, .inl (cL, 4, .inr (.inl (fun _ => 0)))), (q2, .inl (cL, 4, .inr (.inl (vp_updL (vp_updL (vp_updL (vp_updL (fun _ => 0) 0 1) 1 0) 2 0) 3 0)))), (q3, .inl (cL, 4, .inr (.inl (fun _ => 0))))] := hD
  refine va_putF (D := D) (ci := 1) (v := .ref q3) (ty := .array .long) (C := clsN 1) (T := clsT 1) (N := clsK 1) hx hb hts (uws_ok (c := 1) (by decide)) (clsTy 1) (cty_ok 1 (by decide)) (cnm_ok 1 (by decide)) hown hK hP hD hS 0 rfl (ccl_ok 1 (by decide)) 2 (by decide) (hts _ (tb_2 (i := 44) rfl rfl)) (fun _ h9 => h9) rfl hin rfl (by decide +kernel) rfl rfl (Nat.le_of_ble_eq_true rfl) dX1_init_38 (fun H locs hP hD hS => ?_)
  have hP : va_P D vwCl [(h0, .inr (1, [.ref q1, .ref q2, .ref q3, .int 0, .int 0])), (q1, .inl (cL, 4, .inr (.inl (fun _ => 0)))), (q2, .inl (cL, 4, .inr (.inl (vp_updL (vp_updL (vp_updL (vp_updL (fun _ => 0) 0 1) 1 0) 2 0) 3 0)))), (q3, .inl (cL, 4, .inr (.inl (fun _ => 0))))] H := hP
  have hD : va_D A [(h0, .inr (1, [.ref q1, .ref q2, .ref q3, .int 0, .int 0])), (q1, .inl (cL, 4, .inr (.inl (fun _ => 0)))), (q2, .inl (cL, 4, .inr (.inl (vp_updL (vp_updL (vp_updL (vp_updL (fun _ => 0) 0 1) 1 0) 2 0) 3 0)))), (q3, .inl (cL, 4, .inr (.inl (fun _ => 0))))] := hD
  refine lv_aload_n hx hb dX1_init_41 rfl (lv_at hl 0 rfl) ?_
  refine lv_iconst (v := 1) hx hb dX1_init_42 (by decide) ?_
  refine va_put (D := D) (ci := 1) (v := .int 1) (ty := .int) (C := clsN 1) (T := clsT 1) (N := clsK 1) hx hb hts (uws_ok (c := 1) (by decide)) (clsTy 1) (cty_ok 1 (by decide)) (cnm_ok 1 (by decide)) hown hK hP hD hS 0 rfl (ccl_ok 1 (by decide)) 4 (by decide) (hts _ (tb_2 (i := 47) rfl rfl)) (fun _ h9 => h9) rfl (by decide +kernel) rfl rfl (Nat.le_of_ble_eq_true rfl) dX1_init_43 (fun H locs hP hD hS => ?_)
  have hP : va_P D vwCl [(h0, .inr (1, [.ref q1, .ref q2, .ref q3, .int 0, .int 1])), (q1, .inl (cL, 4, .inr (.inl (fun _ => 0)))), (q2, .inl (cL, 4, .inr (.inl (vp_updL (vp_updL (vp_updL (vp_updL (fun _ => 0) 0 1) 1 0) 2 0) 3 0)))), (q3, .inl (cL, 4, .inr (.inl (fun _ => 0))))] H := hP
  have hD : va_D A [(h0, .inr (1, [.ref q1, .ref q2, .ref q3, .int 0, .int 1])), (q1, .inl (cL, 4, .inr (.inl (fun _ => 0)))), (q2, .inl (cL, 4, .inr (.inl (vp_updL (vp_updL (vp_updL (vp_updL (fun _ => 0) 0 1) 1 0) 2 0) 3 0)))), (q3, .inl (cL, 4, .inr (.inl (fun _ => 0))))] := hD
  have hP9 := hP.sub (ws' := [(h0, .inr (1, [.ref q1, .ref q2, .ref q3, .int 0, .int 1])), (q1, .inl (cL, 4, .inr (.inl (fun _ => 0)))), (q2, .inl (cL, 4, .inr (.inl (vp_updL (vp_updL (vp_updL (vp_updL (fun _ => 0) 0 1) 1 0) 2 0) 3 0)))), (q3, .inl (cL, 4, .inr (.inl (fun _ => 0))))]) [0, 1, 2, 3] rfl
  have hD9 := hD.sub (ws' := [(h0, .inr (1, [.ref q1, .ref q2, .ref q3, .int 0, .int 1])), (q1, .inl (cL, 4, .inr (.inl (fun _ => 0)))), (q2, .inl (cL, 4, .inr (.inl (vp_updL (vp_updL (vp_updL (vp_updL (fun _ => 0) 0 1) 1 0) 2 0) 3 0)))), (q3, .inl (cL, 4, .inr (.inl (fun _ => 0))))]) [0, 1, 2, 3] (by decide) rfl
  refine W.widen (k := 3) (n := 12) (Nat.le_of_ble_eq_true rfl) (Nat.le_of_ble_eq_true rfl) ?_
  refine W.vret hx hb hr (fun t ht hW => ⟨⟨(), rfl, trivial, q1, q2, q3, by rw [ht]; exact hP9, hD9⟩, hS.F ht⟩) hS.2.2 dX1_init_46

theorem dX9_init_0 : decode cX9_init 0 = .ok (.aload_n 0, 1) := by decide +kernel
theorem dX9_init_1 : decode cX9_init 1 = .ok (.invokespecial 3, 3) := by decide +kernel
theorem dX9_init_4 : decode cX9_init 4 = .ok (.aload_n 0, 1) := by decide +kernel
theorem dX9_init_5 : decode cX9_init 5 = .ok (.aload_n 1, 1) := by decide +kernel
theorem dX9_init_6 : decode cX9_init 6 = .ok (.putfield 9, 3) := by decide +kernel
theorem dX9_init_9 : decode cX9_init 9 = .ok (.return_, 1) := by decide +kernel
set_option maxRecDepth 100000 in
theorem wc_9 : Cond.code yX9_init cX9_init 2 none ∈ TBL := tb_1 (i := 104) rfl rfl
set_option maxRecDepth 100000 in
theorem wi_9 : Cond.initialized RX9 ∈ TBL := tb_1 (i := 4) rfl rfl
set_option maxRecDepth 100000 in
theorem wm_9 : Cond.instanceMethod yX9_init ∈ TBL := tb_1 (i := 103) rfl rfl
set_option maxHeartbeats 4000000 in
set_option maxRecDepth 100000 in
theorem ct_9 (l : Launch) (D : va_G) (cI cL cZ : ClassId) (h0 sz : Nat) (p0 : Nat) : Met l yX9_init (wsC yX9_init cX9_init 2) (rmC 1 0 0) (va_Pc [.ref h0, .ref p0] (fun U => U.heap.size = sz ∧ va_P D vwCl [(h0, .inr (9, [.null, .int 0, .int 0, .int 0, .int 0, .int 0]))] U.heap ∧ va_K D vwCl (tysG cI cL cZ) U ∧ va_D (fun _ => True) [(h0, .inr (9, [.null, .int 0, .int 0, .int 0, .int 0, .int 0]))])) (va_Qv (fun _ : Unit => True) (fun _ t => va_P D vwCl [(h0, .inr (9, [.ref p0, .int 0, .int 0, .int 0, .int 0, .int 0]))] t.heap ∧ va_D (va_A [(h0, .inr (9, [.null, .int 0, .int 0, .int 0, .int 0, .int 0]))] sz) [(h0, .inr (9, [.ref p0, .int 0, .int 0, .int 0, .int 0, .int 0]))]) (va_A [(h0, .inr (9, [.null, .int 0, .int 0, .int 0, .int 0, .int 0]))] sz)) 0 0 (va_A [(h0, .inr (9, [.null, .int 0, .int 0, .int 0, .int 0, .int 0]))] sz) := by
  refine Met.ofW (cc := cX9_init) (maxL := 2) (ret := none) (by decide) rfl ?_
  intro p e s m args below meth c s₁ B hml hv
  obtain ⟨rfl, hsz, hP, hK, hD0⟩ := hv
  have hx := B.exec
  have hb := B.bytes
  have hr := B.returns
  have hts0 := atoms_spec (ws := wsC yX9_init cX9_init 2) B.pre
  have hts : ∀ w ∈ TBL, w.before _ s = true := fun w hw => hts0 w (List.mem_cons_of_mem _ hw)
  have hown : s.vm.findClass RX9 = some m.cls := findClass_of_methodNamed B.named
  have hlocks := B.notSynchronized
  have hin : meth.name = "<init>" := (name_of_methodNamed B.named B.method).1
  subst hsz
  have hD := hD0.self (sz := s.heap.size)
  generalize hAe : va_A [(h0, .inr (9, [.null, .int 0, .int 0, .int 0, .int 0, .int 0]))] s.heap.size = A at hD ⊢
  have hA : ∀ q : Nat, s.heap.size ≤ q → A q := fun q h => by rw [← hAe]; exact Or.inr h
  have hS : va_S A s.heap s.heap [] := va_S.rf
  have hP : va_P D vwCl [(h0, .inr (9, [.null, .int 0, .int 0, .int 0, .int 0, .int 0]))] s.heap := hP
  have hl := lv_entry ([.ref h0, .ref p0]) (n := 2) (Nat.le_of_ble_eq_true rfl)
  rw [lg_entry_eq]
  generalize (lg_sl ([.ref h0, .ref p0]) ++ List.replicate (2 - (lg_sl ([.ref h0, .ref p0])).length) Slot.unset).toArray = ls at hl ⊢
  have hl : lv_has ls 2 [(0, .ref h0), (1, .ref p0)] := hl
  refine lv_aload_n hx hb dX9_init_0 rfl (lv_at hl 0 rfl) ?_
  refine W.objInit hx hb hown (hts _ (tb_1 (i := 105) rfl rfl)) (hts _ w_oi) (hts _ w_oc) rfl (by rw [hml]; exact hl.1) rfl dX9_init_1 (Nat.le_of_ble_eq_true rfl) (Nat.le_of_ble_eq_true rfl) ?_
  refine W.eq (g2 := F0 m 4 ls []) rfl ?_
  refine lv_aload_n hx hb dX9_init_4 rfl (lv_at hl 0 rfl) ?_
  refine lv_aload_n hx hb dX9_init_5 rfl (lv_at hl 1 rfl) ?_
  refine va_putF (D := D) (ci := 9) (v := .ref p0) (ty := .object "BogBoards$Text") (C := clsN 9) (T := clsT 9) (N := clsK 9) hx hb hts (uws_ok (c := 9) (by decide)) (clsTy 9) (cty_ok 9 (by decide)) (cnm_ok 9 (by decide)) hown hK hP hD hS 0 rfl (ccl_ok 9 (by decide)) 0 (by decide) (hts _ (tb_1 (i := 106) rfl rfl)) (fun _ h9 => h9) rfl hin rfl (by decide +kernel) rfl rfl (Nat.le_of_ble_eq_true rfl) dX9_init_6 (fun H locs hP hD hS => ?_)
  have hP : va_P D vwCl [(h0, .inr (9, [.ref p0, .int 0, .int 0, .int 0, .int 0, .int 0]))] H := hP
  have hD : va_D A [(h0, .inr (9, [.ref p0, .int 0, .int 0, .int 0, .int 0, .int 0]))] := hD
  have hP9 := hP.sub (ws' := [(h0, .inr (9, [.ref p0, .int 0, .int 0, .int 0, .int 0, .int 0]))]) [0] rfl
  have hD9 := hD.sub (ws' := [(h0, .inr (9, [.ref p0, .int 0, .int 0, .int 0, .int 0, .int 0]))]) [0] (by decide) rfl
  refine W.widen (k := 0) (n := 0) (Nat.le_of_ble_eq_true rfl) (Nat.le_of_ble_eq_true rfl) ?_
  refine W.vret hx hb hr (fun t ht hW => ⟨⟨(), rfl, trivial, by rw [ht]; exact hP9, hD9⟩, hS.F ht⟩) hS.2.2 dX9_init_9

theorem dX3_init_0 : decode cX3_init 0 = .ok (.aload_n 0, 1) := by decide +kernel
theorem dX3_init_1 : decode cX3_init 1 = .ok (.invokespecial 3, 3) := by decide +kernel
theorem dX3_init_4 : decode cX3_init 4 = .ok (.aload_n 0, 1) := by decide +kernel
theorem dX3_init_5 : decode cX3_init 5 = .ok (.new 9, 3) := by decide +kernel
theorem dX3_init_8 : decode cX3_init 8 = .ok (.dup, 1) := by decide +kernel
theorem dX3_init_9 : decode cX3_init 9 = .ok (.invokespecial 11, 3) := by decide +kernel
theorem dX3_init_12 : decode cX3_init 12 = .ok (.putfield 12, 3) := by decide +kernel
theorem dX3_init_15 : decode cX3_init 15 = .ok (.aload_n 0, 1) := by decide +kernel
theorem dX3_init_16 : decode cX3_init 16 = .ok (.iconst (-1), 1) := by decide +kernel
theorem dX3_init_17 : decode cX3_init 17 = .ok (.putfield 18, 3) := by decide +kernel
theorem dX3_init_20 : decode cX3_init 20 = .ok (.return_, 1) := by decide +kernel
set_option maxRecDepth 100000 in
theorem wc_3 : Cond.code yX3_init cX3_init 1 none ∈ TBL := tb_1 (i := 227) rfl rfl
set_option maxRecDepth 100000 in
theorem wi_3 : Cond.initialized RX3 ∈ TBL := tb_1 (i := 8) rfl rfl
set_option maxRecDepth 100000 in
theorem wm_3 : Cond.instanceMethod yX3_init ∈ TBL := tb_1 (i := 226) rfl rfl
set_option maxHeartbeats 4000000 in
set_option maxRecDepth 100000 in
theorem ct_3 (l : Launch) (D : va_G) (cI cL cZ : ClassId) (h0 sz : Nat) : Met l yX3_init (wsC yX3_init cX3_init 1) (rmC 2 1 6) (va_Pc [.ref h0] (fun U => U.heap.size = sz ∧ va_P D vwCl [(h0, .inr (3, [.null, .int 0, .int 0, .int 0]))] U.heap ∧ va_K D vwCl (tysG cI cL cZ) U ∧ va_D (fun _ => True) [(h0, .inr (3, [.null, .int 0, .int 0, .int 0]))])) (va_Qv (fun _ : Unit => True) (fun _ t => ∃ q1, va_P D vwCl [(h0, .inr (3, [.ref q1, .int 0, .int (-1), .int 0])), (q1, .inr (7, [.int 0, .int 0, .int 0, .int 0, .int 0, .int 0]))] t.heap ∧ va_D (va_A [(h0, .inr (3, [.null, .int 0, .int 0, .int 0]))] sz) [(h0, .inr (3, [.ref q1, .int 0, .int (-1), .int 0])), (q1, .inr (7, [.int 0, .int 0, .int 0, .int 0, .int 0, .int 0]))]) (va_A [(h0, .inr (3, [.null, .int 0, .int 0, .int 0]))] sz)) 1 6 (va_A [(h0, .inr (3, [.null, .int 0, .int 0, .int 0]))] sz) := by
  refine Met.ofW (cc := cX3_init) (maxL := 1) (ret := none) (by decide) rfl ?_
  intro p e s m args below meth c s₁ B hml hv
  obtain ⟨rfl, hsz, hP, hK, hD0⟩ := hv
  have hx := B.exec
  have hb := B.bytes
  have hr := B.returns
  have hts0 := atoms_spec (ws := wsC yX3_init cX3_init 1) B.pre
  have hts : ∀ w ∈ TBL, w.before _ s = true := fun w hw => hts0 w (List.mem_cons_of_mem _ hw)
  have hown : s.vm.findClass RX3 = some m.cls := findClass_of_methodNamed B.named
  have hlocks := B.notSynchronized
  have hin : meth.name = "<init>" := (name_of_methodNamed B.named B.method).1
  subst hsz
  have hD := hD0.self (sz := s.heap.size)
  generalize hAe : va_A [(h0, .inr (3, [.null, .int 0, .int 0, .int 0]))] s.heap.size = A at hD ⊢
  have hA : ∀ q : Nat, s.heap.size ≤ q → A q := fun q h => by rw [← hAe]; exact Or.inr h
  have hS : va_S A s.heap s.heap [] := va_S.rf
  have hP : va_P D vwCl [(h0, .inr (3, [.null, .int 0, .int 0, .int 0]))] s.heap := hP
  have hl := lv_entry ([.ref h0]) (n := 1) (Nat.le_of_ble_eq_true rfl)
  rw [lg_entry_eq]
  generalize (lg_sl ([.ref h0]) ++ List.replicate (1 - (lg_sl ([.ref h0])).length) Slot.unset).toArray = ls at hl ⊢
  have hl : lv_has ls 1 [(0, .ref h0)] := hl
  refine lv_aload_n hx hb dX3_init_0 rfl (lv_at hl 0 rfl) ?_
  refine W.objInit hx hb hown (hts _ (tb_1 (i := 228) rfl rfl)) (hts _ w_oi) (hts _ w_oc) rfl (by rw [hml]; exact hl.1) rfl dX3_init_1 (Nat.le_of_ble_eq_true rfl) (Nat.le_of_ble_eq_true rfl) ?_
  refine W.eq (g2 := F0 m 4 ls []) rfl ?_
  refine lv_aload_n hx hb dX3_init_4 rfl (lv_at hl 0 rfl) ?_
  refine va_new (ci := 7) (fs := [.int 0, .int 0, .int 0, .int 0, .int 0, .int 0]) (C := clsN 7) (T := clsT 7) (N := clsK 7) hx hb hts (uws_ok (c := 7) (by decide)) (clsTy 7) (cty_ok 7 (by decide)) hown (hts _ (tb_1 (i := 229) rfl rfl)) (hts _ (tb_1 (i := 230) rfl rfl)) (hts _ (tb_1 (i := 9) rfl rfl)) hK hP hD hS hA (ccl_ok 7 (by decide)) (fun j hj => by have hj : j < 6 := hj; rcases (show j = 0 ∨ j = 1 ∨ j = 2 ∨ j = 3 ∨ j = 4 ∨ j = 5 by omega) with rfl | rfl | rfl | rfl | rfl | rfl <;> rfl) (Nat.le_of_ble_eq_true rfl) (Nat.le_of_ble_eq_true rfl) dX3_init_5 (fun q1 H hP hD hS => ?_)
  have hP : va_P D vwCl [(h0, .inr (3, [.null, .int 0, .int 0, .int 0])), (q1, .inr (7, [.int 0, .int 0, .int 0, .int 0, .int 0, .int 0]))] H := hP
  have hD : va_D A [(h0, .inr (3, [.null, .int 0, .int 0, .int 0])), (q1, .inr (7, [.int 0, .int 0, .int 0, .int 0, .int 0, .int 0]))] := hD
  refine lv_dup hx hb dX3_init_8 rfl ?_
  have hPc := hP.sub (ws' := [(q1, .inr (7, [.int 0, .int 0, .int 0, .int 0, .int 0, .int 0]))]) [1] rfl
  have hDc := hD.sub (ws' := [(q1, .inr (7, [.int 0, .int 0, .int 0, .int 0, .int 0, .int 0]))]) [1] (by decide) rfl
  have hFc := va_free (wc := [(q1, .inr (7, [.int 0, .int 0, .int 0, .int 0, .int 0, .int 0]))]) hD hS hA [1] rfl
  refine va_callv (va_runI (As := []) (rest := [.ref q1, .ref h0]) ⟨hx, hb, hml, hown, hts⟩ (ct_7 l D cI cL cZ q1 H.size) (cwI 0 hts (goodC wc_7) rfl rfl rfl (hts _ wi_7) (hts _ (tb_1 (i := 231) rfl rfl)) (hts _ wm_7) rfl (by decide +kernel) ⟨Nat.le_of_ble_eq_true rfl, Nat.le_of_ble_eq_true rfl⟩) ⟨fun a U g mk q => by obtain ⟨q0, q1, qP, qK, qD⟩ := q; exact ⟨q0, q1, qP, va_K.moved (u := U) (U := U.calling g mk a) (Vm.Alike.refl U.vm) qK, qD⟩, fun U hU hW => ⟨rfl, by rw [hU], by rw [hU]; exact hPc, va_K.moved hW.alike hK, hDc.weaken (fun _ _ _ _ => trivial)⟩⟩ rfl rfl hl.1 rfl (lv_room (Nat.le_of_ble_eq_true rfl)) dX3_init_9 ⟨Nat.le_of_ble_eq_true rfl, Nat.le_of_ble_eq_true rfl⟩) hS (fun q _ h => hFc q h) hFc (fun u t H1 locs ht hvm hw hB hz1 hk1 hS => ?_)
  obtain ⟨hP1, hD1⟩ := hB
  rw [ht] at hP1
  obtain ⟨hP, hD⟩ := va_join (wr := [(h0, .inr (3, [.null, .int 0, .int 0, .int 0]))]) (w1 := [(q1, .inr (7, [.int 0, .int 0, .int 0, .int 0, .int 0, .int 0]))]) hP hD [1] [0] rfl rfl (by decide) (by decide) hk1 hFc hP1 hD1
  generalize H1 = H at hP hS ⊢
  have hP : va_P D vwCl [(h0, .inr (3, [.null, .int 0, .int 0, .int 0])), (q1, .inr (7, [.int 0, .int 0, .int 0, .int 0, .int 0, .int 0]))] H := hP
  have hD : va_D A [(h0, .inr (3, [.null, .int 0, .int 0, .int 0])), (q1, .inr (7, [.int 0, .int 0, .int 0, .int 0, .int 0, .int 0]))] := hD
  refine va_putF (D := D) (ci := 3) (v := .ref q1) (ty := .object "BogBoards$Sight") (C := clsN 3) (T := clsT 3) (N := clsK 3) hx hb hts (uws_ok (c := 3) (by decide)) (clsTy 3) (cty_ok 3 (by decide)) (cnm_ok 3 (by decide)) hown hK hP hD hS 0 rfl (ccl_ok 3 (by decide)) 0 (by decide) (hts _ (tb_2 (i := 20) rfl rfl)) (fun _ h9 => h9) rfl hin rfl (by decide +kernel) rfl rfl (Nat.le_of_ble_eq_true rfl) dX3_init_12 (fun H locs hP hD hS => ?_)
  have hP : va_P D vwCl [(h0, .inr (3, [.ref q1, .int 0, .int 0, .int 0])), (q1, .inr (7, [.int 0, .int 0, .int 0, .int 0, .int 0, .int 0]))] H := hP
  have hD : va_D A [(h0, .inr (3, [.ref q1, .int 0, .int 0, .int 0])), (q1, .inr (7, [.int 0, .int 0, .int 0, .int 0, .int 0, .int 0]))] := hD
  refine lv_aload_n hx hb dX3_init_15 rfl (lv_at hl 0 rfl) ?_
  refine lv_iconst (v := -1) hx hb dX3_init_16 (by decide) ?_
  refine va_put (D := D) (ci := 3) (v := .int (-1)) (ty := .int) (C := clsN 3) (T := clsT 3) (N := clsK 3) hx hb hts (uws_ok (c := 3) (by decide)) (clsTy 3) (cty_ok 3 (by decide)) (cnm_ok 3 (by decide)) hown hK hP hD hS 0 rfl (ccl_ok 3 (by decide)) 2 (by decide) (hts _ (tb_2 (i := 23) rfl rfl)) (fun _ h9 => h9) rfl (by decide +kernel) rfl rfl (Nat.le_of_ble_eq_true rfl) dX3_init_17 (fun H locs hP hD hS => ?_)
  have hP : va_P D vwCl [(h0, .inr (3, [.ref q1, .int 0, .int (-1), .int 0])), (q1, .inr (7, [.int 0, .int 0, .int 0, .int 0, .int 0, .int 0]))] H := hP
  have hD : va_D A [(h0, .inr (3, [.ref q1, .int 0, .int (-1), .int 0])), (q1, .inr (7, [.int 0, .int 0, .int 0, .int 0, .int 0, .int 0]))] := hD
  have hP9 := hP.sub (ws' := [(h0, .inr (3, [.ref q1, .int 0, .int (-1), .int 0])), (q1, .inr (7, [.int 0, .int 0, .int 0, .int 0, .int 0, .int 0]))]) [0, 1] rfl
  have hD9 := hD.sub (ws' := [(h0, .inr (3, [.ref q1, .int 0, .int (-1), .int 0])), (q1, .inr (7, [.int 0, .int 0, .int 0, .int 0, .int 0, .int 0]))]) [0, 1] (by decide) rfl
  refine W.widen (k := 1) (n := 6) (Nat.le_of_ble_eq_true rfl) (Nat.le_of_ble_eq_true rfl) ?_
  refine W.vret hx hb hr (fun t ht hW => ⟨⟨(), rfl, trivial, q1, by rw [ht]; exact hP9, hD9⟩, hS.F ht⟩) hS.2.2 dX3_init_20

theorem dX2_init_0 : decode cX2_init 0 = .ok (.aload_n 0, 1) := by decide +kernel
theorem dX2_init_1 : decode cX2_init 1 = .ok (.invokespecial 1, 3) := by decide +kernel
theorem dX2_init_4 : decode cX2_init 4 = .ok (.aload_n 0, 1) := by decide +kernel
theorem dX2_init_5 : decode cX2_init 5 = .ok (.new 7, 3) := by decide +kernel
theorem dX2_init_8 : decode cX2_init 8 = .ok (.dup, 1) := by decide +kernel
theorem dX2_init_9 : decode cX2_init 9 = .ok (.invokespecial 9, 3) := by decide +kernel
theorem dX2_init_12 : decode cX2_init 12 = .ok (.putfield 10, 3) := by decide +kernel
theorem dX2_init_15 : decode cX2_init 15 = .ok (.aload_n 0, 1) := by decide +kernel
theorem dX2_init_16 : decode cX2_init 16 = .ok (.new 16, 3) := by decide +kernel
theorem dX2_init_19 : decode cX2_init 19 = .ok (.dup, 1) := by decide +kernel
theorem dX2_init_20 : decode cX2_init 20 = .ok (.invokespecial 18, 3) := by decide +kernel
theorem dX2_init_23 : decode cX2_init 23 = .ok (.putfield 19, 3) := by decide +kernel
theorem dX2_init_26 : decode cX2_init 26 = .ok (.aload_n 0, 1) := by decide +kernel
theorem dX2_init_27 : decode cX2_init 27 = .ok (.new 23, 3) := by decide +kernel
theorem dX2_init_30 : decode cX2_init 30 = .ok (.dup, 1) := by decide +kernel
theorem dX2_init_31 : decode cX2_init 31 = .ok (.invokespecial 25, 3) := by decide +kernel
theorem dX2_init_34 : decode cX2_init 34 = .ok (.putfield 26, 3) := by decide +kernel
theorem dX2_init_37 : decode cX2_init 37 = .ok (.return_, 1) := by decide +kernel
set_option maxRecDepth 100000 in
theorem wc_2 : Cond.code yX2_init cX2_init 1 none ∈ TBL := tb_2 (i := 64) rfl rfl
set_option maxRecDepth 100000 in
theorem wi_2 : Cond.initialized RX2 ∈ TBL := tb_1 (i := 11) rfl rfl
set_option maxRecDepth 100000 in
theorem wm_2 : Cond.instanceMethod yX2_init ∈ TBL := tb_2 (i := 63) rfl rfl
set_option maxHeartbeats 4000000 in
set_option maxRecDepth 100000 in
theorem ct_2 (l : Launch) (D : va_G) (cI cL cZ : ClassId) (h0 sz : Nat) : Met l yX2_init (wsC yX2_init cX2_init 1) (rmC 2 14 167) (va_Pc [.ref h0] (fun U => U.heap.size = sz ∧ va_P D vwCl [(h0, .inr (2, [.int 0, .null, .null, .null]))] U.heap ∧ va_K D vwCl (tysG cI cL cZ) U ∧ va_D (fun _ => True) [(h0, .inr (2, [.int 0, .null, .null, .null]))])) (va_Qv (fun _ : Unit => True) (fun _ t => ∃ q1 q2 q3 q4 q5 q6 q7 q8 q9 q10 q11 q12 q13 q14, va_P D vwCl [(h0, .inr (2, [.int 0, .ref q1, .ref q9, .ref q13])), (q1, .inr (0, [.int 7, .int 0, .int 0, .int 0, .int 0, .ref q2, .ref q3, .ref q4, .ref q5, .ref q6, .ref q7, .ref q8])), (q2, .inl (cI, 3, .inl (fun _ => 0))), (q3, .inl (cI, 3, .inl (fun _ => 0))), (q4, .inl (cI, 2, .inl (fun _ => 0))), (q5, .inl (cI, 2, .inl (fun _ => 0))), (q6, .inl (cI, 2, .inl (fun _ => 0))), (q7, .inl (cI, 2, .inl (fun _ => 0))), (q8, .inl (cI, 2, .inl (fun _ => 0))), (q9, .inr (5, [.ref q10, .int 0, .ref q11, .int 0, .ref q12, .int 0, .int 0, .int 0, .int 0])), (q10, .inl (cI, 40, .inl (fun _ => 0))), (q11, .inl (cI, 40, .inl (fun _ => 0))), (q12, .inl (cL, 40, .inr (.inl (fun _ => 0)))), (q13, .inr (4, [.ref q14, .int 0])), (q14, .inl (cI, 8, .inl (fun _ => 0)))] t.heap ∧ va_D (va_A [(h0, .inr (2, [.int 0, .null, .null, .null]))] sz) [(h0, .inr (2, [.int 0, .ref q1, .ref q9, .ref q13])), (q1, .inr (0, [.int 7, .int 0, .int 0, .int 0, .int 0, .ref q2, .ref q3, .ref q4, .ref q5, .ref q6, .ref q7, .ref q8])), (q2, .inl (cI, 3, .inl (fun _ => 0))), (q3, .inl (cI, 3, .inl (fun _ => 0))), (q4, .inl (cI, 2, .inl (fun _ => 0))), (q5, .inl (cI, 2, .inl (fun _ => 0))), (q6, .inl (cI, 2, .inl (fun _ => 0))), (q7, .inl (cI, 2, .inl (fun _ => 0))), (q8, .inl (cI, 2, .inl (fun _ => 0))), (q9, .inr (5, [.ref q10, .int 0, .ref q11, .int 0, .ref q12, .int 0, .int 0, .int 0, .int 0])), (q10, .inl (cI, 40, .inl (fun _ => 0))), (q11, .inl (cI, 40, .inl (fun _ => 0))), (q12, .inl (cL, 40, .inr (.inl (fun _ => 0)))), (q13, .inr (4, [.ref q14, .int 0])), (q14, .inl (cI, 8, .inl (fun _ => 0)))]) (va_A [(h0, .inr (2, [.int 0, .null, .null, .null]))] sz)) 14 167 (va_A [(h0, .inr (2, [.int 0, .null, .null, .null]))] sz) := by
  refine Met.ofW (cc := cX2_init) (maxL := 1) (ret := none) (by decide) rfl ?_
  intro p e s m args below meth c s₁ B hml hv
  obtain ⟨rfl, hsz, hP, hK, hD0⟩ := hv
  have hx := B.exec
  have hb := B.bytes
  have hr := B.returns
  have hts0 := atoms_spec (ws := wsC yX2_init cX2_init 1) B.pre
  have hts : ∀ w ∈ TBL, w.before _ s = true := fun w hw => hts0 w (List.mem_cons_of_mem _ hw)
  have hown : s.vm.findClass RX2 = some m.cls := findClass_of_methodNamed B.named
  have hlocks := B.notSynchronized
  have hin : meth.name = "<init>" := (name_of_methodNamed B.named B.method).1
  subst hsz
  have hD := hD0.self (sz := s.heap.size)
  generalize hAe : va_A [(h0, .inr (2, [.int 0, .null, .null, .null]))] s.heap.size = A at hD ⊢
  have hA : ∀ q : Nat, s.heap.size ≤ q → A q := fun q h => by rw [← hAe]; exact Or.inr h
  have hS : va_S A s.heap s.heap [] := va_S.rf
  have hP : va_P D vwCl [(h0, .inr (2, [.int 0, .null, .null, .null]))] s.heap := hP
  have hl := lv_entry ([.ref h0]) (n := 1) (Nat.le_of_ble_eq_true rfl)
  rw [lg_entry_eq]
  generalize (lg_sl ([.ref h0]) ++ List.replicate (1 - (lg_sl ([.ref h0])).length) Slot.unset).toArray = ls at hl ⊢
  have hl : lv_has ls 1 [(0, .ref h0)] := hl
  refine lv_aload_n hx hb dX2_init_0 rfl (lv_at hl 0 rfl) ?_
  refine W.objInit hx hb hown (hts _ (tb_2 (i := 65) rfl rfl)) (hts _ w_oi) (hts _ w_oc) rfl (by rw [hml]; exact hl.1) rfl dX2_init_1 (Nat.le_of_ble_eq_true rfl) (Nat.le_of_ble_eq_true rfl) ?_
  refine W.eq (g2 := F0 m 4 ls []) rfl ?_
  refine lv_aload_n hx hb dX2_init_4 rfl (lv_at hl 0 rfl) ?_
  refine va_new (ci := 0) (fs := [.int 0, .int 0, .int 0, .int 0, .int 0, .null, .null, .null, .null, .null, .null, .null]) (C := clsN 0) (T := clsT 0) (N := clsK 0) hx hb hts (uws_ok (c := 0) (by decide)) (clsTy 0) (cty_ok 0 (by decide)) hown (hts _ (tb_2 (i := 66) rfl rfl)) (hts _ (tb_1 (i := 28) rfl rfl)) (hts _ (tb_1 (i := 2) rfl rfl)) hK hP hD hS hA (ccl_ok 0 (by decide)) (fun j hj => by have hj : j < 12 := hj; rcases (show j = 0 ∨ j = 1 ∨ j = 2 ∨ j = 3 ∨ j = 4 ∨ j = 5 ∨ j = 6 ∨ j = 7 ∨ j = 8 ∨ j = 9 ∨ j = 10 ∨ j = 11 by omega) with rfl | rfl | rfl | rfl | rfl | rfl | rfl | rfl | rfl | rfl | rfl | rfl <;> rfl) (Nat.le_of_ble_eq_true rfl) (Nat.le_of_ble_eq_true rfl) dX2_init_5 (fun q1 H hP hD hS => ?_)
  have hP : va_P D vwCl [(h0, .inr (2, [.int 0, .null, .null, .null])), (q1, .inr (0, [.int 0, .int 0, .int 0, .int 0, .int 0, .null, .null, .null, .null, .null, .null, .null]))] H := hP
  have hD : va_D A [(h0, .inr (2, [.int 0, .null, .null, .null])), (q1, .inr (0, [.int 0, .int 0, .int 0, .int 0, .int 0, .null, .null, .null, .null, .null, .null, .null]))] := hD
  refine lv_dup hx hb dX2_init_8 rfl ?_
  have hPc := hP.sub (ws' := [(q1, .inr (0, [.int 0, .int 0, .int 0, .int 0, .int 0, .null, .null, .null, .null, .null, .null, .null]))]) [1] rfl
  have hDc := hD.sub (ws' := [(q1, .inr (0, [.int 0, .int 0, .int 0, .int 0, .int 0, .null, .null, .null, .null, .null, .null, .null]))]) [1] (by decide) rfl
  have hFc := va_free (wc := [(q1, .inr (0, [.int 0, .int 0, .int 0, .int 0, .int 0, .null, .null, .null, .null, .null, .null, .null]))]) hD hS hA [1] rfl
  refine va_callv (va_runI (As := []) (rest := [.ref q1, .ref h0]) ⟨hx, hb, hml, hown, hts⟩ (ct_0 l D cI cL cZ q1 H.size) (cwI 0 hts (goodC wc_0) rfl rfl rfl (hts _ wi_0) (hts _ (tb_2 (i := 67) rfl rfl)) (hts _ wm_0) rfl (by decide +kernel) ⟨Nat.le_of_ble_eq_true rfl, Nat.le_of_ble_eq_true rfl⟩) ⟨fun a U g mk q => by obtain ⟨q0, q1, qP, qK, qD⟩ := q; exact ⟨q0, q1, qP, va_K.moved (u := U) (U := U.calling g mk a) (Vm.Alike.refl U.vm) qK, qD⟩, fun U hU hW => ⟨rfl, by rw [hU], by rw [hU]; exact hPc, va_K.moved hW.alike hK, hDc.weaken (fun _ _ _ _ => trivial)⟩⟩ rfl rfl hl.1 rfl (lv_room (Nat.le_of_ble_eq_true rfl)) dX2_init_9 ⟨Nat.le_of_ble_eq_true rfl, Nat.le_of_ble_eq_true rfl⟩) hS (fun q _ h => hFc q h) hFc (fun u t H1 locs ht hvm hw hB hz1 hk1 hS => ?_)
  obtain ⟨q2, q3, q4, q5, q6, q7, q8, hP1, hD1⟩ := hB
  rw [ht] at hP1
  obtain ⟨hP, hD⟩ := va_join (wr := [(h0, .inr (2, [.int 0, .null, .null, .null]))]) (w1 := [(q1, .inr (0, [.int 7, .int 0, .int 0, .int 0, .int 0, .ref q2, .ref q3, .ref q4, .ref q5, .ref q6, .ref q7, .ref q8])), (q2, .inl (cI, 3, .inl (fun _ => 0))), (q3, .inl (cI, 3, .inl (fun _ => 0))), (q4, .inl (cI, 2, .inl (fun _ => 0))), (q5, .inl (cI, 2, .inl (fun _ => 0))), (q6, .inl (cI, 2, .inl (fun _ => 0))), (q7, .inl (cI, 2, .inl (fun _ => 0))), (q8, .inl (cI, 2, .inl (fun _ => 0)))]) hP hD [1] [0] rfl rfl (by decide) (by decide) hk1 hFc hP1 hD1
  generalize H1 = H at hP hS ⊢
  have hP : va_P D vwCl [(h0, .inr (2, [.int 0, .null, .null, .null])), (q1, .inr (0, [.int 7, .int 0, .int 0, .int 0, .int 0, .ref q2, .ref q3, .ref q4, .ref q5, .ref q6, .ref q7, .ref q8])), (q2, .inl (cI, 3, .inl (fun _ => 0))), (q3, .inl (cI, 3, .inl (fun _ => 0))), (q4, .inl (cI, 2, .inl (fun _ => 0))), (q5, .inl (cI, 2, .inl (fun _ => 0))), (q6, .inl (cI, 2, .inl (fun _ => 0))), (q7, .inl (cI, 2, .inl (fun _ => 0))), (q8, .inl (cI, 2, .inl (fun _ => 0)))] H := hP
  have hD : va_D A [(h0, .inr (2, [.int 0, .null, .null, .null])), (q1, .inr (0, [.int 7, .int 0, .int 0, .int 0, .int 0, .ref q2, .ref q3, .ref q4, .ref q5, .ref q6, .ref q7, .ref q8])), (q2, .inl (cI, 3, .inl (fun _ => 0))), (q3, .inl (cI, 3, .inl (fun _ => 0))), (q4, .inl (cI, 2, .inl (fun _ => 0))), (q5, .inl (cI, 2, .inl (fun _ => 0))), (q6, .inl (cI, 2, .inl (fun _ => 0))), (q7, .inl (cI, 2, .inl (fun _ => 0))), (q8, .inl (cI, 2, .inl (fun _ => 0)))] := hD
  refine va_putF (D := D) (ci := 2) (v := .ref q1) (ty := .object "BogBoards$Bog") (C := clsN 2) (T := clsT 2) (N := clsK 2) hx hb hts (uws_ok (c := 2) (by decide)) (clsTy 2) (cty_ok 2 (by decide)) (cnm_ok 2 (by decide)) hown hK hP hD hS 0 rfl (ccl_ok 2 (by decide)) 1 (by decide) (hts _ (tb_2 (i := 73) rfl rfl)) (fun _ h9 => h9) rfl hin rfl (by decide +kernel) rfl rfl (Nat.le_of_ble_eq_true rfl) dX2_init_12 (fun H locs hP hD hS => ?_)
  have hP : va_P D vwCl [(h0, .inr (2, [.int 0, .ref q1, .null, .null])), (q1, .inr (0, [.int 7, .int 0, .int 0, .int 0, .int 0, .ref q2, .ref q3, .ref q4, .ref q5, .ref q6, .ref q7, .ref q8])), (q2, .inl (cI, 3, .inl (fun _ => 0))), (q3, .inl (cI, 3, .inl (fun _ => 0))), (q4, .inl (cI, 2, .inl (fun _ => 0))), (q5, .inl (cI, 2, .inl (fun _ => 0))), (q6, .inl (cI, 2, .inl (fun _ => 0))), (q7, .inl (cI, 2, .inl (fun _ => 0))), (q8, .inl (cI, 2, .inl (fun _ => 0)))] H := hP
  have hD : va_D A [(h0, .inr (2, [.int 0, .ref q1, .null, .null])), (q1, .inr (0, [.int 7, .int 0, .int 0, .int 0, .int 0, .ref q2, .ref q3, .ref q4, .ref q5, .ref q6, .ref q7, .ref q8])), (q2, .inl (cI, 3, .inl (fun _ => 0))), (q3, .inl (cI, 3, .inl (fun _ => 0))), (q4, .inl (cI, 2, .inl (fun _ => 0))), (q5, .inl (cI, 2, .inl (fun _ => 0))), (q6, .inl (cI, 2, .inl (fun _ => 0))), (q7, .inl (cI, 2, .inl (fun _ => 0))), (q8, .inl (cI, 2, .inl (fun _ => 0)))] := hD
  refine lv_aload_n hx hb dX2_init_15 rfl (lv_at hl 0 rfl) ?_
  refine va_new (ci := 5) (fs := [.null, .int 0, .null, .int 0, .null, .int 0, .int 0, .int 0, .int 0]) (C := clsN 5) (T := clsT 5) (N := clsK 5) hx hb hts (uws_ok (c := 5) (by decide)) (clsTy 5) (cty_ok 5 (by decide)) hown (hts _ (tb_2 (i := 68) rfl rfl)) (hts _ (tb_1 (i := 127) rfl rfl)) (hts _ (tb_1 (i := 5) rfl rfl)) hK hP hD hS hA (ccl_ok 5 (by decide)) (fun j hj => by have hj : j < 9 := hj; rcases (show j = 0 ∨ j = 1 ∨ j = 2 ∨ j = 3 ∨ j = 4 ∨ j = 5 ∨ j = 6 ∨ j = 7 ∨ j = 8 by omega) with rfl | rfl | rfl | rfl | rfl | rfl | rfl | rfl | rfl <;> rfl) (Nat.le_of_ble_eq_true rfl) (Nat.le_of_ble_eq_true rfl) dX2_init_16 (fun q9 H hP hD hS => ?_)
  have hP : va_P D vwCl [(h0, .inr (2, [.int 0, .ref q1, .null, .null])), (q1, .inr (0, [.int 7, .int 0, .int 0, .int 0, .int 0, .ref q2, .ref q3, .ref q4, .ref q5, .ref q6, .ref q7, .ref q8])), (q2, .inl (cI, 3, .inl (fun _ => 0))), (q3, .inl (cI, 3, .inl (fun _ => 0))), (q4, .inl (cI, 2, .inl (fun _ => 0))), (q5, .inl (cI, 2, .inl (fun _ => 0))), (q6, .inl (cI, 2, .inl (fun _ => 0))), (q7, .inl (cI, 2, .inl (fun _ => 0))), (q8, .inl (cI, 2, .inl (fun _ => 0))), (q9, .inr (5, [.null, .int 0, .null, .int 0, .null, .int 0, .int 0, .int 0, .int 0]))] H := hP
  have hD : va_D A [(h0, .inr (2, [.int 0, .ref q1, .null, .null])), (q1, .inr (0, [.int 7, .int 0, .int 0, .int 0, .int 0, .ref q2, .ref q3, .ref q4, .ref q5, .ref q6, .ref q7, .ref q8])), (q2, .inl (cI, 3, .inl (fun _ => 0))), (q3, .inl (cI, 3, .inl (fun _ => 0))), (q4, .inl (cI, 2, .inl (fun _ => 0))), (q5, .inl (cI, 2, .inl (fun _ => 0))), (q6, .inl (cI, 2, .inl (fun _ => 0))), (q7, .inl (cI, 2, .inl (fun _ => 0))), (q8, .inl (cI, 2, .inl (fun _ => 0))), (q9, .inr (5, [.null, .int 0, .null, .int 0, .null, .int 0, .int 0, .int 0, .int 0]))] := hD
  refine lv_dup hx hb dX2_init_19 rfl ?_
  have hPc := hP.sub (ws' := [(q9, .inr (5, [.null, .int 0, .null, .int 0, .null, .int 0, .int 0, .int 0, .int 0]))]) [9] rfl
  have hDc := hD.sub (ws' := [(q9, .inr (5, [.null, .int 0, .null, .int 0, .null, .int 0, .int 0, .int 0, .int 0]))]) [9] (by decide) rfl
  have hFc := va_free (wc := [(q9, .inr (5, [.null, .int 0, .null, .int 0, .null, .int 0, .int 0, .int 0, .int 0]))]) hD hS hA [9] rfl
  refine va_callv (va_runI (As := []) (rest := [.ref q9, .ref h0]) ⟨hx, hb, hml, hown, hts⟩ (ct_5 l D cI cL cZ q9 H.size) (cwI 0 hts (goodC wc_5) rfl rfl rfl (hts _ wi_5) (hts _ (tb_2 (i := 69) rfl rfl)) (hts _ wm_5) rfl (by decide +kernel) ⟨Nat.le_of_ble_eq_true rfl, Nat.le_of_ble_eq_true rfl⟩) ⟨fun a U g mk q => by obtain ⟨q0, q1, qP, qK, qD⟩ := q; exact ⟨q0, q1, qP, va_K.moved (u := U) (U := U.calling g mk a) (Vm.Alike.refl U.vm) qK, qD⟩, fun U hU hW => ⟨rfl, by rw [hU], by rw [hU]; exact hPc, va_K.moved hW.alike hK, hDc.weaken (fun _ _ _ _ => trivial)⟩⟩ rfl rfl hl.1 rfl (lv_room (Nat.le_of_ble_eq_true rfl)) dX2_init_20 ⟨Nat.le_of_ble_eq_true rfl, Nat.le_of_ble_eq_true rfl⟩) hS (fun q _ h => hFc q h) hFc (fun u t H1 locs ht hvm hw hB hz1 hk1 hS => ?_)
  obtain ⟨q10, q11, q12, hP1, hD1⟩ := hB
  rw [ht] at hP1
  obtain ⟨hP, hD⟩ := va_join (wr := [(h0, .inr (2, [.int 0, .ref q1, .null, .null])), (q1, .inr (0, [.int 7, .int 0, .int 0, .int 0, .int 0, .ref q2, .ref q3, .ref q4, .ref q5, .ref q6, .ref q7, .ref q8])), (q2, .inl (cI, 3, .inl (fun _ => 0))), (q3, .inl (cI, 3, .inl (fun _ => 0))), (q4, .inl (cI, 2, .inl (fun _ => 0))), (q5, .inl (cI, 2, .inl (fun _ => 0))), (q6, .inl (cI, 2, .inl (fun _ => 0))), (q7, .inl (cI, 2, .inl (fun _ => 0))), (q8, .inl (cI, 2, .inl (fun _ => 0)))]) (w1 := [(q9, .inr (5, [.ref q10, .int 0, .ref q11, .int 0, .ref q12, .int 0, .int 0, .int 0, .int 0])), (q10, .inl (cI, 40, .inl (fun _ => 0))), (q11, .inl (cI, 40, .inl (fun _ => 0))), (q12, .inl (cL, 40, .inr (.inl (fun _ => 0))))]) hP hD [9] [0, 1, 2, 3, 4, 5, 6, 7, 8] rfl rfl (by decide) (by decide) hk1 hFc hP1 hD1
  generalize H1 = H at hP hS ⊢
  have hP : va_P D vwCl [(h0, .inr (2, [.int 0, .ref q1, .null, .null])), (q1, .inr (0, [.int 7, .int 0, .int 0, .int 0, .int 0, .ref q2, .ref q3, .ref q4, .ref q5, .ref q6, .ref q7, .ref q8])), (q2, .inl (cI, 3, .inl (fun _ => 0))), (q3, .inl (cI, 3, .inl (fun _ => 0))), (q4, .inl (cI, 2, .inl (fun _ => 0))), (q5, .inl (cI, 2, .inl (fun _ => 0))), (q6, .inl (cI, 2, .inl (fun _ => 0))), (q7, .inl (cI, 2, .inl (fun _ => 0))), (q8, .inl (cI, 2, .inl (fun _ => 0))), (q9, .inr (5, [.ref q10, .int 0, .ref q11, .int 0, .ref q12, .int 0, .int 0, .int 0, .int 0])), (q10, .inl (cI, 40, .inl (fun _ => 0))), (q11, .inl (cI, 40, .inl (fun _ => 0))), (q12, .inl (cL, 40, .inr (.inl (fun _ => 0))))] H := hP
  have hD : va_D A [(h0, .inr (2, [.int 0, .ref q1, .null, .null])), (q1, .inr (0, [.int 7, .int 0, .int 0, .int 0, .int 0, .ref q2, .ref q3, .ref q4, .ref q5, .ref q6, .ref q7, .ref q8])), (q2, .inl (cI, 3, .inl (fun _ => 0))), (q3, .inl (cI, 3, .inl (fun _ => 0))), (q4, .inl (cI, 2, .inl (fun _ => 0))), (q5, .inl (cI, 2, .inl (fun _ => 0))), (q6, .inl (cI, 2, .inl (fun _ => 0))), (q7, .inl (cI, 2, .inl (fun _ => 0))), (q8, .inl (cI, 2, .inl (fun _ => 0))), (q9, .inr (5, [.ref q10, .int 0, .ref q11, .int 0, .ref q12, .int 0, .int 0, .int 0, .int 0])), (q10, .inl (cI, 40, .inl (fun _ => 0))), (q11, .inl (cI, 40, .inl (fun _ => 0))), (q12, .inl (cL, 40, .inr (.inl (fun _ => 0))))] := hD
  refine va_putF (D := D) (ci := 2) (v := .ref q9) (ty := .object "BogBoards$Rule") (C := clsN 2) (T := clsT 2) (N := clsK 2) hx hb hts (uws_ok (c := 2) (by decide)) (clsTy 2) (cty_ok 2 (by decide)) (cnm_ok 2 (by decide)) hown hK hP hD hS 0 rfl (ccl_ok 2 (by decide)) 2 (by decide) (hts _ (tb_2 (i := 75) rfl rfl)) (fun _ h9 => h9) rfl hin rfl (by decide +kernel) rfl rfl (Nat.le_of_ble_eq_true rfl) dX2_init_23 (fun H locs hP hD hS => ?_)
  have hP : va_P D vwCl [(h0, .inr (2, [.int 0, .ref q1, .ref q9, .null])), (q1, .inr (0, [.int 7, .int 0, .int 0, .int 0, .int 0, .ref q2, .ref q3, .ref q4, .ref q5, .ref q6, .ref q7, .ref q8])), (q2, .inl (cI, 3, .inl (fun _ => 0))), (q3, .inl (cI, 3, .inl (fun _ => 0))), (q4, .inl (cI, 2, .inl (fun _ => 0))), (q5, .inl (cI, 2, .inl (fun _ => 0))), (q6, .inl (cI, 2, .inl (fun _ => 0))), (q7, .inl (cI, 2, .inl (fun _ => 0))), (q8, .inl (cI, 2, .inl (fun _ => 0))), (q9, .inr (5, [.ref q10, .int 0, .ref q11, .int 0, .ref q12, .int 0, .int 0, .int 0, .int 0])), (q10, .inl (cI, 40, .inl (fun _ => 0))), (q11, .inl (cI, 40, .inl (fun _ => 0))), (q12, .inl (cL, 40, .inr (.inl (fun _ => 0))))] H := hP
  have hD : va_D A [(h0, .inr (2, [.int 0, .ref q1, .ref q9, .null])), (q1, .inr (0, [.int 7, .int 0, .int 0, .int 0, .int 0, .ref q2, .ref q3, .ref q4, .ref q5, .ref q6, .ref q7, .ref q8])), (q2, .inl (cI, 3, .inl (fun _ => 0))), (q3, .inl (cI, 3, .inl (fun _ => 0))), (q4, .inl (cI, 2, .inl (fun _ => 0))), (q5, .inl (cI, 2, .inl (fun _ => 0))), (q6, .inl (cI, 2, .inl (fun _ => 0))), (q7, .inl (cI, 2, .inl (fun _ => 0))), (q8, .inl (cI, 2, .inl (fun _ => 0))), (q9, .inr (5, [.ref q10, .int 0, .ref q11, .int 0, .ref q12, .int 0, .int 0, .int 0, .int 0])), (q10, .inl (cI, 40, .inl (fun _ => 0))), (q11, .inl (cI, 40, .inl (fun _ => 0))), (q12, .inl (cL, 40, .inr (.inl (fun _ => 0))))] := hD
  refine lv_aload_n hx hb dX2_init_26 rfl (lv_at hl 0 rfl) ?_
  refine va_new (ci := 4) (fs := [.null, .int 0]) (C := clsN 4) (T := clsT 4) (N := clsK 4) hx hb hts (uws_ok (c := 4) (by decide)) (clsTy 4) (cty_ok 4 (by decide)) hown (hts _ (tb_2 (i := 70) rfl rfl)) (hts _ (tb_1 (i := 163) rfl rfl)) (hts _ (tb_1 (i := 6) rfl rfl)) hK hP hD hS hA (ccl_ok 4 (by decide)) (fun j hj => by have hj : j < 2 := hj; rcases (show j = 0 ∨ j = 1 by omega) with rfl | rfl <;> rfl) (Nat.le_of_ble_eq_true rfl) (Nat.le_of_ble_eq_true rfl) dX2_init_27 (fun q13 H hP hD hS => ?_)
  have hP : va_P D vwCl [(h0, .inr (2, [.int 0, .ref q1, .ref q9, .null])), (q1, .inr (0, [.int 7, .int 0, .int 0, .int 0, .int 0, .ref q2, .ref q3, .ref q4, .ref q5, .ref q6, .ref q7, .ref q8])), (q2, .inl (cI, 3, .inl (fun _ => 0))), (q3, .inl (cI, 3, .inl (fun _ => 0))), (q4, .inl (cI, 2, .inl (fun _ => 0))), (q5, .inl (cI, 2, .inl (fun _ => 0))), (q6, .inl (cI, 2, .inl (fun _ => 0))), (q7, .inl (cI, 2, .inl (fun _ => 0))), (q8, .inl (cI, 2, .inl (fun _ => 0))), (q9, .inr (5, [.ref q10, .int 0, .ref q11, .int 0, .ref q12, .int 0, .int 0, .int 0, .int 0])), (q10, .inl (cI, 40, .inl (fun _ => 0))), (q11, .inl (cI, 40, .inl (fun _ => 0))), (q12, .inl (cL, 40, .inr (.inl (fun _ => 0)))), (q13, .inr (4, [.null, .int 0]))] H := hP
  have hD : va_D A [(h0, .inr (2, [.int 0, .ref q1, .ref q9, .null])), (q1, .inr (0, [.int 7, .int 0, .int 0, .int 0, .int 0, .ref q2, .ref q3, .ref q4, .ref q5, .ref q6, .ref q7, .ref q8])), (q2, .inl (cI, 3, .inl (fun _ => 0))), (q3, .inl (cI, 3, .inl (fun _ => 0))), (q4, .inl (cI, 2, .inl (fun _ => 0))), (q5, .inl (cI, 2, .inl (fun _ => 0))), (q6, .inl (cI, 2, .inl (fun _ => 0))), (q7, .inl (cI, 2, .inl (fun _ => 0))), (q8, .inl (cI, 2, .inl (fun _ => 0))), (q9, .inr (5, [.ref q10, .int 0, .ref q11, .int 0, .ref q12, .int 0, .int 0, .int 0, .int 0])), (q10, .inl (cI, 40, .inl (fun _ => 0))), (q11, .inl (cI, 40, .inl (fun _ => 0))), (q12, .inl (cL, 40, .inr (.inl (fun _ => 0)))), (q13, .inr (4, [.null, .int 0]))] := hD
  refine lv_dup hx hb dX2_init_30 rfl ?_
  have hPc := hP.sub (ws' := [(q13, .inr (4, [.null, .int 0]))]) [13] rfl
  have hDc := hD.sub (ws' := [(q13, .inr (4, [.null, .int 0]))]) [13] (by decide) rfl
  have hFc := va_free (wc := [(q13, .inr (4, [.null, .int 0]))]) hD hS hA [13] rfl
  refine va_callv (va_runI (As := []) (rest := [.ref q13, .ref h0]) ⟨hx, hb, hml, hown, hts⟩ (ct_4 l D cI cL cZ q13 H.size) (cwI 0 hts (goodC wc_4) rfl rfl rfl (hts _ wi_4) (hts _ (tb_2 (i := 71) rfl rfl)) (hts _ wm_4) rfl (by decide +kernel) ⟨Nat.le_of_ble_eq_true rfl, Nat.le_of_ble_eq_true rfl⟩) ⟨fun a U g mk q => by obtain ⟨q0, q1, qP, qK, qD⟩ := q; exact ⟨q0, q1, qP, va_K.moved (u := U) (U := U.calling g mk a) (Vm.Alike.refl U.vm) qK, qD⟩, fun U hU hW => ⟨rfl, by rw [hU], by rw [hU]; exact hPc, va_K.moved hW.alike hK, hDc.weaken (fun _ _ _ _ => trivial)⟩⟩ rfl rfl hl.1 rfl (lv_room (Nat.le_of_ble_eq_true rfl)) dX2_init_31 ⟨Nat.le_of_ble_eq_true rfl, Nat.le_of_ble_eq_true rfl⟩) hS (fun q _ h => hFc q h) hFc (fun u t H1 locs ht hvm hw hB hz1 hk1 hS => ?_)
  obtain ⟨q14, hP1, hD1⟩ := hB
  rw [ht] at hP1
  obtain ⟨hP, hD⟩ := va_join (wr := [(h0, .inr (2, [.int 0, .ref q1, .ref q9, .null])), (q1, .inr (0, [.int 7, .int 0, .int 0, .int 0, .int 0, .ref q2, .ref q3, .ref q4, .ref q5, .ref q6, .ref q7, .ref q8])), (q2, .inl (cI, 3, .inl (fun _ => 0))), (q3, .inl (cI, 3, .inl (fun _ => 0))), (q4, .inl (cI, 2, .inl (fun _ => 0))), (q5, .inl (cI, 2, .inl (fun _ => 0))), (q6, .inl (cI, 2, .inl (fun _ => 0))), (q7, .inl (cI, 2, .inl (fun _ => 0))), (q8, .inl (cI, 2, .inl (fun _ => 0))), (q9, .inr (5, [.ref q10, .int 0, .ref q11, .int 0, .ref q12, .int 0, .int 0, .int 0, .int 0])), (q10, .inl (cI, 40, .inl (fun _ => 0))), (q11, .inl (cI, 40, .inl (fun _ => 0))), (q12, .inl (cL, 40, .inr (.inl (fun _ => 0))))]) (w1 := [(q13, .inr (4, [.ref q14, .int 0])), (q14, .inl (cI, 8, .inl (fun _ => 0)))]) hP hD [13] [0, 1, 2, 3, 4, 5, 6, 7, 8, 9, 10, 11, 12] rfl rfl (by decide) (by decide) hk1 hFc hP1 hD1
  generalize H1 = H at hP hS ⊢
  have hP : va_P D vwCl [(h0, .inr (2, [.int 0, .ref q1, .ref q9, .null])), (q1, .inr (0, [.int 7, .int 0, .int 0, .int 0, .int 0, .ref q2, .ref q3, .ref q4, .ref q5, .ref q6, .ref q7, .ref q8])), (q2, .inl (cI, 3, .inl (fun _ => 0))), (q3, .inl (cI, 3, .inl (fun _ => 0))), (q4, .inl (cI, 2, .inl (fun _ => 0))), (q5, .inl (cI, 2, .inl (fun _ => 0))), (q6, .inl (cI, 2, .inl (fun _ => 0))), (q7, .inl (cI, 2, .inl (fun _ => 0))), (q8, .inl (cI, 2, .inl (fun _ => 0))), (q9, .inr (5, [.ref q10, .int 0, .ref q11, .int 0, .ref q12, .int 0, .int 0, .int 0, .int 0])), (q10, .inl (cI, 40, .inl (fun _ => 0))), (q11, .inl (cI, 40, .inl (fun _ => 0))), (q12, .inl (cL, 40, .inr (.inl (fun _ => 0)))), (q13, .inr (4, [.ref q14, .int 0])), (q14, .inl (cI, 8, .inl (fun _ => 0)))] H := hP
  have hD : va_D A [(h0, .inr (2, [.int 0, .ref q1, .ref q9, .null])), (q1, .inr (0, [.int 7, .int 0, .int 0, .int 0, .int 0, .ref q2, .ref q3, .ref q4, .ref q5, .ref q6, .ref q7, .ref q8])), (q2, .inl (cI, 3, .inl (fun _ => 0))), (q3, .inl (cI, 3, .inl (fun _ => 0))), (q4, .inl (cI, 2, .inl (fun _ => 0))), (q5, .inl (cI, 2, .inl (fun _ => 0))), (q6, .inl (cI, 2, .inl (fun _ => 0))), (q7, .inl (cI, 2, .inl (fun _ => 0))), (q8, .inl (cI, 2, .inl (fun _ => 0))), (q9, .inr (5, [.ref q10, .int 0, .ref q11, .int 0, .ref q12, .int 0, .int 0, .int 0, .int 0])), (q10, .inl (cI, 40, .inl (fun _ => 0))), (q11, .inl (cI, 40, .inl (fun _ => 0))), (q12, .inl (cL, 40, .inr (.inl (fun _ => 0)))), (q13, .inr (4, [.ref q14, .int 0])), (q14, .inl (cI, 8, .inl (fun _ => 0)))] := hD
  refine va_putF (D := D) (ci := 2) (v := .ref q13) (ty := .object "BogBoards$Past") (C := clsN 2) (T := clsT 2) (N := clsK 2) hx hb hts (uws_ok (c := 2) (by decide)) (clsTy 2) (cty_ok 2 (by decide)) (cnm_ok 2 (by decide)) hown hK hP hD hS 0 rfl (ccl_ok 2 (by decide)) 3 (by decide) (hts _ (tb_2 (i := 77) rfl rfl)) (fun _ h9 => h9) rfl hin rfl (by decide +kernel) rfl rfl (Nat.le_of_ble_eq_true rfl) dX2_init_34 (fun H locs hP hD hS => ?_)
  have hP : va_P D vwCl [(h0, .inr (2, [.int 0, .ref q1, .ref q9, .ref q13])), (q1, .inr (0, [.int 7, .int 0, .int 0, .int 0, .int 0, .ref q2, .ref q3, .ref q4, .ref q5, .ref q6, .ref q7, .ref q8])), (q2, .inl (cI, 3, .inl (fun _ => 0))), (q3, .inl (cI, 3, .inl (fun _ => 0))), (q4, .inl (cI, 2, .inl (fun _ => 0))), (q5, .inl (cI, 2, .inl (fun _ => 0))), (q6, .inl (cI, 2, .inl (fun _ => 0))), (q7, .inl (cI, 2, .inl (fun _ => 0))), (q8, .inl (cI, 2, .inl (fun _ => 0))), (q9, .inr (5, [.ref q10, .int 0, .ref q11, .int 0, .ref q12, .int 0, .int 0, .int 0, .int 0])), (q10, .inl (cI, 40, .inl (fun _ => 0))), (q11, .inl (cI, 40, .inl (fun _ => 0))), (q12, .inl (cL, 40, .inr (.inl (fun _ => 0)))), (q13, .inr (4, [.ref q14, .int 0])), (q14, .inl (cI, 8, .inl (fun _ => 0)))] H := hP
  have hD : va_D A [(h0, .inr (2, [.int 0, .ref q1, .ref q9, .ref q13])), (q1, .inr (0, [.int 7, .int 0, .int 0, .int 0, .int 0, .ref q2, .ref q3, .ref q4, .ref q5, .ref q6, .ref q7, .ref q8])), (q2, .inl (cI, 3, .inl (fun _ => 0))), (q3, .inl (cI, 3, .inl (fun _ => 0))), (q4, .inl (cI, 2, .inl (fun _ => 0))), (q5, .inl (cI, 2, .inl (fun _ => 0))), (q6, .inl (cI, 2, .inl (fun _ => 0))), (q7, .inl (cI, 2, .inl (fun _ => 0))), (q8, .inl (cI, 2, .inl (fun _ => 0))), (q9, .inr (5, [.ref q10, .int 0, .ref q11, .int 0, .ref q12, .int 0, .int 0, .int 0, .int 0])), (q10, .inl (cI, 40, .inl (fun _ => 0))), (q11, .inl (cI, 40, .inl (fun _ => 0))), (q12, .inl (cL, 40, .inr (.inl (fun _ => 0)))), (q13, .inr (4, [.ref q14, .int 0])), (q14, .inl (cI, 8, .inl (fun _ => 0)))] := hD
  have hP9 := hP.sub (ws' := [(h0, .inr (2, [.int 0, .ref q1, .ref q9, .ref q13])), (q1, .inr (0, [.int 7, .int 0, .int 0, .int 0, .int 0, .ref q2, .ref q3, .ref q4, .ref q5, .ref q6, .ref q7, .ref q8])), (q2, .inl (cI, 3, .inl (fun _ => 0))), (q3, .inl (cI, 3, .inl (fun _ => 0))), (q4, .inl (cI, 2, .inl (fun _ => 0))), (q5, .inl (cI, 2, .inl (fun _ => 0))), (q6, .inl (cI, 2, .inl (fun _ => 0))), (q7, .inl (cI, 2, .inl (fun _ => 0))), (q8, .inl (cI, 2, .inl (fun _ => 0))), (q9, .inr (5, [.ref q10, .int 0, .ref q11, .int 0, .ref q12, .int 0, .int 0, .int 0, .int 0])), (q10, .inl (cI, 40, .inl (fun _ => 0))), (q11, .inl (cI, 40, .inl (fun _ => 0))), (q12, .inl (cL, 40, .inr (.inl (fun _ => 0)))), (q13, .inr (4, [.ref q14, .int 0])), (q14, .inl (cI, 8, .inl (fun _ => 0)))]) [0, 1, 2, 3, 4, 5, 6, 7, 8, 9, 10, 11, 12, 13, 14] rfl
  have hD9 := hD.sub (ws' := [(h0, .inr (2, [.int 0, .ref q1, .ref q9, .ref q13])), (q1, .inr (0, [.int 7, .int 0, .int 0, .int 0, .int 0, .ref q2, .ref q3, .ref q4, .ref q5, .ref q6, .ref q7, .ref q8])), (q2, .inl (cI, 3, .inl (fun _ => 0))), (q3, .inl (cI, 3, .inl (fun _ => 0))), (q4, .inl (cI, 2, .inl (fun _ => 0))), (q5, .inl (cI, 2, .inl (fun _ => 0))), (q6, .inl (cI, 2, .inl (fun _ => 0))), (q7, .inl (cI, 2, .inl (fun _ => 0))), (q8, .inl (cI, 2, .inl (fun _ => 0))), (q9, .inr (5, [.ref q10, .int 0, .ref q11, .int 0, .ref q12, .int 0, .int 0, .int 0, .int 0])), (q10, .inl (cI, 40, .inl (fun _ => 0))), (q11, .inl (cI, 40, .inl (fun _ => 0))), (q12, .inl (cL, 40, .inr (.inl (fun _ => 0)))), (q13, .inr (4, [.ref q14, .int 0])), (q14, .inl (cI, 8, .inl (fun _ => 0)))]) [0, 1, 2, 3, 4, 5, 6, 7, 8, 9, 10, 11, 12, 13, 14] (by decide) rfl
  refine W.widen (k := 14) (n := 167) (Nat.le_of_ble_eq_true rfl) (Nat.le_of_ble_eq_true rfl) ?_
  refine W.vret hx hb hr (fun t ht hW => ⟨⟨(), rfl, trivial, q1, q2, q3, q4, q5, q6, q7, q8, q9, q10, q11, q12, q13, q14, by rw [ht]; exact hP9, hD9⟩, hS.F ht⟩) hS.2.2 dX2_init_37

