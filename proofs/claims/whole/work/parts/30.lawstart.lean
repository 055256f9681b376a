/-! From the law's entry to its loop, and out of it (printed by gen30.py). -/
set_option maxRecDepth 100000 in
theorem w_inst (k : Nat) (hk : k < 12) : Cond.instantiable (clsN k) (clsK k) ∈ TBL := match k, hk with
  | 0, _ => tb_1 (i := 28) rfl rfl
  | 1, _ => tb_2 (i := 37) rfl rfl
  | 2, _ => tb_2 (i := 61) rfl rfl
  | 3, _ => tb_1 (i := 224) rfl rfl
  | 4, _ => tb_1 (i := 163) rfl rfl
  | 5, _ => tb_1 (i := 127) rfl rfl
  | 6, _ => tb_1 (i := 177) rfl rfl
  | 7, _ => tb_1 (i := 230) rfl rfl
  | 8, _ => tb_1 (i := 86) rfl rfl
  | 9, _ => tb_1 (i := 101) rfl rfl
  | 10, _ => tb_1 (i := 20) rfl rfl
  | 11, _ => tb_5 (i := 78) rfl rfl
  | _ + 12, h => absurd h (by omega)
def I0 (Ls : Nat) (xs : Nat → Int32) : MM := fun a i => match a with
  | 2 => if i = 0 then 7 else 0
  | 10 => if i = 0 then 7 else 0
  | 41 => if i = 0 then 7 else 0
  | 56 => if i = 0 then 7 else 0
  | 27 => if i = 10 then -9 else 0
  | 32 => if 0 ≤ i ∧ i < 2 then -9 else 0
  | 33 => if 0 ≤ i ∧ i < 3 then -9 else 0
  | 34 => if i = 2 then -1 else 0
  | 36 => if i = 4 then 1 else 0
  | 38 => if i = 0 then 1 else 0
  | 71 => if i = 8 then 7 else if 1 ≤ i ∧ i ≤ 6 then 2 else 0
  | 75 => if i = 64 then 1 else 0
  | 76 => if i = 1 then 1 else 0
  | 100 => if i = -1 then (Ls : Int) else (xs i.toNat).toInt
  | _ => 0
def adAll (sad : Nat → Nat) (lx lm : List Nat) (k : Nat) : Nat := if k < 70 then lx.getD (k - 1) 0 else if k < 89 then lm.getD (k - 70) 0 else sad k
theorem e_32 (L : Nat) (xs : Nat → Int32) : (upd (upd (fun _ => 0) 0 (-9)) 1 (-9)) = fun j : Nat => Int32.ofInt (I0 L xs 32 j) := by
  funext j
  match j with
  | 0 => rfl
  | 1 => rfl
  | j + 2 =>
    have e : ¬ (0 ≤ ((j + 2 : Nat) : Int) ∧ ((j + 2 : Nat) : Int) < 2) := by omega
    simp only [I0, if_neg e, upd]
    rfl
theorem e_33 (L : Nat) (xs : Nat → Int32) : (upd (upd (upd (fun _ => 0) 0 (-9)) 1 (-9)) 2 (-9)) = fun j : Nat => Int32.ofInt (I0 L xs 33 j) := by
  funext j
  match j with
  | 0 => rfl
  | 1 => rfl
  | 2 => rfl
  | j + 3 =>
    have e : ¬ (0 ≤ ((j + 3 : Nat) : Int) ∧ ((j + 3 : Nat) : Int) < 3) := by omega
    simp only [I0, if_neg e, upd]
    rfl
theorem e_38 (L : Nat) (xs : Nat → Int32) : (vp_updL (vp_updL (vp_updL (vp_updL (fun _ => 0) 0 1) 1 0) 2 0) 3 0) = fun j : Nat => Int64.ofInt (I0 L xs 38 j) := by
  funext j
  match j with
  | 0 => rfl
  | 1 => rfl
  | 2 => rfl
  | 3 => rfl
  | j + 4 =>
    have e : ¬ (((j + 4 : Nat) : Int) = 0) := by omega
    simp only [I0, if_neg e, vp_updL]
    rfl
theorem okM_I0 {L : Nat} {xs : Nat → Int32} (hL : L ≤ 2048) : okM (I0 L xs) := by
  have z2 : ∀ (c : Prop) [Decidable c] (v : Int), ok32 v → okT 0 (if c then v else 0) := fun c _ v hv => by
    split
    · exact hv
    · exact okT_0 0
  have fk0 : ∀ c, c < 12 → ∀ t : Int, fk c t.toNat = 3 ∨ fk c t.toNat = 9 ∨ fk c t.toNat = 0 ∨ fk c t.toNat = 1 ∨ fk c t.toNat = 2 := fun c hc t => by
    have h : ∀ c, c < 12 → ∀ j, j < 40 → fk c j = 3 ∨ fk c j = 9 ∨ fk c j = 0 ∨ fk c j = 1 ∨ fk c j = 2 := by decide +kernel
    by_cases hj : t.toNat < 40
    · exact h c hc _ hj
    · right; left
      have h2 : ∀ c, c < 12 → (fkT.getD c []).length ≤ 39 := by decide +kernel
      unfold fk
      rw [List.getD_eq_getElem?_getD, List.getElem?_eq_none (by have := h2 c hc; omega)]
      rfl
  have ob : ∀ (a c : Nat) (i : Int) (n : Nat) (v : Int), cT a = (0, c) → c < 12 → fk c n = 0 → ok32 v → okT (tyOf a i) (if i = (n : Int) then v else 0) := fun a c i n v ha hc hn hv => by
    by_cases hi : i = (n : Int)
    · rw [if_pos hi, hi, tyOf_o (k := c) (by rw [ha]) (by rw [ha]), hn]
      exact hv
    · rw [if_neg hi]; exact okT_0 _
  intro a i
  unfold I0
  split
  · exact ob 2 0 i 0 7 rfl (by decide) rfl ⟨by decide, by decide⟩
  · exact ob 10 0 i 0 7 rfl (by decide) rfl ⟨by decide, by decide⟩
  · exact ob 41 0 i 0 7 rfl (by decide) rfl ⟨by decide, by decide⟩
  · exact ob 56 0 i 0 7 rfl (by decide) rfl ⟨by decide, by decide⟩
  · exact ob 27 6 i 10 (-9) rfl (by decide) rfl ⟨by decide, by decide⟩
  · exact z2 _ _ ⟨by decide, by decide⟩
  · exact z2 _ _ ⟨by decide, by decide⟩
  · exact ob 34 3 i 2 (-1) rfl (by decide) rfl ⟨by decide, by decide⟩
  · exact ob 36 1 i 4 1 rfl (by decide) rfl ⟨by decide, by decide⟩
  · show ok64 _
    split <;> exact ⟨by decide, by decide⟩
  · show ok32 _
    split
    · exact ⟨by decide, by decide⟩
    · split <;> exact ⟨by decide, by decide⟩
  · show ok64 _
    split <;> exact ⟨by decide, by decide⟩
  · exact z2 _ _ ⟨by decide, by decide⟩
  · show ok32 _
    split
    · exact ⟨by omega, by omega⟩
    · exact ok32_i _
  · exact okT_0 _
theorem Wd_273 : Wd 273 = WL := by unfold Wd; rw [wid_273]; rfl
theorem WL_cases {k : Nat} (h : k ∈ WL) : k ∈ WX ∨ k ∈ WM := by
  have h1 : ∀ k ∈ WL, k ∈ WX ∨ k ∈ WM := by decide +kernel
  exact h1 k h
theorem WM_cell {cI cL cZ : ClassId} {sad : Nat → Nat} {lx lm : List Nat} {L : Nat} {xs : Nat → Int32} {k : Nat} (h : k ∈ WM) : (adAll sad lx lm k, cellE cI cL cZ (adAll sad lx lm) (I0 L xs) k) = (adMo sad lm k, cellE cI cL cZ (adMo sad lm) Im k) := by
  have h1 : ∀ k ∈ WM, 70 ≤ k ∧ k ≤ 88 := by decide +kernel
  obtain ⟨h2, h3⟩ := h1 k h
  have hk : k = 70 ∨ k = 71 ∨ k = 72 ∨ k = 73 ∨ k = 74 ∨ k = 75 ∨ k = 76 ∨ k = 77 ∨ k = 78 ∨ k = 79 ∨ k = 80 ∨ k = 81 ∨ k = 82 ∨ k = 83 ∨ k = 84 ∨ k = 85 ∨ k = 86 ∨ k = 87 ∨ k = 88 := by omega
  rcases hk with rfl | rfl | rfl | rfl | rfl | rfl | rfl | rfl | rfl | rfl | rfl | rfl | rfl | rfl | rfl | rfl | rfl | rfl | rfl <;> rfl
/-- the pure statement that is left: from its loop's head the law comes to its end with 1 -/
def LawPure : Prop := ∀ (L : Nat) (xs : Nat → Int32), L ≤ 2048 → ∃ I' : MM, runs (call 100) 273 18 [vR 100, vR 1, vR 70, vI 0] [] (I0 L xs) = some (some (vI 1), I')

theorem dLw_0 : decode code 0 = .ok (.new 7, 3) := dec_273 (0, .new 7, 3) (List.mem_append_left _ (List.mem_of_getElem? (i := 0) rfl))
theorem dLw_1 : decode code 3 = .ok (.dup, 1) := dec_273 (3, .dup, 1) (List.mem_append_left _ (List.mem_of_getElem? (i := 1) rfl))
theorem dLw_2 : decode code 4 = .ok (.invokespecial 9, 3) := dec_273 (4, .invokespecial 9, 3) (List.mem_append_left _ (List.mem_of_getElem? (i := 2) rfl))
theorem dLw_3 : decode code 7 = .ok (.astore_n 1, 1) := dec_273 (7, .astore_n 1, 1) (List.mem_append_left _ (List.mem_of_getElem? (i := 3) rfl))
theorem dLw_4 : decode code 8 = .ok (.new 10, 3) := dec_273 (8, .new 10, 3) (List.mem_append_left _ (List.mem_of_getElem? (i := 4) rfl))
theorem dLw_5 : decode code 11 = .ok (.dup, 1) := dec_273 (11, .dup, 1) (List.mem_append_left _ (List.mem_of_getElem? (i := 5) rfl))
theorem dLw_6 : decode code 12 = .ok (.invokespecial 12, 3) := dec_273 (12, .invokespecial 12, 3) (List.mem_append_left _ (List.mem_of_getElem? (i := 6) rfl))
theorem dLw_7 : decode code 15 = .ok (.astore_n 2, 1) := dec_273 (15, .astore_n 2, 1) (List.mem_append_left _ (List.mem_of_getElem? (i := 7) rfl))
theorem dLw_8 : decode code 16 = .ok (.iconst 0, 1) := dec_273 (16, .iconst 0, 1) (List.mem_append_left _ (List.mem_of_getElem? (i := 8) rfl))
theorem dLw_9 : decode code 17 = .ok (.istore_n 3, 1) := dec_273 (17, .istore_n 3, 1) (List.mem_append_left _ (List.mem_of_getElem? (i := 9) rfl))
set_option maxHeartbeats 8000000 in
set_option maxRecDepth 100000 in
theorem law_start (hpure : LawPure) {p : Program} {e : Env} {s : State} {m : MethodId} {below : List Frame} {meth : Method} {c : Code} (l : Launch) {b L : Nat} {xs : Nat → Int32} (hL : L ≤ 2048) (hx : p.tables.exec = Jvm.exec) (hb : c.code = code) (hr : meth.sig.returnType = ret) (hml : c.maxLocals = 4) (hown : s.vm.findClass RL = some m.cls) (hts : ∀ w ∈ lw_tbl, w.before #[Value.ref b] s = true) (hX : va_X b L xs s s.heap) (hbl : b < s.heap.size) (hlocks : meth.locks = false) (hgv : (Jvm.Cond.and given_1 narrow_1).before #[Value.ref b] s = true) {Q : State → Prop}
    (hend : ∀ (pc : Nat) (H : Heap) (ls : Array Slot), decode code pc = .ok (.ireturn, 1) → W p l e room_1 s m #[Value.ref b] below meth c H [] 600000 7302250 Q (F0 m pc ls [.int 1])) :
    W p l e room_1 s m #[Value.ref b] below meth c s.heap [] 0 0 Q (entryFrame m ([Value.ref b] : List Value).toArray 4) := by
  have htT : ∀ w ∈ TBL, w.before #[Value.ref b] s = true := fun w hw => hts w (List.mem_filter.mp hw).1
  have hA : ∀ q : Nat, s.heap.size ≤ q → (fun q : Nat => s.heap.size ≤ q) q := fun _ h => h
  obtain ⟨sad, rv0, hv99, hSt, h100⟩ := law_static (A := fun q : Nat => s.heap.size ≤ q) hgv hts (fun a h => Nat.not_le.mpr h)
  have hkn : ∀ k : Nat, ∃ q : ClassId × (Nat → Nat), k < 12 → u_Kn s (clsN k) (clsT k) (clsK k) q.1 q.2 := fun k => by
    by_cases hk : k < 12
    · obtain ⟨cC, iS, h⟩ := u_known (n := clsK k) htT (uws_ok hk) (htT _ (w_inst k hk))
      exact ⟨(cC, iS), fun _ => h⟩
    · exact ⟨(0, fun _ => 0), fun h => absurd h hk⟩
  obtain ⟨f, hf⟩ := Classical.axiomOfChoice hkn
  obtain ⟨D, hDk⟩ : ∃ D : va_G, ∀ (k : Nat) (q : vw_C), vwCl[k]? = some q → u_Kn s q.1 q.2.1 q.2.2 (D.1 k) (D.2 k) := by
    refine ⟨(fun k => (f k).1, fun k => (f k).2), fun k q hq => ?_⟩
    have hk : k < 12 := (List.getElem?_eq_some_iff.mp hq).1
    rw [ccl_ok k hk] at hq
    cases hq
    exact hf k hk
  obtain ⟨cI, kI, mI', i1, i2, i3⟩ := Cond.arrayClass_spec (args := #[Value.ref b]) (first := s) (o := none) (s := s) (idx := []) (htT _ w_a_int)
  obtain ⟨cL, kL, mL', l1, l2, l3⟩ := Cond.arrayClass_spec (args := #[Value.ref b]) (first := s) (o := none) (s := s) (idx := []) (htT _ w_a_long)
  obtain ⟨cZ, kZ, mZ', z1, z2, z3⟩ := Cond.arrayClass_spec (args := #[Value.ref b]) (first := s) (o := none) (s := s) (idx := []) (htT _ w_a_boolean)
  have hK : va_K D vwCl (tysG cI cL cZ) s := ⟨hDk, fun k q h => by
    match k, h with
    | 0, h => cases h; exact ⟨fun n z => ⟨fun k h => (by cases h), kI, i2, mI', i3⟩, i1⟩
    | 1, h => cases h; exact ⟨fun n z => ⟨fun k h => (by cases h), kL, l2, mL', l3⟩, l1⟩
    | 2, h => cases h; exact ⟨fun n z => ⟨fun k h => (by cases h), kZ, z2, mZ', z3⟩, z1⟩
    | k + 3, h => cases h⟩
  have hS : va_S (fun q : Nat => s.heap.size ≤ q) s.heap s.heap [] := va_S.rf
  have hP : va_P D vwCl [] s.heap := fun k q h => by simp at h
  have hD : va_D (fun q : Nat => s.heap.size ≤ q) [] := ⟨fun i j p q h => by simp at h, fun k q h => by simp at h⟩
  have hl := lv_entry ([.ref b]) (n := 4) (Nat.le_of_ble_eq_true rfl)
  rw [lg_entry_eq]
  generalize (lg_sl ([.ref b]) ++ List.replicate (4 - (lg_sl ([.ref b])).length) Slot.unset).toArray = ls at hl ⊢
  have hl : lv_has ls 4 [(0, .ref b)] := hl
  refine va_new (ci := 10) (fs := [.null, .null, .null, .null, .null, .null, .null, .null, .null, .null, .null, .int 0, .int 0, .int 0]) (C := clsN 10) (T := clsT 10) (N := clsK 10) hx hb htT (uws_ok (c := 10) (by decide)) (clsTy 10) (cty_ok 10 (by decide)) hown (htT _ (tb_1 (i := 19) rfl rfl)) (htT _ (tb_1 (i := 20) rfl rfl)) (htT _ (tb_1 (i := 1) rfl rfl)) hK hP hD hS hA (ccl_ok 10 (by decide)) (fun j hj => by have hj : j < 14 := hj; rcases (show j = 0 ∨ j = 1 ∨ j = 2 ∨ j = 3 ∨ j = 4 ∨ j = 5 ∨ j = 6 ∨ j = 7 ∨ j = 8 ∨ j = 9 ∨ j = 10 ∨ j = 11 ∨ j = 12 ∨ j = 13 by omega) with rfl | rfl | rfl | rfl | rfl | rfl | rfl | rfl | rfl | rfl | rfl | rfl | rfl | rfl <;> rfl) (Nat.le_of_ble_eq_true rfl) (Nat.le_of_ble_eq_true rfl) dLw_0 (fun x0 H hP hD hS => ?_)
  have hP : va_P D vwCl [(x0, .inr (10, [.null, .null, .null, .null, .null, .null, .null, .null, .null, .null, .null, .int 0, .int 0, .int 0]))] H := hP
  have hD : va_D (fun q : Nat => s.heap.size ≤ q) [(x0, .inr (10, [.null, .null, .null, .null, .null, .null, .null, .null, .null, .null, .null, .int 0, .int 0, .int 0]))] := hD
  refine lv_dup hx hb dLw_1 rfl ?_
  have hFc := va_free (wc := [(x0, .inr (10, [.null, .null, .null, .null, .null, .null, .null, .null, .null, .null, .null, .int 0, .int 0, .int 0]))]) hD hS hA [0] rfl
  refine va_callv (va_runI (As := []) (rest := [.ref x0]) ⟨hx, hb, hml, hown, htT⟩ (ct_10 l D cI cL cZ x0 H.size) (cwI 0 htT (goodC wc_10) rfl rfl rfl (htT _ wi_10) (htT _ (tb_1 (i := 21) rfl rfl)) (htT _ wm_10) rfl (by decide +kernel) ⟨Nat.le_of_ble_eq_true rfl, Nat.le_of_ble_eq_true rfl⟩) ⟨fun a U g mk q => by obtain ⟨q0, q1, qP, qK, qD⟩ := q; exact ⟨q0, q1, qP, va_K.moved (u := U) (U := U.calling g mk a) (Vm.Alike.refl U.vm) qK, qD⟩, fun U hU hW => ⟨rfl, by rw [hU], by rw [hU]; exact hP, va_K.moved hW.alike hK, hD.weaken (fun _ _ _ _ => trivial)⟩⟩ rfl rfl hl.1 rfl (lv_room (Nat.le_of_ble_eq_true rfl)) dLw_2 ⟨Nat.le_of_ble_eq_true rfl, Nat.le_of_ble_eq_true rfl⟩) hS (fun q _ h => hFc q h) hFc (fun u t H1 locs ht hvm hw hB hz1 hk1 hS => ?_)
  obtain ⟨q1, q2, q3, q4, q5, q6, q7, q8, q9, q10, q11, q12, q13, q14, q15, q16, q17, q18, q19, q20, q21, q22, q23, q24, q25, q26, q27, q28, q29, q30, q31, q32, q33, q34, q35, q36, q37, q38, q39, q40, q41, q42, q43, q44, q45, q46, q47, q48, q49, q50, q51, q52, q53, q54, q55, q56, q57, q58, q59, q60, q61, q62, q63, q64, q65, q66, q67, q68, hP1, hD1⟩ := hB
  rw [ht] at hP1
  obtain ⟨hP, hD⟩ := va_join (wr := []) (w1 := [(x0, .inr (10, [.ref q1, .ref q9, .ref q17, .ref q19, .ref q20, .ref q24, .ref q26, .ref q33, .ref q35, .ref q39, .ref q54, .int 0, .int 0, .int 0])), (q1, .inr (0, [.int 7, .int 0, .int 0, .int 0, .int 0, .ref q2, .ref q3, .ref q4, .ref q5, .ref q6, .ref q7, .ref q8])), (q2, .inl (cI, 3, .inl (fun _ => 0))), (q3, .inl (cI, 3, .inl (fun _ => 0))), (q4, .inl (cI, 2, .inl (fun _ => 0))), (q5, .inl (cI, 2, .inl (fun _ => 0))), (q6, .inl (cI, 2, .inl (fun _ => 0))), (q7, .inl (cI, 2, .inl (fun _ => 0))), (q8, .inl (cI, 2, .inl (fun _ => 0))), (q9, .inr (0, [.int 7, .int 0, .int 0, .int 0, .int 0, .ref q10, .ref q11, .ref q12, .ref q13, .ref q14, .ref q15, .ref q16])), (q10, .inl (cI, 3, .inl (fun _ => 0))), (q11, .inl (cI, 3, .inl (fun _ => 0))), (q12, .inl (cI, 2, .inl (fun _ => 0))), (q13, .inl (cI, 2, .inl (fun _ => 0))), (q14, .inl (cI, 2, .inl (fun _ => 0))), (q15, .inl (cI, 2, .inl (fun _ => 0))), (q16, .inl (cI, 2, .inl (fun _ => 0))), (q17, .inr (8, [.ref q18, .int 0])), (q18, .inl (cI, 200, .inl (fun _ => 0))), (q19, .inr (9, [.ref q17, .int 0, .int 0, .int 0, .int 0, .int 0])), (q20, .inr (5, [.ref q21, .int 0, .ref q22, .int 0, .ref q23, .int 0, .int 0, .int 0, .int 0])), (q21, .inl (cI, 40, .inl (fun _ => 0))), (q22, .inl (cI, 40, .inl (fun _ => 0))), (q23, .inl (cL, 40, .inr (.inl (fun _ => 0)))), (q24, .inr (4, [.ref q25, .int 0])), (q25, .inl (cI, 8, .inl (fun _ => 0))), (q26, .inr (6, [.ref q27, .ref q28, .ref q29, .ref q30, .int 0, .int 0, .int 0, .int 0, .int 0, .int 0, .int (-9), .ref q31, .ref q32])), (q27, .inl (cI, 131072, .inl (fun _ => 0))), (q28, .inl (cI, 131072, .inl (fun _ => 0))), (q29, .inl (cI, 131072, .inl (fun _ => 0))), (q30, .inl (cI, 64, .inl (fun _ => 0))), (q31, .inl (cI, 2, .inl (upd (upd (fun _ => 0) 0 (-9)) 1 (-9)))), (q32, .inl (cI, 3, .inl (upd (upd (upd (fun _ => 0) 0 (-9)) 1 (-9)) 2 (-9)))), (q33, .inr (3, [.ref q34, .int 0, .int (-1), .int 0])), (q34, .inr (7, [.int 0, .int 0, .int 0, .int 0, .int 0, .int 0])), (q35, .inr (1, [.ref q36, .ref q37, .ref q38, .int 0, .int 1])), (q36, .inl (cL, 4, .inr (.inl (fun _ => 0)))), (q37, .inl (cL, 4, .inr (.inl (vp_updL (vp_updL (vp_updL (vp_updL (fun _ => 0) 0 1) 1 0) 2 0) 3 0)))), (q38, .inl (cL, 4, .inr (.inl (fun _ => 0)))), (q39, .inr (2, [.int 0, .ref q40, .ref q48, .ref q52])), (q40, .inr (0, [.int 7, .int 0, .int 0, .int 0, .int 0, .ref q41, .ref q42, .ref q43, .ref q44, .ref q45, .ref q46, .ref q47])), (q41, .inl (cI, 3, .inl (fun _ => 0))), (q42, .inl (cI, 3, .inl (fun _ => 0))), (q43, .inl (cI, 2, .inl (fun _ => 0))), (q44, .inl (cI, 2, .inl (fun _ => 0))), (q45, .inl (cI, 2, .inl (fun _ => 0))), (q46, .inl (cI, 2, .inl (fun _ => 0))), (q47, .inl (cI, 2, .inl (fun _ => 0))), (q48, .inr (5, [.ref q49, .int 0, .ref q50, .int 0, .ref q51, .int 0, .int 0, .int 0, .int 0])), (q49, .inl (cI, 40, .inl (fun _ => 0))), (q50, .inl (cI, 40, .inl (fun _ => 0))), (q51, .inl (cL, 40, .inr (.inl (fun _ => 0)))), (q52, .inr (4, [.ref q53, .int 0])), (q53, .inl (cI, 8, .inl (fun _ => 0))), (q54, .inr (2, [.int 0, .ref q55, .ref q63, .ref q67])), (q55, .inr (0, [.int 7, .int 0, .int 0, .int 0, .int 0, .ref q56, .ref q57, .ref q58, .ref q59, .ref q60, .ref q61, .ref q62])), (q56, .inl (cI, 3, .inl (fun _ => 0))), (q57, .inl (cI, 3, .inl (fun _ => 0))), (q58, .inl (cI, 2, .inl (fun _ => 0))), (q59, .inl (cI, 2, .inl (fun _ => 0))), (q60, .inl (cI, 2, .inl (fun _ => 0))), (q61, .inl (cI, 2, .inl (fun _ => 0))), (q62, .inl (cI, 2, .inl (fun _ => 0))), (q63, .inr (5, [.ref q64, .int 0, .ref q65, .int 0, .ref q66, .int 0, .int 0, .int 0, .int 0])), (q64, .inl (cI, 40, .inl (fun _ => 0))), (q65, .inl (cI, 40, .inl (fun _ => 0))), (q66, .inl (cL, 40, .inr (.inl (fun _ => 0)))), (q67, .inr (4, [.ref q68, .int 0])), (q68, .inl (cI, 8, .inl (fun _ => 0)))]) hP hD [0] [] rfl rfl (by decide) (by decide) hk1 hFc hP1 hD1
  generalize H1 = H at hP hS ⊢
  have hP : va_P D vwCl [(x0, .inr (10, [.ref q1, .ref q9, .ref q17, .ref q19, .ref q20, .ref q24, .ref q26, .ref q33, .ref q35, .ref q39, .ref q54, .int 0, .int 0, .int 0])), (q1, .inr (0, [.int 7, .int 0, .int 0, .int 0, .int 0, .ref q2, .ref q3, .ref q4, .ref q5, .ref q6, .ref q7, .ref q8])), (q2, .inl (cI, 3, .inl (fun _ => 0))), (q3, .inl (cI, 3, .inl (fun _ => 0))), (q4, .inl (cI, 2, .inl (fun _ => 0))), (q5, .inl (cI, 2, .inl (fun _ => 0))), (q6, .inl (cI, 2, .inl (fun _ => 0))), (q7, .inl (cI, 2, .inl (fun _ => 0))), (q8, .inl (cI, 2, .inl (fun _ => 0))), (q9, .inr (0, [.int 7, .int 0, .int 0, .int 0, .int 0, .ref q10, .ref q11, .ref q12, .ref q13, .ref q14, .ref q15, .ref q16])), (q10, .inl (cI, 3, .inl (fun _ => 0))), (q11, .inl (cI, 3, .inl (fun _ => 0))), (q12, .inl (cI, 2, .inl (fun _ => 0))), (q13, .inl (cI, 2, .inl (fun _ => 0))), (q14, .inl (cI, 2, .inl (fun _ => 0))), (q15, .inl (cI, 2, .inl (fun _ => 0))), (q16, .inl (cI, 2, .inl (fun _ => 0))), (q17, .inr (8, [.ref q18, .int 0])), (q18, .inl (cI, 200, .inl (fun _ => 0))), (q19, .inr (9, [.ref q17, .int 0, .int 0, .int 0, .int 0, .int 0])), (q20, .inr (5, [.ref q21, .int 0, .ref q22, .int 0, .ref q23, .int 0, .int 0, .int 0, .int 0])), (q21, .inl (cI, 40, .inl (fun _ => 0))), (q22, .inl (cI, 40, .inl (fun _ => 0))), (q23, .inl (cL, 40, .inr (.inl (fun _ => 0)))), (q24, .inr (4, [.ref q25, .int 0])), (q25, .inl (cI, 8, .inl (fun _ => 0))), (q26, .inr (6, [.ref q27, .ref q28, .ref q29, .ref q30, .int 0, .int 0, .int 0, .int 0, .int 0, .int 0, .int (-9), .ref q31, .ref q32])), (q27, .inl (cI, 131072, .inl (fun _ => 0))), (q28, .inl (cI, 131072, .inl (fun _ => 0))), (q29, .inl (cI, 131072, .inl (fun _ => 0))), (q30, .inl (cI, 64, .inl (fun _ => 0))), (q31, .inl (cI, 2, .inl (upd (upd (fun _ => 0) 0 (-9)) 1 (-9)))), (q32, .inl (cI, 3, .inl (upd (upd (upd (fun _ => 0) 0 (-9)) 1 (-9)) 2 (-9)))), (q33, .inr (3, [.ref q34, .int 0, .int (-1), .int 0])), (q34, .inr (7, [.int 0, .int 0, .int 0, .int 0, .int 0, .int 0])), (q35, .inr (1, [.ref q36, .ref q37, .ref q38, .int 0, .int 1])), (q36, .inl (cL, 4, .inr (.inl (fun _ => 0)))), (q37, .inl (cL, 4, .inr (.inl (vp_updL (vp_updL (vp_updL (vp_updL (fun _ => 0) 0 1) 1 0) 2 0) 3 0)))), (q38, .inl (cL, 4, .inr (.inl (fun _ => 0)))), (q39, .inr (2, [.int 0, .ref q40, .ref q48, .ref q52])), (q40, .inr (0, [.int 7, .int 0, .int 0, .int 0, .int 0, .ref q41, .ref q42, .ref q43, .ref q44, .ref q45, .ref q46, .ref q47])), (q41, .inl (cI, 3, .inl (fun _ => 0))), (q42, .inl (cI, 3, .inl (fun _ => 0))), (q43, .inl (cI, 2, .inl (fun _ => 0))), (q44, .inl (cI, 2, .inl (fun _ => 0))), (q45, .inl (cI, 2, .inl (fun _ => 0))), (q46, .inl (cI, 2, .inl (fun _ => 0))), (q47, .inl (cI, 2, .inl (fun _ => 0))), (q48, .inr (5, [.ref q49, .int 0, .ref q50, .int 0, .ref q51, .int 0, .int 0, .int 0, .int 0])), (q49, .inl (cI, 40, .inl (fun _ => 0))), (q50, .inl (cI, 40, .inl (fun _ => 0))), (q51, .inl (cL, 40, .inr (.inl (fun _ => 0)))), (q52, .inr (4, [.ref q53, .int 0])), (q53, .inl (cI, 8, .inl (fun _ => 0))), (q54, .inr (2, [.int 0, .ref q55, .ref q63, .ref q67])), (q55, .inr (0, [.int 7, .int 0, .int 0, .int 0, .int 0, .ref q56, .ref q57, .ref q58, .ref q59, .ref q60, .ref q61, .ref q62])), (q56, .inl (cI, 3, .inl (fun _ => 0))), (q57, .inl (cI, 3, .inl (fun _ => 0))), (q58, .inl (cI, 2, .inl (fun _ => 0))), (q59, .inl (cI, 2, .inl (fun _ => 0))), (q60, .inl (cI, 2, .inl (fun _ => 0))), (q61, .inl (cI, 2, .inl (fun _ => 0))), (q62, .inl (cI, 2, .inl (fun _ => 0))), (q63, .inr (5, [.ref q64, .int 0, .ref q65, .int 0, .ref q66, .int 0, .int 0, .int 0, .int 0])), (q64, .inl (cI, 40, .inl (fun _ => 0))), (q65, .inl (cI, 40, .inl (fun _ => 0))), (q66, .inl (cL, 40, .inr (.inl (fun _ => 0)))), (q67, .inr (4, [.ref q68, .int 0])), (q68, .inl (cI, 8, .inl (fun _ => 0)))] H := hP
  have hD : va_D (fun q : Nat => s.heap.size ≤ q) [(x0, .inr (10, [.ref q1, .ref q9, .ref q17, .ref q19, .ref q20, .ref q24, .ref q26, .ref q33, .ref q35, .ref q39, .ref q54, .int 0, .int 0, .int 0])), (q1, .inr (0, [.int 7, .int 0, .int 0, .int 0, .int 0, .ref q2, .ref q3, .ref q4, .ref q5, .ref q6, .ref q7, .ref q8])), (q2, .inl (cI, 3, .inl (fun _ => 0))), (q3, .inl (cI, 3, .inl (fun _ => 0))), (q4, .inl (cI, 2, .inl (fun _ => 0))), (q5, .inl (cI, 2, .inl (fun _ => 0))), (q6, .inl (cI, 2, .inl (fun _ => 0))), (q7, .inl (cI, 2, .inl (fun _ => 0))), (q8, .inl (cI, 2, .inl (fun _ => 0))), (q9, .inr (0, [.int 7, .int 0, .int 0, .int 0, .int 0, .ref q10, .ref q11, .ref q12, .ref q13, .ref q14, .ref q15, .ref q16])), (q10, .inl (cI, 3, .inl (fun _ => 0))), (q11, .inl (cI, 3, .inl (fun _ => 0))), (q12, .inl (cI, 2, .inl (fun _ => 0))), (q13, .inl (cI, 2, .inl (fun _ => 0))), (q14, .inl (cI, 2, .inl (fun _ => 0))), (q15, .inl (cI, 2, .inl (fun _ => 0))), (q16, .inl (cI, 2, .inl (fun _ => 0))), (q17, .inr (8, [.ref q18, .int 0])), (q18, .inl (cI, 200, .inl (fun _ => 0))), (q19, .inr (9, [.ref q17, .int 0, .int 0, .int 0, .int 0, .int 0])), (q20, .inr (5, [.ref q21, .int 0, .ref q22, .int 0, .ref q23, .int 0, .int 0, .int 0, .int 0])), (q21, .inl (cI, 40, .inl (fun _ => 0))), (q22, .inl (cI, 40, .inl (fun _ => 0))), (q23, .inl (cL, 40, .inr (.inl (fun _ => 0)))), (q24, .inr (4, [.ref q25, .int 0])), (q25, .inl (cI, 8, .inl (fun _ => 0))), (q26, .inr (6, [.ref q27, .ref q28, .ref q29, .ref q30, .int 0, .int 0, .int 0, .int 0, .int 0, .int 0, .int (-9), .ref q31, .ref q32])), (q27, .inl (cI, 131072, .inl (fun _ => 0))), (q28, .inl (cI, 131072, .inl (fun _ => 0))), (q29, .inl (cI, 131072, .inl (fun _ => 0))), (q30, .inl (cI, 64, .inl (fun _ => 0))), (q31, .inl (cI, 2, .inl (upd (upd (fun _ => 0) 0 (-9)) 1 (-9)))), (q32, .inl (cI, 3, .inl (upd (upd (upd (fun _ => 0) 0 (-9)) 1 (-9)) 2 (-9)))), (q33, .inr (3, [.ref q34, .int 0, .int (-1), .int 0])), (q34, .inr (7, [.int 0, .int 0, .int 0, .int 0, .int 0, .int 0])), (q35, .inr (1, [.ref q36, .ref q37, .ref q38, .int 0, .int 1])), (q36, .inl (cL, 4, .inr (.inl (fun _ => 0)))), (q37, .inl (cL, 4, .inr (.inl (vp_updL (vp_updL (vp_updL (vp_updL (fun _ => 0) 0 1) 1 0) 2 0) 3 0)))), (q38, .inl (cL, 4, .inr (.inl (fun _ => 0)))), (q39, .inr (2, [.int 0, .ref q40, .ref q48, .ref q52])), (q40, .inr (0, [.int 7, .int 0, .int 0, .int 0, .int 0, .ref q41, .ref q42, .ref q43, .ref q44, .ref q45, .ref q46, .ref q47])), (q41, .inl (cI, 3, .inl (fun _ => 0))), (q42, .inl (cI, 3, .inl (fun _ => 0))), (q43, .inl (cI, 2, .inl (fun _ => 0))), (q44, .inl (cI, 2, .inl (fun _ => 0))), (q45, .inl (cI, 2, .inl (fun _ => 0))), (q46, .inl (cI, 2, .inl (fun _ => 0))), (q47, .inl (cI, 2, .inl (fun _ => 0))), (q48, .inr (5, [.ref q49, .int 0, .ref q50, .int 0, .ref q51, .int 0, .int 0, .int 0, .int 0])), (q49, .inl (cI, 40, .inl (fun _ => 0))), (q50, .inl (cI, 40, .inl (fun _ => 0))), (q51, .inl (cL, 40, .inr (.inl (fun _ => 0)))), (q52, .inr (4, [.ref q53, .int 0])), (q53, .inl (cI, 8, .inl (fun _ => 0))), (q54, .inr (2, [.int 0, .ref q55, .ref q63, .ref q67])), (q55, .inr (0, [.int 7, .int 0, .int 0, .int 0, .int 0, .ref q56, .ref q57, .ref q58, .ref q59, .ref q60, .ref q61, .ref q62])), (q56, .inl (cI, 3, .inl (fun _ => 0))), (q57, .inl (cI, 3, .inl (fun _ => 0))), (q58, .inl (cI, 2, .inl (fun _ => 0))), (q59, .inl (cI, 2, .inl (fun _ => 0))), (q60, .inl (cI, 2, .inl (fun _ => 0))), (q61, .inl (cI, 2, .inl (fun _ => 0))), (q62, .inl (cI, 2, .inl (fun _ => 0))), (q63, .inr (5, [.ref q64, .int 0, .ref q65, .int 0, .ref q66, .int 0, .int 0, .int 0, .int 0])), (q64, .inl (cI, 40, .inl (fun _ => 0))), (q65, .inl (cI, 40, .inl (fun _ => 0))), (q66, .inl (cL, 40, .inr (.inl (fun _ => 0)))), (q67, .inr (4, [.ref q68, .int 0])), (q68, .inl (cI, 8, .inl (fun _ => 0)))] := hD
  refine lv_astore_n (lv' := [(1, .ref x0), (0, .ref b)]) hx hb dLw_3 rfl hl (by decide) rfl (fun ls hl => ?_)
  refine va_new (ci := 11) (fs := [.null, .null, .null, .null, .null, .null, .int 0, .null, .null, .int 0, .int 0, .int 0, .int 0, .null, .null, .null, .null, .null, .int 0, .null, .int 0, .int 0, .int 0, .int 0, .int 0, .null, .int 0, .int 0, .int 0, .int 0, .int 0, .null, .int 0, .null, .int 0, .null, .long 0, .int 0, .int 0]) (C := clsN 11) (T := clsT 11) (N := clsK 11) hx hb htT (uws_ok (c := 11) (by decide)) (clsTy 11) (cty_ok 11 (by decide)) hown (htT _ (tb_5 (i := 77) rfl rfl)) (htT _ (tb_5 (i := 78) rfl rfl)) (htT _ (tb_1 (i := 12) rfl rfl)) hK hP hD hS hA (ccl_ok 11 (by decide)) (fun j hj => by have hj : j < 39 := hj; rcases (show j = 0 ∨ j = 1 ∨ j = 2 ∨ j = 3 ∨ j = 4 ∨ j = 5 ∨ j = 6 ∨ j = 7 ∨ j = 8 ∨ j = 9 ∨ j = 10 ∨ j = 11 ∨ j = 12 ∨ j = 13 ∨ j = 14 ∨ j = 15 ∨ j = 16 ∨ j = 17 ∨ j = 18 ∨ j = 19 ∨ j = 20 ∨ j = 21 ∨ j = 22 ∨ j = 23 ∨ j = 24 ∨ j = 25 ∨ j = 26 ∨ j = 27 ∨ j = 28 ∨ j = 29 ∨ j = 30 ∨ j = 31 ∨ j = 32 ∨ j = 33 ∨ j = 34 ∨ j = 35 ∨ j = 36 ∨ j = 37 ∨ j = 38 by omega) with rfl | rfl | rfl | rfl | rfl | rfl | rfl | rfl | rfl | rfl | rfl | rfl | rfl | rfl | rfl | rfl | rfl | rfl | rfl | rfl | rfl | rfl | rfl | rfl | rfl | rfl | rfl | rfl | rfl | rfl | rfl | rfl | rfl | rfl | rfl | rfl | rfl | rfl | rfl <;> rfl) (Nat.le_of_ble_eq_true rfl) (Nat.le_of_ble_eq_true rfl) dLw_4 (fun m0 H hP hD hS => ?_)
  have hP : va_P D vwCl [(x0, .inr (10, [.ref q1, .ref q9, .ref q17, .ref q19, .ref q20, .ref q24, .ref q26, .ref q33, .ref q35, .ref q39, .ref q54, .int 0, .int 0, .int 0])), (q1, .inr (0, [.int 7, .int 0, .int 0, .int 0, .int 0, .ref q2, .ref q3, .ref q4, .ref q5, .ref q6, .ref q7, .ref q8])), (q2, .inl (cI, 3, .inl (fun _ => 0))), (q3, .inl (cI, 3, .inl (fun _ => 0))), (q4, .inl (cI, 2, .inl (fun _ => 0))), (q5, .inl (cI, 2, .inl (fun _ => 0))), (q6, .inl (cI, 2, .inl (fun _ => 0))), (q7, .inl (cI, 2, .inl (fun _ => 0))), (q8, .inl (cI, 2, .inl (fun _ => 0))), (q9, .inr (0, [.int 7, .int 0, .int 0, .int 0, .int 0, .ref q10, .ref q11, .ref q12, .ref q13, .ref q14, .ref q15, .ref q16])), (q10, .inl (cI, 3, .inl (fun _ => 0))), (q11, .inl (cI, 3, .inl (fun _ => 0))), (q12, .inl (cI, 2, .inl (fun _ => 0))), (q13, .inl (cI, 2, .inl (fun _ => 0))), (q14, .inl (cI, 2, .inl (fun _ => 0))), (q15, .inl (cI, 2, .inl (fun _ => 0))), (q16, .inl (cI, 2, .inl (fun _ => 0))), (q17, .inr (8, [.ref q18, .int 0])), (q18, .inl (cI, 200, .inl (fun _ => 0))), (q19, .inr (9, [.ref q17, .int 0, .int 0, .int 0, .int 0, .int 0])), (q20, .inr (5, [.ref q21, .int 0, .ref q22, .int 0, .ref q23, .int 0, .int 0, .int 0, .int 0])), (q21, .inl (cI, 40, .inl (fun _ => 0))), (q22, .inl (cI, 40, .inl (fun _ => 0))), (q23, .inl (cL, 40, .inr (.inl (fun _ => 0)))), (q24, .inr (4, [.ref q25, .int 0])), (q25, .inl (cI, 8, .inl (fun _ => 0))), (q26, .inr (6, [.ref q27, .ref q28, .ref q29, .ref q30, .int 0, .int 0, .int 0, .int 0, .int 0, .int 0, .int (-9), .ref q31, .ref q32])), (q27, .inl (cI, 131072, .inl (fun _ => 0))), (q28, .inl (cI, 131072, .inl (fun _ => 0))), (q29, .inl (cI, 131072, .inl (fun _ => 0))), (q30, .inl (cI, 64, .inl (fun _ => 0))), (q31, .inl (cI, 2, .inl (upd (upd (fun _ => 0) 0 (-9)) 1 (-9)))), (q32, .inl (cI, 3, .inl (upd (upd (upd (fun _ => 0) 0 (-9)) 1 (-9)) 2 (-9)))), (q33, .inr (3, [.ref q34, .int 0, .int (-1), .int 0])), (q34, .inr (7, [.int 0, .int 0, .int 0, .int 0, .int 0, .int 0])), (q35, .inr (1, [.ref q36, .ref q37, .ref q38, .int 0, .int 1])), (q36, .inl (cL, 4, .inr (.inl (fun _ => 0)))), (q37, .inl (cL, 4, .inr (.inl (vp_updL (vp_updL (vp_updL (vp_updL (fun _ => 0) 0 1) 1 0) 2 0) 3 0)))), (q38, .inl (cL, 4, .inr (.inl (fun _ => 0)))), (q39, .inr (2, [.int 0, .ref q40, .ref q48, .ref q52])), (q40, .inr (0, [.int 7, .int 0, .int 0, .int 0, .int 0, .ref q41, .ref q42, .ref q43, .ref q44, .ref q45, .ref q46, .ref q47])), (q41, .inl (cI, 3, .inl (fun _ => 0))), (q42, .inl (cI, 3, .inl (fun _ => 0))), (q43, .inl (cI, 2, .inl (fun _ => 0))), (q44, .inl (cI, 2, .inl (fun _ => 0))), (q45, .inl (cI, 2, .inl (fun _ => 0))), (q46, .inl (cI, 2, .inl (fun _ => 0))), (q47, .inl (cI, 2, .inl (fun _ => 0))), (q48, .inr (5, [.ref q49, .int 0, .ref q50, .int 0, .ref q51, .int 0, .int 0, .int 0, .int 0])), (q49, .inl (cI, 40, .inl (fun _ => 0))), (q50, .inl (cI, 40, .inl (fun _ => 0))), (q51, .inl (cL, 40, .inr (.inl (fun _ => 0)))), (q52, .inr (4, [.ref q53, .int 0])), (q53, .inl (cI, 8, .inl (fun _ => 0))), (q54, .inr (2, [.int 0, .ref q55, .ref q63, .ref q67])), (q55, .inr (0, [.int 7, .int 0, .int 0, .int 0, .int 0, .ref q56, .ref q57, .ref q58, .ref q59, .ref q60, .ref q61, .ref q62])), (q56, .inl (cI, 3, .inl (fun _ => 0))), (q57, .inl (cI, 3, .inl (fun _ => 0))), (q58, .inl (cI, 2, .inl (fun _ => 0))), (q59, .inl (cI, 2, .inl (fun _ => 0))), (q60, .inl (cI, 2, .inl (fun _ => 0))), (q61, .inl (cI, 2, .inl (fun _ => 0))), (q62, .inl (cI, 2, .inl (fun _ => 0))), (q63, .inr (5, [.ref q64, .int 0, .ref q65, .int 0, .ref q66, .int 0, .int 0, .int 0, .int 0])), (q64, .inl (cI, 40, .inl (fun _ => 0))), (q65, .inl (cI, 40, .inl (fun _ => 0))), (q66, .inl (cL, 40, .inr (.inl (fun _ => 0)))), (q67, .inr (4, [.ref q68, .int 0])), (q68, .inl (cI, 8, .inl (fun _ => 0))), (m0, .inr (11, [.null, .null, .null, .null, .null, .null, .int 0, .null, .null, .int 0, .int 0, .int 0, .int 0, .null, .null, .null, .null, .null, .int 0, .null, .int 0, .int 0, .int 0, .int 0, .int 0, .null, .int 0, .int 0, .int 0, .int 0, .int 0, .null, .int 0, .null, .int 0, .null, .long 0, .int 0, .int 0]))] H := hP
  have hD : va_D (fun q : Nat => s.heap.size ≤ q) [(x0, .inr (10, [.ref q1, .ref q9, .ref q17, .ref q19, .ref q20, .ref q24, .ref q26, .ref q33, .ref q35, .ref q39, .ref q54, .int 0, .int 0, .int 0])), (q1, .inr (0, [.int 7, .int 0, .int 0, .int 0, .int 0, .ref q2, .ref q3, .ref q4, .ref q5, .ref q6, .ref q7, .ref q8])), (q2, .inl (cI, 3, .inl (fun _ => 0))), (q3, .inl (cI, 3, .inl (fun _ => 0))), (q4, .inl (cI, 2, .inl (fun _ => 0))), (q5, .inl (cI, 2, .inl (fun _ => 0))), (q6, .inl (cI, 2, .inl (fun _ => 0))), (q7, .inl (cI, 2, .inl (fun _ => 0))), (q8, .inl (cI, 2, .inl (fun _ => 0))), (q9, .inr (0, [.int 7, .int 0, .int 0, .int 0, .int 0, .ref q10, .ref q11, .ref q12, .ref q13, .ref q14, .ref q15, .ref q16])), (q10, .inl (cI, 3, .inl (fun _ => 0))), (q11, .inl (cI, 3, .inl (fun _ => 0))), (q12, .inl (cI, 2, .inl (fun _ => 0))), (q13, .inl (cI, 2, .inl (fun _ => 0))), (q14, .inl (cI, 2, .inl (fun _ => 0))), (q15, .inl (cI, 2, .inl (fun _ => 0))), (q16, .inl (cI, 2, .inl (fun _ => 0))), (q17, .inr (8, [.ref q18, .int 0])), (q18, .inl (cI, 200, .inl (fun _ => 0))), (q19, .inr (9, [.ref q17, .int 0, .int 0, .int 0, .int 0, .int 0])), (q20, .inr (5, [.ref q21, .int 0, .ref q22, .int 0, .ref q23, .int 0, .int 0, .int 0, .int 0])), (q21, .inl (cI, 40, .inl (fun _ => 0))), (q22, .inl (cI, 40, .inl (fun _ => 0))), (q23, .inl (cL, 40, .inr (.inl (fun _ => 0)))), (q24, .inr (4, [.ref q25, .int 0])), (q25, .inl (cI, 8, .inl (fun _ => 0))), (q26, .inr (6, [.ref q27, .ref q28, .ref q29, .ref q30, .int 0, .int 0, .int 0, .int 0, .int 0, .int 0, .int (-9), .ref q31, .ref q32])), (q27, .inl (cI, 131072, .inl (fun _ => 0))), (q28, .inl (cI, 131072, .inl (fun _ => 0))), (q29, .inl (cI, 131072, .inl (fun _ => 0))), (q30, .inl (cI, 64, .inl (fun _ => 0))), (q31, .inl (cI, 2, .inl (upd (upd (fun _ => 0) 0 (-9)) 1 (-9)))), (q32, .inl (cI, 3, .inl (upd (upd (upd (fun _ => 0) 0 (-9)) 1 (-9)) 2 (-9)))), (q33, .inr (3, [.ref q34, .int 0, .int (-1), .int 0])), (q34, .inr (7, [.int 0, .int 0, .int 0, .int 0, .int 0, .int 0])), (q35, .inr (1, [.ref q36, .ref q37, .ref q38, .int 0, .int 1])), (q36, .inl (cL, 4, .inr (.inl (fun _ => 0)))), (q37, .inl (cL, 4, .inr (.inl (vp_updL (vp_updL (vp_updL (vp_updL (fun _ => 0) 0 1) 1 0) 2 0) 3 0)))), (q38, .inl (cL, 4, .inr (.inl (fun _ => 0)))), (q39, .inr (2, [.int 0, .ref q40, .ref q48, .ref q52])), (q40, .inr (0, [.int 7, .int 0, .int 0, .int 0, .int 0, .ref q41, .ref q42, .ref q43, .ref q44, .ref q45, .ref q46, .ref q47])), (q41, .inl (cI, 3, .inl (fun _ => 0))), (q42, .inl (cI, 3, .inl (fun _ => 0))), (q43, .inl (cI, 2, .inl (fun _ => 0))), (q44, .inl (cI, 2, .inl (fun _ => 0))), (q45, .inl (cI, 2, .inl (fun _ => 0))), (q46, .inl (cI, 2, .inl (fun _ => 0))), (q47, .inl (cI, 2, .inl (fun _ => 0))), (q48, .inr (5, [.ref q49, .int 0, .ref q50, .int 0, .ref q51, .int 0, .int 0, .int 0, .int 0])), (q49, .inl (cI, 40, .inl (fun _ => 0))), (q50, .inl (cI, 40, .inl (fun _ => 0))), (q51, .inl (cL, 40, .inr (.inl (fun _ => 0)))), (q52, .inr (4, [.ref q53, .int 0])), (q53, .inl (cI, 8, .inl (fun _ => 0))), (q54, .inr (2, [.int 0, .ref q55, .ref q63, .ref q67])), (q55, .inr (0, [.int 7, .int 0, .int 0, .int 0, .int 0, .ref q56, .ref q57, .ref q58, .ref q59, .ref q60, .ref q61, .ref q62])), (q56, .inl (cI, 3, .inl (fun _ => 0))), (q57, .inl (cI, 3, .inl (fun _ => 0))), (q58, .inl (cI, 2, .inl (fun _ => 0))), (q59, .inl (cI, 2, .inl (fun _ => 0))), (q60, .inl (cI, 2, .inl (fun _ => 0))), (q61, .inl (cI, 2, .inl (fun _ => 0))), (q62, .inl (cI, 2, .inl (fun _ => 0))), (q63, .inr (5, [.ref q64, .int 0, .ref q65, .int 0, .ref q66, .int 0, .int 0, .int 0, .int 0])), (q64, .inl (cI, 40, .inl (fun _ => 0))), (q65, .inl (cI, 40, .inl (fun _ => 0))), (q66, .inl (cL, 40, .inr (.inl (fun _ => 0)))), (q67, .inr (4, [.ref q68, .int 0])), (q68, .inl (cI, 8, .inl (fun _ => 0))), (m0, .inr (11, [.null, .null, .null, .null, .null, .null, .int 0, .null, .null, .int 0, .int 0, .int 0, .int 0, .null, .null, .null, .null, .null, .int 0, .null, .int 0, .int 0, .int 0, .int 0, .int 0, .null, .int 0, .int 0, .int 0, .int 0, .int 0, .null, .int 0, .null, .int 0, .null, .long 0, .int 0, .int 0]))] := hD
  refine lv_dup hx hb dLw_5 rfl ?_
  have hPc := hP.sub (ws' := [(m0, .inr (11, [.null, .null, .null, .null, .null, .null, .int 0, .null, .null, .int 0, .int 0, .int 0, .int 0, .null, .null, .null, .null, .null, .int 0, .null, .int 0, .int 0, .int 0, .int 0, .int 0, .null, .int 0, .int 0, .int 0, .int 0, .int 0, .null, .int 0, .null, .int 0, .null, .long 0, .int 0, .int 0]))]) [69] rfl
  have hDc := hD.sub (ws' := [(m0, .inr (11, [.null, .null, .null, .null, .null, .null, .int 0, .null, .null, .int 0, .int 0, .int 0, .int 0, .null, .null, .null, .null, .null, .int 0, .null, .int 0, .int 0, .int 0, .int 0, .int 0, .null, .int 0, .int 0, .int 0, .int 0, .int 0, .null, .int 0, .null, .int 0, .null, .long 0, .int 0, .int 0]))]) [69] (by decide) rfl
  have hFc := va_free (wc := [(m0, .inr (11, [.null, .null, .null, .null, .null, .null, .int 0, .null, .null, .int 0, .int 0, .int 0, .int 0, .null, .null, .null, .null, .null, .int 0, .null, .int 0, .int 0, .int 0, .int 0, .int 0, .null, .int 0, .int 0, .int 0, .int 0, .int 0, .null, .int 0, .null, .int 0, .null, .long 0, .int 0, .int 0]))]) hD hS hA [69] rfl
  have hStc : ∀ U : State, s.WarmedH U.vm → StatH rv0 sad (va_A [(m0, .inr (11, [.null, .null, .null, .null, .null, .null, .int 0, .null, .null, .int 0, .int 0, .int 0, .int 0, .null, .null, .null, .null, .null, .int 0, .null, .int 0, .int 0, .int 0, .int 0, .int 0, .null, .int 0, .int 0, .int 0, .int 0, .int 0, .null, .int 0, .null, .int 0, .null, .long 0, .int 0, .int 0]))] H.size) U H := fun U hU => ((hSt.kept hS.2.1).narrow hFc).warm hU
  refine va_callv (va_runI (As := []) (rest := [.ref m0]) ⟨hx, hb, hml, hown, htT⟩ (ct_11 l D cI cL cZ m0 H.size sad rv0 hv99) (cwI 0 htT (goodC wc_11) rfl rfl rfl (htT _ wi_11) (htT _ (tb_5 (i := 79) rfl rfl)) (htT _ wm_11) rfl (by decide +kernel) ⟨Nat.le_of_ble_eq_true rfl, Nat.le_of_ble_eq_true rfl⟩) ⟨fun a U g mk q => by obtain ⟨q0, q1, qP, qK, qD, qS⟩ := q; exact ⟨q0, q1, qP, va_K.moved (u := U) (U := U.calling g mk a) (Vm.Alike.refl U.vm) qK, qD, StatH.same (u := U) rfl qS⟩, fun U hU hW => ⟨rfl, by rw [hU], by rw [hU]; exact hPc, va_K.moved hW.alike hK, hDc.weaken (fun _ _ _ _ => trivial), by rw [hU]; exact hStc U hW⟩⟩ rfl rfl hl.1 rfl (lv_room (Nat.le_of_ble_eq_true rfl)) dLw_6 ⟨Nat.le_of_ble_eq_true rfl, Nat.le_of_ble_eq_true rfl⟩) hS (fun q _ h => hFc q h) hFc (fun u2 t2 H1 locs ht2 hvm2 hw2 hB2 hz2 hk1 hS => ?_)
  obtain ⟨QM, h70, hPm, hDm⟩ := hB2
  rw [ht2] at hPm
  obtain ⟨hPj, hDj⟩ := va_join (wr := [(x0, .inr (10, [.ref q1, .ref q9, .ref q17, .ref q19, .ref q20, .ref q24, .ref q26, .ref q33, .ref q35, .ref q39, .ref q54, .int 0, .int 0, .int 0])), (q1, .inr (0, [.int 7, .int 0, .int 0, .int 0, .int 0, .ref q2, .ref q3, .ref q4, .ref q5, .ref q6, .ref q7, .ref q8])), (q2, .inl (cI, 3, .inl (fun _ => 0))), (q3, .inl (cI, 3, .inl (fun _ => 0))), (q4, .inl (cI, 2, .inl (fun _ => 0))), (q5, .inl (cI, 2, .inl (fun _ => 0))), (q6, .inl (cI, 2, .inl (fun _ => 0))), (q7, .inl (cI, 2, .inl (fun _ => 0))), (q8, .inl (cI, 2, .inl (fun _ => 0))), (q9, .inr (0, [.int 7, .int 0, .int 0, .int 0, .int 0, .ref q10, .ref q11, .ref q12, .ref q13, .ref q14, .ref q15, .ref q16])), (q10, .inl (cI, 3, .inl (fun _ => 0))), (q11, .inl (cI, 3, .inl (fun _ => 0))), (q12, .inl (cI, 2, .inl (fun _ => 0))), (q13, .inl (cI, 2, .inl (fun _ => 0))), (q14, .inl (cI, 2, .inl (fun _ => 0))), (q15, .inl (cI, 2, .inl (fun _ => 0))), (q16, .inl (cI, 2, .inl (fun _ => 0))), (q17, .inr (8, [.ref q18, .int 0])), (q18, .inl (cI, 200, .inl (fun _ => 0))), (q19, .inr (9, [.ref q17, .int 0, .int 0, .int 0, .int 0, .int 0])), (q20, .inr (5, [.ref q21, .int 0, .ref q22, .int 0, .ref q23, .int 0, .int 0, .int 0, .int 0])), (q21, .inl (cI, 40, .inl (fun _ => 0))), (q22, .inl (cI, 40, .inl (fun _ => 0))), (q23, .inl (cL, 40, .inr (.inl (fun _ => 0)))), (q24, .inr (4, [.ref q25, .int 0])), (q25, .inl (cI, 8, .inl (fun _ => 0))), (q26, .inr (6, [.ref q27, .ref q28, .ref q29, .ref q30, .int 0, .int 0, .int 0, .int 0, .int 0, .int 0, .int (-9), .ref q31, .ref q32])), (q27, .inl (cI, 131072, .inl (fun _ => 0))), (q28, .inl (cI, 131072, .inl (fun _ => 0))), (q29, .inl (cI, 131072, .inl (fun _ => 0))), (q30, .inl (cI, 64, .inl (fun _ => 0))), (q31, .inl (cI, 2, .inl (upd (upd (fun _ => 0) 0 (-9)) 1 (-9)))), (q32, .inl (cI, 3, .inl (upd (upd (upd (fun _ => 0) 0 (-9)) 1 (-9)) 2 (-9)))), (q33, .inr (3, [.ref q34, .int 0, .int (-1), .int 0])), (q34, .inr (7, [.int 0, .int 0, .int 0, .int 0, .int 0, .int 0])), (q35, .inr (1, [.ref q36, .ref q37, .ref q38, .int 0, .int 1])), (q36, .inl (cL, 4, .inr (.inl (fun _ => 0)))), (q37, .inl (cL, 4, .inr (.inl (vp_updL (vp_updL (vp_updL (vp_updL (fun _ => 0) 0 1) 1 0) 2 0) 3 0)))), (q38, .inl (cL, 4, .inr (.inl (fun _ => 0)))), (q39, .inr (2, [.int 0, .ref q40, .ref q48, .ref q52])), (q40, .inr (0, [.int 7, .int 0, .int 0, .int 0, .int 0, .ref q41, .ref q42, .ref q43, .ref q44, .ref q45, .ref q46, .ref q47])), (q41, .inl (cI, 3, .inl (fun _ => 0))), (q42, .inl (cI, 3, .inl (fun _ => 0))), (q43, .inl (cI, 2, .inl (fun _ => 0))), (q44, .inl (cI, 2, .inl (fun _ => 0))), (q45, .inl (cI, 2, .inl (fun _ => 0))), (q46, .inl (cI, 2, .inl (fun _ => 0))), (q47, .inl (cI, 2, .inl (fun _ => 0))), (q48, .inr (5, [.ref q49, .int 0, .ref q50, .int 0, .ref q51, .int 0, .int 0, .int 0, .int 0])), (q49, .inl (cI, 40, .inl (fun _ => 0))), (q50, .inl (cI, 40, .inl (fun _ => 0))), (q51, .inl (cL, 40, .inr (.inl (fun _ => 0)))), (q52, .inr (4, [.ref q53, .int 0])), (q53, .inl (cI, 8, .inl (fun _ => 0))), (q54, .inr (2, [.int 0, .ref q55, .ref q63, .ref q67])), (q55, .inr (0, [.int 7, .int 0, .int 0, .int 0, .int 0, .ref q56, .ref q57, .ref q58, .ref q59, .ref q60, .ref q61, .ref q62])), (q56, .inl (cI, 3, .inl (fun _ => 0))), (q57, .inl (cI, 3, .inl (fun _ => 0))), (q58, .inl (cI, 2, .inl (fun _ => 0))), (q59, .inl (cI, 2, .inl (fun _ => 0))), (q60, .inl (cI, 2, .inl (fun _ => 0))), (q61, .inl (cI, 2, .inl (fun _ => 0))), (q62, .inl (cI, 2, .inl (fun _ => 0))), (q63, .inr (5, [.ref q64, .int 0, .ref q65, .int 0, .ref q66, .int 0, .int 0, .int 0, .int 0])), (q64, .inl (cI, 40, .inl (fun _ => 0))), (q65, .inl (cI, 40, .inl (fun _ => 0))), (q66, .inl (cL, 40, .inr (.inl (fun _ => 0)))), (q67, .inr (4, [.ref q68, .int 0])), (q68, .inl (cI, 8, .inl (fun _ => 0)))]) (w1 := wsK cI cL cZ (adMo sad QM) Im WM) hP hD [69] [0, 1, 2, 3, 4, 5, 6, 7, 8, 9, 10, 11, 12, 13, 14, 15, 16, 17, 18, 19, 20, 21, 22, 23, 24, 25, 26, 27, 28, 29, 30, 31, 32, 33, 34, 35, 36, 37, 38, 39, 40, 41, 42, 43, 44, 45, 46, 47, 48, 49, 50, 51, 52, 53, 54, 55, 56, 57, 58, 59, 60, 61, 62, 63, 64, 65, 66, 67, 68] rfl rfl (by decide) (by decide) hk1 hFc hPm hDm
  generalize H1 = H at hPm hPj hS ⊢
  refine lv_astore_n (lv' := [(2, .ref m0), (1, .ref x0), (0, .ref b)]) hx hb dLw_7 rfl hl (by decide) rfl (fun ls hl => ?_)
  refine lv_iconst (v := 0) hx hb dLw_8 (by decide) ?_
  refine lv_istore_n (lv' := [(3, .int 0), (2, .ref m0), (1, .ref x0), (0, .ref b)]) hx hb dLw_9 rfl hl (by decide) rfl (fun ls hl => ?_)
  refine va_forget (fun q hq => hS.2.2 q hq) ?_
  rw [e_33 L xs, e_32 L xs, e_38 L xs] at hPj hDj
  have ewx : wsK cI cL cZ (adAll sad [x0, q1, q2, q3, q4, q5, q6, q7, q8, q9, q10, q11, q12, q13, q14, q15, q16, q17, q18, q19, q20, q21, q22, q23, q24, q25, q26, q27, q28, q29, q30, q31, q32, q33, q34, q35, q36, q37, q38, q39, q40, q41, q42, q43, q44, q45, q46, q47, q48, q49, q50, q51, q52, q53, q54, q55, q56, q57, q58, q59, q60, q61, q62, q63, q64, q65, q66, q67, q68] QM) (I0 L xs) WX = [(x0, .inr (10, [.ref q1, .ref q9, .ref q17, .ref q19, .ref q20, .ref q24, .ref q26, .ref q33, .ref q35, .ref q39, .ref q54, .int 0, .int 0, .int 0])), (q1, .inr (0, [.int 7, .int 0, .int 0, .int 0, .int 0, .ref q2, .ref q3, .ref q4, .ref q5, .ref q6, .ref q7, .ref q8])), (q2, .inl (cI, 3, .inl (fun _ => 0))), (q3, .inl (cI, 3, .inl (fun _ => 0))), (q4, .inl (cI, 2, .inl (fun _ => 0))), (q5, .inl (cI, 2, .inl (fun _ => 0))), (q6, .inl (cI, 2, .inl (fun _ => 0))), (q7, .inl (cI, 2, .inl (fun _ => 0))), (q8, .inl (cI, 2, .inl (fun _ => 0))), (q9, .inr (0, [.int 7, .int 0, .int 0, .int 0, .int 0, .ref q10, .ref q11, .ref q12, .ref q13, .ref q14, .ref q15, .ref q16])), (q10, .inl (cI, 3, .inl (fun _ => 0))), (q11, .inl (cI, 3, .inl (fun _ => 0))), (q12, .inl (cI, 2, .inl (fun _ => 0))), (q13, .inl (cI, 2, .inl (fun _ => 0))), (q14, .inl (cI, 2, .inl (fun _ => 0))), (q15, .inl (cI, 2, .inl (fun _ => 0))), (q16, .inl (cI, 2, .inl (fun _ => 0))), (q17, .inr (8, [.ref q18, .int 0])), (q18, .inl (cI, 200, .inl (fun _ => 0))), (q19, .inr (9, [.ref q17, .int 0, .int 0, .int 0, .int 0, .int 0])), (q20, .inr (5, [.ref q21, .int 0, .ref q22, .int 0, .ref q23, .int 0, .int 0, .int 0, .int 0])), (q21, .inl (cI, 40, .inl (fun _ => 0))), (q22, .inl (cI, 40, .inl (fun _ => 0))), (q23, .inl (cL, 40, .inr (.inl (fun _ => 0)))), (q24, .inr (4, [.ref q25, .int 0])), (q25, .inl (cI, 8, .inl (fun _ => 0))), (q26, .inr (6, [.ref q27, .ref q28, .ref q29, .ref q30, .int 0, .int 0, .int 0, .int 0, .int 0, .int 0, .int (-9), .ref q31, .ref q32])), (q27, .inl (cI, 131072, .inl (fun _ => 0))), (q28, .inl (cI, 131072, .inl (fun _ => 0))), (q29, .inl (cI, 131072, .inl (fun _ => 0))), (q30, .inl (cI, 64, .inl (fun _ => 0))), (q31, .inl (cI, 2, .inl (fun j : Nat => Int32.ofInt (I0 L xs 32 j)))), (q32, .inl (cI, 3, .inl (fun j : Nat => Int32.ofInt (I0 L xs 33 j)))), (q33, .inr (3, [.ref q34, .int 0, .int (-1), .int 0])), (q34, .inr (7, [.int 0, .int 0, .int 0, .int 0, .int 0, .int 0])), (q35, .inr (1, [.ref q36, .ref q37, .ref q38, .int 0, .int 1])), (q36, .inl (cL, 4, .inr (.inl (fun _ => 0)))), (q37, .inl (cL, 4, .inr (.inl (fun j : Nat => Int64.ofInt (I0 L xs 38 j))))), (q38, .inl (cL, 4, .inr (.inl (fun _ => 0)))), (q39, .inr (2, [.int 0, .ref q40, .ref q48, .ref q52])), (q40, .inr (0, [.int 7, .int 0, .int 0, .int 0, .int 0, .ref q41, .ref q42, .ref q43, .ref q44, .ref q45, .ref q46, .ref q47])), (q41, .inl (cI, 3, .inl (fun _ => 0))), (q42, .inl (cI, 3, .inl (fun _ => 0))), (q43, .inl (cI, 2, .inl (fun _ => 0))), (q44, .inl (cI, 2, .inl (fun _ => 0))), (q45, .inl (cI, 2, .inl (fun _ => 0))), (q46, .inl (cI, 2, .inl (fun _ => 0))), (q47, .inl (cI, 2, .inl (fun _ => 0))), (q48, .inr (5, [.ref q49, .int 0, .ref q50, .int 0, .ref q51, .int 0, .int 0, .int 0, .int 0])), (q49, .inl (cI, 40, .inl (fun _ => 0))), (q50, .inl (cI, 40, .inl (fun _ => 0))), (q51, .inl (cL, 40, .inr (.inl (fun _ => 0)))), (q52, .inr (4, [.ref q53, .int 0])), (q53, .inl (cI, 8, .inl (fun _ => 0))), (q54, .inr (2, [.int 0, .ref q55, .ref q63, .ref q67])), (q55, .inr (0, [.int 7, .int 0, .int 0, .int 0, .int 0, .ref q56, .ref q57, .ref q58, .ref q59, .ref q60, .ref q61, .ref q62])), (q56, .inl (cI, 3, .inl (fun _ => 0))), (q57, .inl (cI, 3, .inl (fun _ => 0))), (q58, .inl (cI, 2, .inl (fun _ => 0))), (q59, .inl (cI, 2, .inl (fun _ => 0))), (q60, .inl (cI, 2, .inl (fun _ => 0))), (q61, .inl (cI, 2, .inl (fun _ => 0))), (q62, .inl (cI, 2, .inl (fun _ => 0))), (q63, .inr (5, [.ref q64, .int 0, .ref q65, .int 0, .ref q66, .int 0, .int 0, .int 0, .int 0])), (q64, .inl (cI, 40, .inl (fun _ => 0))), (q65, .inl (cI, 40, .inl (fun _ => 0))), (q66, .inl (cL, 40, .inr (.inl (fun _ => 0)))), (q67, .inr (4, [.ref q68, .int 0])), (q68, .inl (cI, 8, .inl (fun _ => 0)))] := rfl
  have ex0 : adAll sad [x0, q1, q2, q3, q4, q5, q6, q7, q8, q9, q10, q11, q12, q13, q14, q15, q16, q17, q18, q19, q20, q21, q22, q23, q24, q25, q26, q27, q28, q29, q30, q31, q32, q33, q34, q35, q36, q37, q38, q39, q40, q41, q42, q43, q44, q45, q46, q47, q48, q49, q50, q51, q52, q53, q54, q55, q56, q57, q58, q59, q60, q61, q62, q63, q64, q65, q66, q67, q68] QM 1 = x0 := rfl
  generalize hLX : [x0, q1, q2, q3, q4, q5, q6, q7, q8, q9, q10, q11, q12, q13, q14, q15, q16, q17, q18, q19, q20, q21, q22, q23, q24, q25, q26, q27, q28, q29, q30, q31, q32, q33, q34, q35, q36, q37, q38, q39, q40, q41, q42, q43, q44, q45, q46, q47, q48, q49, q50, q51, q52, q53, q54, q55, q56, q57, q58, q59, q60, q61, q62, q63, q64, q65, q66, q67, q68] = LX at ewx ex0
  have ewm : wsK cI cL cZ (adAll sad LX QM) (I0 L xs) WM = wsK cI cL cZ (adMo sad QM) Im WM := List.map_congr_left (fun k hk => WM_cell hk)
  have eWL : WL = WX ++ WM := by decide +kernel
  have ewl : wsK cI cL cZ (adAll sad LX QM) (I0 L xs) WL = wsK cI cL cZ (adAll sad LX QM) (I0 L xs) WX ++ wsK cI cL cZ (adAll sad LX QM) (I0 L xs) WM := by
    rw [eWL]; exact List.map_append
  have hPw : va_P D vwCl (wsK cI cL cZ (adAll sad LX QM) (I0 L xs) WL) H := by
    rw [ewl, ewm, ewx]; exact hPj
  have hDw : va_D (fun q : Nat => s.heap.size ≤ q) (wsK cI cL cZ (adAll sad LX QM) (I0 L xs) WL) := by
    rw [ewl, ewm, ewx]; exact hDj
  obtain ⟨hinj, hAA⟩ := inj_of hDw
  have e70 : adAll sad LX QM 70 = m0 := h70
  have e100 : adAll sad LX QM 100 = b := h100
  have eS : ∀ k, 89 ≤ k → adAll sad LX QM k = sad k := fun k hk => by
    unfold adAll
    rw [if_neg (by omega), if_neg (by omega)]
  generalize hadd : adAll sad LX QM = ad at hPw hDw hinj hAA e70 e100 ex0 eS
  obtain ⟨rv, hrv⟩ : ∃ rv : Nat → Value, rv = fun k => if k = 99 then rv0 99 else .ref (ad k) := ⟨_, rfl⟩
  have hrv1 : ∀ k, k ≠ 99 → rv k = .ref (ad k) := fun k hk => by rw [hrv]; exact if_neg hk
  have e99 : rv 99 = rv0 99 := by rw [hrv]; rfl
  have hrv2 : ∀ k, (rv k).category ≠ 2 := fun k => by
    by_cases hk : k = 99
    · rw [hk, e99]; exact hv99
    · rw [hrv1 k hk]; show (1 : Nat) ≠ 2; decide
  have hSt2 : StatH rv ad (adA ad (Wd 273)) s s.heap := by
    have h := hSt.narrow (B := adA ad (Wd 273)) (by rw [Wd_273]; exact hAA)
    obtain ⟨⟨a1, a2⟩, ⟨b1, b2⟩, c1, c2, c3, d1, d2, d3, d4⟩ := h
    simp only [← eS 97 (by decide)] at a1 a2
    simp only [← eS 98 (by decide)] at b1 b2
    rw [← e99] at c2
    rw [← eS 89 (by decide)] at d1
    rw [← eS 90 (by decide)] at d2
    rw [← eS 91 (by decide)] at d3
    rw [← eS 92 (by decide)] at d4
    have c3' : vk_S 4 (strT.map (fun l => l.length)) strB (fun i => ad (89 + i)) (fun i => ad (93 + i)) (adA ad (Wd 273)) s s.heap := by
      have f1 : (fun i => ad (89 + i)) = fun i => sad (89 + i) := funext fun i => eS _ (by omega)
      have f2 : (fun i => ad (93 + i)) = fun i => sad (93 + i) := funext fun i => eS _ (by omega)
      rw [f1, f2]; exact c3
    exact ⟨⟨a1, a2⟩, ⟨b1, b2⟩, c1, c2, c3', d1, d2, d3, d4⟩
  have hbA : ¬ adA ad (Wd 273) (ad 100) := by
    rw [Wd_273, e100]
    exact fun h => absurd (hAA b h) (Nat.not_le.mpr hbl)
  have hCX : CX p s m #[Value.ref b] c 273 ad rv cI cL cZ D L xs := by
    refine ⟨hx, ?_, ?_, ?_, htT, hK, hrv1, hrv2, by rw [Wd_273]; exact hinj, hSt2, fun _ => ⟨by rw [e100]; exact hX, by rw [e100]; exact hbl, hbA⟩⟩
    · rw [hb]; show code = (mq 273).2.1; rw [mq_273]
    · rw [hml]; exact mL_273.symm
    · rw [mC_273]; exact hown
  have hLR : LR rv (mL 273) ls [vR 100, vR 1, vR 70, vI 0] := by
    rw [mL_273]
    refine LR.of hl rfl (fun j w hj hw => ?_)
    match j, hj with
    | 0, hj => cases hj; rw [conc, hrv1 100 (by decide), e100]; simp
    | 1, hj => cases hj; rw [conc, hrv1 1 (by decide), ex0]; simp
    | 2, hj => cases hj; rw [conc, hrv1 70 (by decide), e70]; simp
    | 3, hj => cases hj; simp [conc]
    | j + 4, hj => cases hj
  have hSn : va_S (adA ad (Wd 273)) s.heap H [] := ⟨hS.1, fun q h1 _ => hS.2.1 q h1 (Nat.not_le.mpr h1), fun _ h => by cases h⟩
  obtain ⟨I', hrun⟩ := hpure L xs hL
  rw [runs] at hrun
  obtain ⟨n, hn⟩ := runC_iff.mp hrun
  have hINV : INV s 273 ad rv cI cL cZ D L xs (I0 L xs) [vR 100, vR 1, vR 70, vI 0] [] ls H [] := by
    refine ⟨okM_I0 hL, fun v hv => ?_, fun v hv => absurd hv List.not_mem_nil, hLR, by rw [Wd_273]; exact hPw, hSn, fun _ => ⟨rfl, fun j _ => ?_⟩⟩
    · simp only [List.mem_cons, List.not_mem_nil, or_false] at hv
      rcases hv with rfl | rfl | rfl | rfl
      · trivial
      · trivial
      · trivial
      · exact ⟨by decide, by decide⟩
    · have ej : ¬ ((j : Int) = -1) := by omega
      show Int32.ofInt (if (j : Int) = -1 then (L : Int) else (xs (j : Int).toNat).toInt) = xs j
      rw [if_neg ej, Int32.ofInt_toInt, Int.toNat_natCast]
  have hRET : RETH p l e room_1 s m #[Value.ref b] below meth c 88 616596 Q 273 ad rv cI cL cZ D L xs (some (vI 1)) I' := by
    intro pc k Lc Sc ls2 H2 locs2 hk hV hd h
    have hf : ∀ q ∈ locs2, s.heap.size ≤ q.base := fun q hq => hAA _ (by have := hV.2.2.2.2.2.1.2.2 q hq; rwa [Wd_273] at this)
    refine va_forget hf ?_
    refine W.widen (k := 600000) (n := 7302250) (Nat.le_of_ble_eq_true rfl) (Nat.le_of_ble_eq_true rfl) ?_
    unfold retV at h
    split at h
    · next x =>
      split at h
      · cases h
        have e273 : mB 273 = code := by show (mq 273).2.1 = code; rw [mq_273]
        rw [e273] at hd
        exact hend pc H2 ls2 hd
      · cases h
    · split at h <;> cases h
    · split at h <;> cases h
    · split at h <;> cases h
    · cases h
  exact sound (d := 100) (fun y a I r I' hy h => met_all 100 y a I r I' hy h) ⟨by decide, by decide⟩ ⟨Nat.le_of_ble_eq_true rfl, Nat.le_of_ble_eq_true rfl⟩ hCX hRET n (18, [vR 100, vR 1, vR 70, vI 0], [], I0 L xs) ls H [] hn hINV
