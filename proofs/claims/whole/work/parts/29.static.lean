/-! From the law's entry to its loop (printed by gen29.py). -/
section LAW0
variable {s : State} {b : Addr}
theorem nw_at {i : Nat} {c : Cond} (h : (Jvm.Cond.and given_1 narrow_1).before #[Value.ref b] s = true) (hi : (flatC (Jvm.Cond.and given_1 narrow_1))[i]? = some c) : c.before #[Value.ref b] s = true := flat_of_before _ h c (List.mem_of_getElem? hi)
def strTm (i : Nat) : Term := match i with
  | 0 => .string "BogBoards$TextReader" 43
  | 1 => .string "BogBoards$TextReader" 56
  | 2 => .string "BogBoards$TextReader" 63
  | _ => .string "BogBoards$TextReader" 72
set_option maxRecDepth 100000 in
theorem law_LONGER {A : Nat → Prop} (h : (Jvm.Cond.and given_1 narrow_1).before #[Value.ref b] s = true) (hts : ∀ w ∈ lw_tbl, w.before #[Value.ref b] s = true) (hA : ∀ a : Nat, a < s.heap.size → ¬ A a) : ∃ t : Nat, va_Z RX0 "LONGER" "[I" (.ref t) A s s.heap ∧ va_T .int t 6 (fun j => .int (Int32.ofInt ((roT.getD 0 []).getD j 0))) A s s.heap := by
  obtain ⟨t, h1, h2⟩ := va_Tof (args := #[Value.ref b]) (s := s) (tm := .static "BogBoards$Bog" "LONGER" "[I") (ty := .int) (N := 6) (f := fun j => .int (Int32.ofInt ((roT.getD 0 []).getD j 0))) (A := A) (by decide) (nw_at h (i := 10) (by decide +kernel)) (va_eqt (z := 6) (nw_at h (i := 11) (by decide +kernel))) (fun j hj => by
    match j, hj with
    | 0, _ => exact va_eqt (nw_at h (i := 12) (by decide +kernel))
    | 1, _ => exact va_eqt (nw_at h (i := 13) (by decide +kernel))
    | 2, _ => exact va_eqt (nw_at h (i := 14) (by decide +kernel))
    | 3, _ => exact va_eqt (nw_at h (i := 15) (by decide +kernel))
    | 4, _ => exact va_eqt (nw_at h (i := 16) (by decide +kernel))
    | 5, _ => exact va_eqt (nw_at h (i := 17) (by decide +kernel))
    | j + 6, hj => omega) hA
  exact ⟨t, va_Zof (hts _ (List.mem_append_right _ (List.mem_append_right _ (List.mem_append_right _ (List.mem_append_left _ (List.mem_of_getElem? (l := tables_1_3) (i := 24) rfl)))))) (hts _ (List.mem_append_right _ (List.mem_append_left _ (List.mem_of_getElem? (l := tables_1_1) (i := 2) rfl)))) h1 hA, h2⟩
set_option maxRecDepth 100000 in
theorem law_STRONGER {A : Nat → Prop} (h : (Jvm.Cond.and given_1 narrow_1).before #[Value.ref b] s = true) (hts : ∀ w ∈ lw_tbl, w.before #[Value.ref b] s = true) (hA : ∀ a : Nat, a < s.heap.size → ¬ A a) : ∃ t : Nat, va_Z RX0 "STRONGER" "[I" (.ref t) A s s.heap ∧ va_T .int t 6 (fun j => .int (Int32.ofInt ((roT.getD 1 []).getD j 0))) A s s.heap := by
  obtain ⟨t, h1, h2⟩ := va_Tof (args := #[Value.ref b]) (s := s) (tm := .static "BogBoards$Bog" "STRONGER" "[I") (ty := .int) (N := 6) (f := fun j => .int (Int32.ofInt ((roT.getD 1 []).getD j 0))) (A := A) (by decide) (nw_at h (i := 19) (by decide +kernel)) (va_eqt (z := 6) (nw_at h (i := 20) (by decide +kernel))) (fun j hj => by
    match j, hj with
    | 0, _ => exact va_eqt (nw_at h (i := 21) (by decide +kernel))
    | 1, _ => exact va_eqt (nw_at h (i := 22) (by decide +kernel))
    | 2, _ => exact va_eqt (nw_at h (i := 23) (by decide +kernel))
    | 3, _ => exact va_eqt (nw_at h (i := 24) (by decide +kernel))
    | 4, _ => exact va_eqt (nw_at h (i := 25) (by decide +kernel))
    | 5, _ => exact va_eqt (nw_at h (i := 26) (by decide +kernel))
    | j + 6, hj => omega) hA
  exact ⟨t, va_Zof (hts _ (List.mem_append_right _ (List.mem_append_right _ (List.mem_append_right _ (List.mem_append_left _ (List.mem_of_getElem? (l := tables_1_3) (i := 42) rfl)))))) (hts _ (List.mem_append_right _ (List.mem_append_left _ (List.mem_of_getElem? (l := tables_1_1) (i := 2) rfl)))) h1 hA, h2⟩
set_option maxRecDepth 100000 in
theorem law_strings {A : Nat → Prop} (h : (Jvm.Cond.and given_1 narrow_1).before #[Value.ref b] s = true) (hA : ∀ a : Nat, a < s.heap.size → ¬ A a) : ∃ adK adV : Nat → Nat, vk_S 4 (strT.map (fun l => l.length)) strB adK adV A s s.heap ∧ ∀ i : Nat, i < 4 → (strTm i).eval #[Value.ref b] s none [] s = some (.ref (adK i)) := by
  refine vk_Sof (args := #[Value.ref b]) (N := 4) (tm := strTm) (len := strT.map (fun l => l.length)) (byt := strB) (A := A) (by decide +kernel) (fun i hi => by
    match i, hi with
    | 0, _ => exact nw_at h (i := 27) (by decide +kernel)
    | 1, _ => exact nw_at h (i := 35) (by decide +kernel)
    | 2, _ => exact nw_at h (i := 46) (by decide +kernel)
    | 3, _ => exact nw_at h (i := 58) (by decide +kernel)
    | i + 4, hi => omega) (fun i hi => by
    match i, hi with
    | 0, _ => exact nw_at h (i := 28) (by decide +kernel)
    | 1, _ => exact nw_at h (i := 36) (by decide +kernel)
    | 2, _ => exact nw_at h (i := 47) (by decide +kernel)
    | 3, _ => exact nw_at h (i := 59) (by decide +kernel)
    | i + 4, hi => omega) (fun i hi => by
    match i, hi with
    | 0, _ => exact nw_at h (i := 29) (by decide +kernel)
    | 1, _ => exact nw_at h (i := 37) (by decide +kernel)
    | 2, _ => exact nw_at h (i := 48) (by decide +kernel)
    | 3, _ => exact nw_at h (i := 60) (by decide +kernel)
    | i + 4, hi => omega) (fun i hi => by
    match i, hi with
    | 0, _ => exact nw_at h (i := 30) (by decide +kernel)
    | 1, _ => exact nw_at h (i := 38) (by decide +kernel)
    | 2, _ => exact nw_at h (i := 49) (by decide +kernel)
    | 3, _ => exact nw_at h (i := 61) (by decide +kernel)
    | i + 4, hi => omega) (fun i hi j hj => by
    match i, hi, j, hj with
    | 0, _, 0, _ => exact nw_at h (i := 31) (by decide +kernel)
    | 0, _, 1, _ => exact nw_at h (i := 32) (by decide +kernel)
    | 0, _, 2, _ => exact nw_at h (i := 33) (by decide +kernel)
    | 0, _, 3, _ => exact nw_at h (i := 34) (by decide +kernel)
    | 0, _, j + 4, hj => exact absurd hj (by show ¬ (j + 4 < 4); omega)
    | 1, _, 0, _ => exact nw_at h (i := 39) (by decide +kernel)
    | 1, _, 1, _ => exact nw_at h (i := 40) (by decide +kernel)
    | 1, _, 2, _ => exact nw_at h (i := 41) (by decide +kernel)
    | 1, _, 3, _ => exact nw_at h (i := 42) (by decide +kernel)
    | 1, _, 4, _ => exact nw_at h (i := 43) (by decide +kernel)
    | 1, _, 5, _ => exact nw_at h (i := 44) (by decide +kernel)
    | 1, _, j + 6, hj => exact absurd hj (by show ¬ (j + 6 < 6); omega)
    | 2, _, 0, _ => exact nw_at h (i := 50) (by decide +kernel)
    | 2, _, 1, _ => exact nw_at h (i := 51) (by decide +kernel)
    | 2, _, 2, _ => exact nw_at h (i := 52) (by decide +kernel)
    | 2, _, 3, _ => exact nw_at h (i := 53) (by decide +kernel)
    | 2, _, 4, _ => exact nw_at h (i := 54) (by decide +kernel)
    | 2, _, 5, _ => exact nw_at h (i := 55) (by decide +kernel)
    | 2, _, j + 6, hj => exact absurd hj (by show ¬ (j + 6 < 6); omega)
    | 3, _, 0, _ => exact nw_at h (i := 62) (by decide +kernel)
    | 3, _, 1, _ => exact nw_at h (i := 63) (by decide +kernel)
    | 3, _, 2, _ => exact nw_at h (i := 64) (by decide +kernel)
    | 3, _, 3, _ => exact nw_at h (i := 65) (by decide +kernel)
    | 3, _, 4, _ => exact nw_at h (i := 66) (by decide +kernel)
    | 3, _, j + 5, hj => exact absurd hj (by show ¬ (j + 5 < 5); omega)
    | i + 4, hi, _, _ => omega) (fun i j hi hj hij => by
    match i, j, hi, hj, hij with
    | 0, 0, _, _, h => exact absurd rfl h
    | 0, 1, _, _, _ => exact Or.inl (nw_at h (i := 45) (by decide +kernel))
    | 0, 2, _, _, _ => exact Or.inl (nw_at h (i := 56) (by decide +kernel))
    | 0, 3, _, _, _ => exact Or.inl (nw_at h (i := 67) (by decide +kernel))
    | 1, 0, _, _, _ => exact Or.inr (nw_at h (i := 45) (by decide +kernel))
    | 1, 1, _, _, h => exact absurd rfl h
    | 1, 2, _, _, _ => exact Or.inl (nw_at h (i := 57) (by decide +kernel))
    | 1, 3, _, _, _ => exact Or.inl (nw_at h (i := 68) (by decide +kernel))
    | 2, 0, _, _, _ => exact Or.inr (nw_at h (i := 56) (by decide +kernel))
    | 2, 1, _, _, _ => exact Or.inr (nw_at h (i := 57) (by decide +kernel))
    | 2, 2, _, _, h => exact absurd rfl h
    | 2, 3, _, _, _ => exact Or.inl (nw_at h (i := 69) (by decide +kernel))
    | 3, 0, _, _, _ => exact Or.inr (nw_at h (i := 67) (by decide +kernel))
    | 3, 1, _, _, _ => exact Or.inr (nw_at h (i := 68) (by decide +kernel))
    | 3, 2, _, _, _ => exact Or.inr (nw_at h (i := 69) (by decide +kernel))
    | 3, 3, _, _, h => exact absurd rfl h
    | i + 4, _, hi, _, _ => omega
    | _, j + 4, _, hj, _ => omega) hA
end LAW0
def adSt (t0 t1 : Nat) (adK adV : Nat → Nat) (ft b : Nat) (k : Nat) : Nat := if k = 97 then t0 else if k = 98 then t1 else if k = 99 then ft else if k = 100 then b else if k < 93 then adK (k - 89) else adV (k - 93)
set_option maxRecDepth 100000 in
theorem law_static {s : State} {b : Addr} {A : Nat → Prop} (h : (Jvm.Cond.and given_1 narrow_1).before #[Value.ref b] s = true) (hts : ∀ w ∈ lw_tbl, w.before #[Value.ref b] s = true) (hA : ∀ a : Nat, a < s.heap.size → ¬ A a) : ∃ (sad : Nat → Nat) (rv0 : Nat → Value), (rv0 99).category ≠ 2 ∧ StatH rv0 sad A s s.heap ∧ sad 100 = b := by
  obtain ⟨t0, z0, r0⟩ := law_LONGER (A := A) h hts hA
  obtain ⟨t1, z1, r1⟩ := law_STRONGER (A := A) h hts hA
  obtain ⟨adK, adV, hS4, hev⟩ := law_strings (A := A) h hA
  have hc : va_Z "java/lang/String" "COMPACT_STRINGS" "Z" (.int 1) A s s.heap := va_Zof (hts _ (List.mem_append_right _ (List.mem_append_right _ (List.mem_append_left _ (List.mem_of_getElem? (l := tables_1_2) (i := 197) rfl))))) (hts _ (List.mem_append_right _ (List.mem_append_left _ (List.mem_of_getElem? (l := tables_1_1) (i := 13) rfl)))) (va_eqt (nw_at h (i := 4) (by decide +kernel))) hA
  have hq : va_Zq "jdk/internal/util/Preconditions" "SIOOBE_FORMATTER" "Ljava/util/function/BiFunction;" A s s.heap := va_Zqof (hts _ (List.mem_append_right _ (List.mem_append_right _ (List.mem_append_left _ (List.mem_of_getElem? (l := tables_1_2) (i := 213) rfl))))) (hts _ (List.mem_append_right _ (List.mem_append_left _ (List.mem_of_getElem? (l := tables_1_1) (i := 15) rfl)))) (nw_at h (i := 5) (by decide +kernel)) hA
  have d1 : vk_R RX9 43 "last" (adK 0) s := vk_R.of (A := #[Value.ref b]) (hts _ (List.mem_append_right _ (List.mem_append_right _ (List.mem_append_left _ (List.mem_of_getElem? (l := tables_1_2) (i := 183) rfl))))) (hev 0 (by decide))
  have d2 : vk_R RX9 56 "island" (adK 1) s := vk_R.of (A := #[Value.ref b]) (hts _ (List.mem_append_right _ (List.mem_append_right _ (List.mem_append_right _ (List.mem_append_left _ (List.mem_of_getElem? (l := tables_1_3) (i := 4) rfl)))))) (hev 1 (by decide))
  have d3 : vk_R RX9 63 "walker" (adK 2) s := vk_R.of (A := #[Value.ref b]) (hts _ (List.mem_append_right _ (List.mem_append_right _ (List.mem_append_right _ (List.mem_append_left _ (List.mem_of_getElem? (l := tables_1_3) (i := 5) rfl)))))) (hev 2 (by decide))
  have d4 : vk_R RX9 72 "board" (adK 3) s := vk_R.of (A := #[Value.ref b]) (hts _ (List.mem_append_right _ (List.mem_append_right _ (List.mem_append_right _ (List.mem_append_left _ (List.mem_of_getElem? (l := tables_1_3) (i := 14) rfl)))))) (hev 3 (by decide))
  have hS4' : ∀ ft : Nat, vk_S 4 (strT.map (fun l => l.length)) strB (fun i => adSt t0 t1 adK adV ft b (89 + i)) (fun i => adSt t0 t1 adK adV ft b (93 + i)) A s s.heap := fun ft => by
    have e1 : ∀ i, i < 4 → adSt t0 t1 adK adV ft b (89 + i) = adK i := fun i hi => by
      unfold adSt
      rw [if_neg (by omega), if_neg (by omega), if_neg (by omega), if_neg (by omega), if_pos (by omega), show 89 + i - 89 = i by omega]
    have e2 : ∀ i, i < 4 → adSt t0 t1 adK adV ft b (93 + i) = adV i := fun i hi => by
      unfold adSt
      rw [if_neg (by omega), if_neg (by omega), if_neg (by omega), if_neg (by omega), if_neg (by omega), show 93 + i - 93 = i by omega]
    refine ⟨fun i hi => ?_, fun i j hi hj e => ?_⟩
    · simp only [e1 i hi, e2 i hi]
      exact hS4.1 i hi
    · simp only [e1 i hi, e1 j hj] at e
      exact hS4.2 i j hi hj e
  rcases hq with hq | ⟨ft, hq⟩
  · exact ⟨adSt t0 t1 adK adV 0 b, fun _ => .null, by show (1 : Nat) ≠ 2; decide, ⟨⟨z0, r0⟩, ⟨z1, r1⟩, hc, hq, hS4' 0, d1, d2, d3, d4⟩, rfl⟩
  · exact ⟨adSt t0 t1 adK adV ft b, fun _ => .ref ft, by show (1 : Nat) ≠ 2; decide, ⟨⟨z0, r0⟩, ⟨z1, r1⟩, hc, hq, hS4' ft, d1, d2, d3, d4⟩, rfl⟩
