/-! The small machine is sound: what it does, the kit's W does. Numbers first. -/
def ok32 (x : Int) : Prop := -2147483648 ≤ x ∧ x ≤ 2147483647
def ok64 (x : Int) : Prop := -9223372036854775808 ≤ x ∧ x ≤ 9223372036854775807
theorem i32_id {x : Int} (h : ok32 x) : (Int32.ofInt x).toInt = x := by
  obtain ⟨h1, h2⟩ := h
  exact Int32.toInt_ofInt_of_le (by omega) (by omega)
theorem i64_id {x : Int} (h : ok64 x) : (Int64.ofInt x).toInt = x := by
  obtain ⟨h1, h2⟩ := h
  exact Int64.toInt_ofInt_of_le (by omega) (by omega)
theorem ok32_i (x : Int32) : ok32 x.toInt := by
  have h1 := Int32.le_toInt x
  have h2 := Int32.toInt_lt x
  constructor <;> omega
theorem ok64_i (x : Int64) : ok64 x.toInt := by
  have h1 := Int64.le_toInt x
  have h2 := Int64.toInt_lt x
  constructor <;> omega
theorem i32_eq {x y : Int} (hx : ok32 x) (hy : ok32 y) : Int32.ofInt x = Int32.ofInt y ↔ x = y := by
  rw [← Int32.toInt_inj, i32_id hx, i32_id hy]
theorem i32_lt {x y : Int} (hx : ok32 x) (hy : ok32 y) : Int32.ofInt x < Int32.ofInt y ↔ x < y := by
  rw [Int32.lt_iff_toInt_lt, i32_id hx, i32_id hy]
theorem i32_le {x y : Int} (hx : ok32 x) (hy : ok32 y) : Int32.ofInt x ≤ Int32.ofInt y ↔ x ≤ y := by
  rw [Int32.le_iff_toInt_le, i32_id hx, i32_id hy]
theorem i64_eq {x y : Int} (hx : ok64 x) (hy : ok64 y) : Int64.ofInt x = Int64.ofInt y ↔ x = y := by
  rw [← Int64.toInt_inj, i64_id hx, i64_id hy]
theorem i64_lt {x y : Int} (hx : ok64 x) (hy : ok64 y) : Int64.ofInt x < Int64.ofInt y ↔ x < y := by
  rw [Int64.lt_iff_toInt_lt, i64_id hx, i64_id hy]
theorem i32_vp {x : Int} (hx : ok32 x) {n : Nat} (h0 : 0 ≤ x) (h1 : x < n) : vp_in (Int32.ofInt x) n := vp_in_iff.mpr (by rw [i32_id hx]; exact ⟨h0, h1⟩)
theorem i32_nat {x : Int} (hx : ok32 x) : (Int32.ofInt x).toNatClampNeg = x.toNat := by
  show (Int32.ofInt x).toInt.toNat = x.toNat
  rw [i32_id hx]
theorem i32_long {x : Int} (hx : ok32 x) : (Int32.ofInt x).toInt64 = Int64.ofInt x := by
  apply Int64.toInt_inj.mp
  rw [Int32.toInt_toInt64, i32_id hx, i64_id]
  obtain ⟨h1, h2⟩ := hx
  constructor <;> omega
def okV (v : AV) : Prop := match v with
  | .inl x => ok32 x
  | .inr (.inl x) => ok64 x
  | _ => True
def okT (t : Nat) (x : Int) : Prop := match t with
  | 0 => ok32 x
  | 1 => ok64 x
  | 2 => x = 0 ∨ x = 1
  | _ => True
/-- what a cell's place holds: 0 int, 1 long, 2 boolean, 3 a reference -/
def tyOf (a : Nat) (i : Int) : Nat := match cT a with
  | (0, c) => fk c i.toNat
  | (1, _) => 0
  | (2, _) => 1
  | (3, _) => 2
  | _ => 0
def okM (I : MM) : Prop := ∀ a i, okT (tyOf a i) (I a i)
def conc (rv : Nat → Value) (v : AV) : Value := match v with
  | .inl x => .int (Int32.ofInt x)
  | .inr (.inl x) => .long (Int64.ofInt x)
  | .inr (.inr k) => rv k
def fldV (ad : Nat → Nat) (I : MM) (k c s : Nat) : Value := match fk c s with
  | 0 => .int (Int32.ofInt (I k s))
  | 1 => .long (Int64.ofInt (I k s))
  | 2 => .int (Int32.ofInt (I k s))
  | _ => .ref (ad (sh k s))
def cellE (cI cL cZ : ClassId) (ad : Nat → Nat) (I : MM) (k : Nat) : va_E := match cT k with
  | (0, c) => .inr (c, (List.range (clsK c)).map (fldV ad I k c))
  | (1, n) => .inl (cI, n, .inl (fun j => Int32.ofInt (I k j)))
  | (2, n) => .inl (cL, n, .inr (.inl (fun j => Int64.ofInt (I k j))))
  | (3, n) => .inl (cZ, n, .inl (fun j => Int32.ofInt (I k j)))
  | _ => .inl (cI, 0, .inl (fun _ => 0))
def wsK (cI cL cZ : ClassId) (ad : Nat → Nat) (I : MM) (K : List Nat) : va_W := K.map (fun k => (ad k, cellE cI cL cZ ad I k))
def tysG (cI cL cZ : ClassId) : List (ClassId × FieldType) := [(cI, .int), (cL, .long), (cZ, .boolean)]
def adA (ad : Nat → Nat) (K : List Nat) : Nat → Prop := fun q => ∃ k, k ∈ K ∧ q = ad k
def adInj (ad : Nat → Nat) (K : List Nat) : Prop := ∀ i j, i ∈ K → j ∈ K → ad i = ad j → i = j
theorem wsK_at {cI cL cZ : ClassId} {ad : Nat → Nat} {I : MM} {K : List Nat} {k : Nat} (h : k ∈ K) : ∃ q : Nat, K[q]? = some k ∧ (wsK cI cL cZ ad I K)[q]? = some (ad k, cellE cI cL cZ ad I k) := by
  obtain ⟨q, hq⟩ := List.getElem?_of_mem h
  exact ⟨q, hq, by simp [wsK, hq]⟩
theorem wsK_D {cI cL cZ : ClassId} {ad : Nat → Nat} {I : MM} {K : List Nat} (hi : adInj ad K) (hn : K.Nodup) : va_D (adA ad K) (wsK cI cL cZ ad I K) := by
  refine ⟨fun i j p q hp hq e => ?_, fun k q hk => ?_⟩
  · simp only [wsK, List.getElem?_map, Option.map_eq_some_iff] at hp hq
    obtain ⟨a, ha, rfl⟩ := hp
    obtain ⟨b, hb, rfl⟩ := hq
    have hab := hi a b (List.mem_of_getElem? ha) (List.mem_of_getElem? hb) e
    subst hab
    obtain ⟨h1, h2⟩ := List.getElem?_eq_some_iff.mp ha
    obtain ⟨h3, h4⟩ := List.getElem?_eq_some_iff.mp hb
    exact (List.getElem_inj hn).mp (h2.trans h4.symm)
  · simp only [wsK, List.getElem?_map, Option.map_eq_some_iff] at hk
    obtain ⟨a, ha, rfl⟩ := hk
    exact ⟨a, List.mem_of_getElem? ha, rfl⟩
theorem wsK_set {cI cL cZ : ClassId} {ad : Nat → Nat} {I I' : MM} {K : List Nat} {k q : Nat} (hn : K.Nodup) (hq : K[q]? = some k) (hI : ∀ j, j ≠ k → I' j = I j) {e : va_E} (he : e = cellE cI cL cZ ad I' k) : (wsK cI cL cZ ad I K).set q (ad k, e) = wsK cI cL cZ ad I' K := by
  apply List.ext_getElem?
  intro i
  obtain ⟨h1, h2⟩ := List.getElem?_eq_some_iff.mp hq
  by_cases hiq : i = q
  · subst hiq
    rw [List.getElem?_set_self (by simpa [wsK] using h1)]
    simp [wsK, hq, he]
  · rw [List.getElem?_set_ne (Ne.symm hiq)]
    simp only [wsK, List.getElem?_map]
    cases hi : K[i]? with
    | none => rfl
    | some j =>
      have hj : j ≠ k := by
        intro e0
        subst e0
        obtain ⟨h3, h4⟩ := List.getElem?_eq_some_iff.mp hi
        exact hiq ((List.getElem_inj hn).mp (h4.trans h2.symm))
      have : cellE cI cL cZ ad I' j = cellE cI cL cZ ad I j := by
        unfold cellE fldV
        rw [hI j hj]
      simp [this]
-- locals
def ascL (rv : Nat → Value) (L : List AV) : List (Nat × Value) := L.zipIdx.filterMap (fun q => if q.1 = vR 0 then none else some (q.2, conc rv q.1))
theorem ascL_mem {rv : Nat → Value} {L : List AV} {j : Nat} {w : AV} (h : L[j]? = some w) (hw : w ≠ vR 0) : (j, conc rv w) ∈ ascL rv L := by
  refine List.mem_filterMap.mpr ⟨(w, j), ?_, by rw [if_neg hw]⟩
  exact List.mem_zipIdx_iff_getElem?.mpr (by simpa using h)
theorem ascL_of {rv : Nat → Value} {L : List AV} {q : Nat × Value} (h : q ∈ ascL rv L) : ∃ w, L[q.1]? = some w ∧ w ≠ vR 0 ∧ q.2 = conc rv w := by
  obtain ⟨⟨w, j⟩, h1, h2⟩ := List.mem_filterMap.mp h
  have h3 := List.mem_zipIdx_iff_getElem?.mp h1
  split at h2
  · cases h2
  · next hw =>
    cases h2
    exact ⟨w, by simpa using h3, hw, rfl⟩
def LR (rv : Nat → Value) (n : Nat) (ls : Array Slot) (L : List AV) : Prop := lv_has ls n (ascL rv L) ∧ L.length = n
theorem LR.at {rv : Nat → Value} {n : Nat} {ls : Array Slot} {L : List AV} (h : LR rv n ls L) {i : Nat} {w : AV} (hi : L[i]? = some w) (hw : w ≠ vR 0) : ls[i]? = some (.val (conc rv w)) := h.1.2.2 _ (ascL_mem hi hw)
theorem LR.of {rv : Nat → Value} {n : Nat} {ls : Array Slot} {L : List AV} {lv : List (Nat × Value)} (h : lv_has ls n lv) (hl : L.length = n) (hm : ∀ j w, L[j]? = some w → w ≠ vR 0 → (j, conc rv w) ∈ lv) : LR rv n ls L := by
  refine ⟨⟨h.1, h.2.1, fun q hq => ?_⟩, hl⟩
  obtain ⟨w, h1, h2, h3⟩ := ascL_of hq
  rw [h3]
  exact h.2.2 _ (hm _ _ h1 h2)
theorem lset1_len (L : List AV) (i : Nat) (v : AV) : (lset1 L i v).length = L.length := by
  cases i <;> simp [lset1]
theorem kill_eq {w : AV} (h : kill w ≠ vR 0) : kill w = w ∧ ∀ x, w ≠ vL x := by
  rcases w with x | x | k
  · exact ⟨rfl, fun x h => by cases h⟩
  · exact absurd rfl h
  · exact ⟨rfl, fun x h => by cases h⟩
theorem lset1_get {L : List AV} {i : Nat} {v : AV} (hi : i < L.length) {j : Nat} {w : AV} (h : (lset1 L i v)[j]? = some w) (hw : w ≠ vR 0) : (j = i ∧ w = v) ∨ (j ≠ i ∧ L[j]? = some w ∧ (j + 1 = i → ∀ x, w ≠ vL x)) := by
  cases i with
  | zero =>
    simp only [lset1] at h
    by_cases hj : j = 0
    · subst hj
      rw [List.getElem?_set_self hi] at h
      exact Or.inl ⟨rfl, (Option.some.inj h).symm⟩
    · rw [List.getElem?_set_ne (Ne.symm hj)] at h
      exact Or.inr ⟨hj, h, fun z => by omega⟩
  | succ i =>
    simp only [lset1] at h
    by_cases hj : j = i + 1
    · subst hj
      rw [List.getElem?_set_self (by simpa using hi)] at h
      exact Or.inl ⟨rfl, (Option.some.inj h).symm⟩
    · rw [List.getElem?_set_ne (Ne.symm hj)] at h
      by_cases hji : j = i
      · subst hji
        rw [List.getElem?_modify_eq] at h
        cases hl : L[j]? with
        | none => rw [hl] at h; cases h
        | some u =>
          rw [hl] at h
          have h2 : kill u = w := by simpa using h
          subst h2
          obtain ⟨k1, k2⟩ := kill_eq hw
          refine Or.inr ⟨hj, by rw [k1], fun _ => by rw [k1]; exact k2⟩
      · rw [List.getElem?_modify_ne _ _ (Ne.symm hji)] at h
        exact Or.inr ⟨hj, h, fun z => by omega⟩
theorem cat_ne {rv : Nat → Value} (hrc : ∀ k, (rv k).category ≠ 2) {w : AV} (h : ∀ x, w ≠ vL x) : (conc rv w).category ≠ 2 := by
  rcases w with x | x | k
  · show (1 : Nat) ≠ 2; decide
  · exact absurd rfl (h x)
  · exact hrc k
theorem LR.st1 {rv : Nat → Value} {n : Nat} {ls ls' : Array Slot} {L : List AV} (h : LR rv n ls L) (hrc : ∀ k, (rv k).category ≠ 2) {i : Nat} (hi : i < n) {v : AV} {cv : Value} (hc : cv = conc rv v) (h' : lv_has ls' n ((i, cv) :: (ascL rv L).filter (fun q => !(q.1 == i) && !(q.1 + 1 == i && q.2.category == 2)))) : LR rv n ls' (lset1 L i v) := by
  refine LR.of h' (by rw [lset1_len]; exact h.2) (fun j w hj hw => ?_)
  rcases lset1_get (by rw [h.2]; exact hi) hj hw with ⟨rfl, rfl⟩ | ⟨h1, h2, h3⟩
  · rw [hc]; exact List.mem_cons_self
  · refine List.mem_cons_of_mem _ (List.mem_filter.mpr ⟨ascL_mem h2 hw, ?_⟩)
    simp only [Bool.and_eq_true, Bool.not_eq_true', beq_eq_false_iff_ne, ne_eq, Bool.and_eq_false_iff]
    refine ⟨h1, ?_⟩
    by_cases hji : j + 1 = i
    · exact Or.inr (cat_ne hrc (h3 hji))
    · exact Or.inl hji
theorem lset2_get {L : List AV} {i : Nat} {v : AV} (hi : i + 1 < L.length) {j : Nat} {w : AV} (h : (lset2 L i v)[j]? = some w) (hw : w ≠ vR 0) : (j = i ∧ w = v) ∨ (j ≠ i ∧ j ≠ i + 1 ∧ L[j]? = some w ∧ (j + 1 = i → ∀ x, w ≠ vL x)) := by
  unfold lset2 at h
  by_cases hj : j = i + 1
  · subst hj
    rw [List.getElem?_set_self (by rw [lset1_len]; exact hi)] at h
    exact absurd (Option.some.inj h).symm hw
  · rw [List.getElem?_set_ne (Ne.symm hj)] at h
    rcases lset1_get (by omega) h hw with ⟨h1, h2⟩ | ⟨h1, h2, h3⟩
    · exact Or.inl ⟨h1, h2⟩
    · exact Or.inr ⟨h1, hj, h2, h3⟩
theorem LR.st2 {rv : Nat → Value} {n : Nat} {ls ls' : Array Slot} {L : List AV} (h : LR rv n ls L) (hrc : ∀ k, (rv k).category ≠ 2) {i : Nat} (hi : i + 1 < n) {v : AV} {cv : Value} (hc : cv = conc rv v) (h' : lv_has ls' n ((i, cv) :: (ascL rv L).filter (fun q => !(q.1 == i) && (!(q.1 == i + 1) && !(q.1 + 1 == i && q.2.category == 2))))) : LR rv n ls' (lset2 L i v) := by
  refine LR.of h' (by rw [lset2, List.length_set, lset1_len]; exact h.2) (fun j w hj hw => ?_)
  rcases lset2_get (by rw [h.2]; exact hi) hj hw with ⟨rfl, rfl⟩ | ⟨h1, h4, h2, h3⟩
  · rw [hc]; exact List.mem_cons_self
  · refine List.mem_cons_of_mem _ (List.mem_filter.mpr ⟨ascL_mem h2 hw, ?_⟩)
    simp only [Bool.and_eq_true, Bool.not_eq_true', beq_eq_false_iff_ne, ne_eq, Bool.and_eq_false_iff]
    refine ⟨h1, h4, ?_⟩
    by_cases hji : j + 1 = i
    · exact Or.inr (cat_ne hrc (h3 hji))
    · exact Or.inl hji
theorem okL_st1 {L : List AV} {i : Nat} {v : AV} (h : ∀ w ∈ L, okV w) (hv : okV v) : ∀ w ∈ lset1 L i v, okV w := by
  intro w hw
  have key : ∀ (M : List AV) (k : Nat), (∀ u ∈ M, okV u) → ∀ u ∈ M.set k v, okV u := fun M k hM u hu => by
    rcases List.mem_or_eq_of_mem_set hu with h1 | h1
    · exact hM u h1
    · rw [h1]; exact hv
  cases i with
  | zero => exact key L 0 h w hw
  | succ i =>
    refine key _ _ (fun u hu => ?_) w hw
    obtain ⟨j, hj⟩ := List.getElem?_of_mem hu
    by_cases hji : j = i
    · subst hji
      rw [List.getElem?_modify_eq] at hj
      cases hl : L[j]? with
      | none => rw [hl] at hj; cases hj
      | some x =>
        rw [hl] at hj
        have h2 : kill x = u := by simpa using hj
        have h3 := h x (List.mem_of_getElem? hl)
        rw [← h2]
        rcases x with y | y | y
        · exact h3
        · exact trivial
        · exact trivial
    · rw [List.getElem?_modify_ne _ _ (Ne.symm hji)] at hj
      exact h u (List.mem_of_getElem? hj)
theorem okL_st2 {L : List AV} {i : Nat} {v : AV} (h : ∀ w ∈ L, okV w) (hv : okV v) : ∀ w ∈ lset2 L i v, okV w := by
  intro w hw
  rcases List.mem_or_eq_of_mem_set hw with h1 | h1
  · exact okL_st1 h hv w h1
  · rw [h1]; exact trivial
theorem okM_set {I : MM} (h : okM I) {a : Nat} {i v : Int} (hv : okT (tyOf a i) v) : okM (mset I a i v) := by
  intro b j
  unfold mset
  split
  · next q => rw [q.1, q.2]; exact hv
  · exact h b j
