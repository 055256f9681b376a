/-! The least row: parents in the order of discovery. -/
def HQ (g : G) (Q : List QE) (k : Nat) (a : Int) : Prop :=
  (∀ j : Nat, 0 < j → j < Q.length → (0 ≤ qp Q j ∧ qp Q j < j ∧ qp Q j ≤ k ∧ (qp Q j = k → qa Q j < a)) ∧ (0 ≤ qa Q j ∧ qa Q j < 1024) ∧ outc g (qc Q (qp Q j).toNat) (qa Q j) = qc Q j ∧ qd Q j = qd Q (qp Q j).toNat + 1)
  ∧ (∀ i j : Nat, 0 < i → i < j → j < Q.length → qp Q i < qp Q j ∨ (qp Q i = qp Q j ∧ qa Q i < qa Q j))
  ∧ (∀ (r : Nat) (e : Int), r < Q.length → (r < k ∨ (r = k ∧ e < a)) → 0 ≤ e → e < 1024 → 0 ≤ outc g (qc Q r) e → ∃ j : Nat, j < Q.length ∧ qc Q j = outc g (qc Q r) e ∧ (j = 0 ∨ qp Q j < r ∨ (qp Q j = r ∧ qa Q j ≤ e)))
  ∧ (0 < Q.length ∧ qd Q 0 = 0)
theorem HQ.add1 {g : G} {Q : List QE} {k : Nat} {a : Int} (h : HQ g Q k a) (hk : k < Q.length) (ha : 0 ≤ a ∧ a < 1024) : HQ g (stq g k Q a) k (a + 1) := by
  obtain ⟨h1, h2, h3, h4, h5⟩ := h
  by_cases hq : 0 ≤ outc g (qc Q k) a ∧ ¬ inQ Q (outc g (qc Q k) a)
  · have hst : stq g k Q a = Q ++ [(outc g (qc Q k) a, qd Q k + 1, (k : Int), a)] := if_pos hq
    rw [hst]
    have n1 : qc (Q ++ [(outc g (qc Q k) a, qd Q k + 1, (k : Int), a)]) Q.length = outc g (qc Q k) a := by rw [qc, nth_last]
    have n2 : qd (Q ++ [(outc g (qc Q k) a, qd Q k + 1, (k : Int), a)]) Q.length = qd Q k + 1 := by rw [qd, nth_last]
    have n3 : qp (Q ++ [(outc g (qc Q k) a, qd Q k + 1, (k : Int), a)]) Q.length = k := by rw [qp, nth_last]
    have n4 : qa (Q ++ [(outc g (qc Q k) a, qd Q k + 1, (k : Int), a)]) Q.length = a := by rw [qa, nth_last]
    refine ⟨fun j j0 j1 => ?_, fun i j i0 ij j1 => ?_, fun r e r0 hr e0 e1 ho => ?_, by rw [List.length_append]; omega, by rw [qd_app h4]; exact h5⟩
    · rw [List.length_append, List.length_singleton] at j1
      rcases Nat.lt_or_ge j Q.length with hj | hj
      · obtain ⟨⟨q1, q2, q3, q4⟩, q5, q6, q7⟩ := h1 j j0 hj
        rw [qp_app hj, qa_app hj, qc_app hj, qd_app hj, qc_app (by omega), qd_app (by omega)]
        exact ⟨⟨q1, q2, q3, fun z => by have := q4 z; omega⟩, q5, q6, q7⟩
      · have : j = Q.length := by omega
        subst this
        rw [n1, n2, n3, n4, Int.toNat_natCast, qc_app hk, qd_app hk]
        exact ⟨⟨by omega, by omega, by omega, fun _ => by omega⟩, ha, rfl, rfl⟩
    · rw [List.length_append, List.length_singleton] at j1
      rcases Nat.lt_or_ge j Q.length with hj | hj
      · rw [qp_app hj, qa_app hj, qp_app (by omega), qa_app (by omega)]; exact h2 i j i0 ij hj
      · have : j = Q.length := by omega
        subst this
        obtain ⟨⟨q1, q2, q3, q4⟩, -⟩ := h1 i i0 ij
        rw [n3, n4, qp_app ij, qa_app ij]
        rcases Int.lt_or_le (qp Q i) k with hz | hz
        · exact Or.inl hz
        · have hz2 : qp Q i = k := by omega
          exact Or.inr ⟨hz2, q4 hz2⟩
    · have hrq : r < Q.length := by omega
      rw [qc_app hrq] at ho ⊢
      by_cases hn : r = k ∧ e = a
      · obtain ⟨rfl, rfl⟩ := hn
        exact ⟨Q.length, by rw [List.length_append, List.length_singleton]; omega, n1, Or.inr (Or.inr ⟨n3, by rw [n4]; omega⟩)⟩
      · obtain ⟨j, j1, j2, j3⟩ := h3 r e hrq (by omega) e0 e1 ho
        exact ⟨j, by rw [List.length_append]; omega, by rw [qc_app j1]; exact j2, by rw [qp_app j1, qa_app j1]; exact j3⟩
  · have hst : stq g k Q a = Q := if_neg hq
    rw [hst]
    refine ⟨fun j j0 j1 => ?_, h2, fun r e r0 hr e0 e1 ho => ?_, h4, h5⟩
    · obtain ⟨⟨q1, q2, q3, q4⟩, q5⟩ := h1 j j0 j1
      exact ⟨⟨q1, q2, q3, fun z => by have := q4 z; omega⟩, q5⟩
    · by_cases hn : r = k ∧ e = a
      · obtain ⟨rfl, rfl⟩ := hn
        have hin : inQ Q (outc g (qc Q r) e) := Decidable.byContradiction (fun z => hq ⟨ho, z⟩)
        obtain ⟨j, j1, j2⟩ := inQ_iff.mp hin
        refine ⟨j, j1, j2, ?_⟩
        rcases Nat.eq_zero_or_pos j with h | h
        · exact Or.inl h
        · obtain ⟨⟨q1, q2, q3, q4⟩, -⟩ := h1 j h j1
          rcases Int.lt_or_le (qp Q j) r with hz | hz
          · exact Or.inr (Or.inl hz)
          · have hz2 : qp Q j = r := by omega
            exact Or.inr (Or.inr ⟨hz2, by have := q4 hz2; omega⟩)
      · exact h3 r e r0 (by omega) e0 e1 ho
theorem HQ.exx {g : G} {k : Nat} : ∀ (n : Nat) (a : Int) (Q : List QE), HQ g Q k a → k < Q.length → 0 ≤ a → a + n ≤ 1024 → HQ g (ex g k n a Q) k (a + n) := by
  intro n
  induction n with
  | zero => intro a Q h _ _ _; simpa [ex] using h
  | succ n ih =>
    intro a Q h hk h0 h1
    push_cast at h1
    have := ih (a + 1) _ (h.add1 hk ⟨h0, by omega⟩) (stq_qd hk).2.2 (by omega) (by omega)
    rw [ex]
    have e : a + 1 + (n : Int) = a + ((n + 1 : Nat) : Int) := by push_cast; omega
    rw [← e]; exact this
theorem HQ.next {g : G} {Q : List QE} {k : Nat} (h : HQ g Q k 1024) : HQ g Q (k + 1) 0 := by
  obtain ⟨h1, h2, h3, h4⟩ := h
  refine ⟨fun j j0 j1 => ?_, h2, fun r e r0 hr e0 e1 ho => h3 r e r0 (by omega) e0 e1 ho, h4⟩
  obtain ⟨⟨q1, q2, q3, q4⟩, q5⟩ := h1 j j0 j1
  exact ⟨⟨q1, q2, by push_cast; omega, fun z => by push_cast at z; omega⟩, q5⟩
theorem fq_at0 (g : G) (Q : List QE) : fq g 0 Q = Q := rfl
theorem HQ.fq {g : G} {c : Int} : ∀ k : Nat, (∀ j, j < k → j < (fq g j (Q0 c)).length) → HQ g (fq g k (Q0 c)) k 0 := by
  intro k
  induction k with
  | zero =>
    intro _
    refine ⟨fun j j0 j1 => by have : j < 1 := j1; omega, fun i j i0 ij j1 => by have : j < 1 := j1; omega, fun r e r0 hr e0 e1 ho => by omega, by simp [fq_at0, Q0], rfl⟩
  | succ k ih =>
    intro h
    have h1 := ih (fun j hj => h j (by omega))
    exact (HQ.exx 1024 0 _ h1 (h k (by omega)) (by omega) (by omega)).next
def anc (Q : List QE) : Nat → Nat → Nat
  | 0, j => j
  | n + 1, j => (qp Q (anc Q n j)).toNat
theorem anc_d {g : G} {Q : List QE} {k p : Nat} {b : Int} (h : HQ g Q k b) (hp : p < Q.length) : ∀ n : Nat, (n : Int) ≤ qd Q p → anc Q n p ≤ p ∧ qd Q (anc Q n p) = qd Q p - n := by
  intro n
  induction n with
  | zero => intro _; exact ⟨Nat.le_refl _, by simp [anc]⟩
  | succ n ih =>
    intro hn
    push_cast at hn
    obtain ⟨h1, h2⟩ := ih (by omega)
    have h0 : 0 < anc Q n p := by
      rcases Nat.eq_zero_or_pos (anc Q n p) with h3 | h3
      · rw [h3, h.2.2.2.2] at h2; omega
      · exact h3
    obtain ⟨⟨q1, q2, q3, q4⟩, q5, q6, q7⟩ := h.1 (anc Q n p) h0 (by omega)
    rw [anc]
    exact ⟨by omega, by push_cast; omega⟩
theorem anc_pos {g : G} {Q : List QE} {k p : Nat} {b : Int} (h : HQ g Q k b) (hp : p < Q.length) {n : Nat} (hn : (n : Int) < qd Q p) : 0 < anc Q n p := by
  obtain ⟨h1, h2⟩ := anc_d h hp n (by omega)
  rcases Nat.eq_zero_or_pos (anc Q n p) with h3 | h3
  · rw [h3, h.2.2.2.2] at h2; omega
  · exact h3
/-- from entry u the depth m is reached, over -/
def gd (g : G) (Q : List QE) (m : Int) : Nat → Nat → Prop
  | 0, u => qd Q u = m ∧ overs g (qc Q u)
  | n + 1, u => ∃ (a : Int) (j : Nat), (0 ≤ a ∧ a < 1024) ∧ j < Q.length ∧ 0 ≤ outc g (qc Q u) a ∧ qc Q j = outc g (qc Q u) a ∧ qd Q j = qd Q u + 1 ∧ gd g Q m n j
theorem qc_inj {g : G} {Q : List QE} (h : QI g Q) {i j : Nat} (hi : i < Q.length) (hj : j < Q.length) (e : qc Q i = qc Q j) : i = j := by
  have h2 := h.2
  have e1 : (Q.map Prod.fst)[i]'(by simpa using hi) = (Q.map Prod.fst)[j]'(by simpa using hj) := by
    have a1 : qc Q i = Q[i].1 := by simp [qc, nth, hi]
    have a2 : qc Q j = Q[j].1 := by simp [qc, nth, hj]
    rw [List.getElem_map, List.getElem_map, ← a1, ← a2]; exact e
  exact (List.getElem_inj h2).mp e1
/-- what was discovered ahead of the row's entry leads to nothing over so soon -/
theorem row_least {g : G} {Q : List QE} {p : Nat} (hI : QI g Q) (hD : DQ Q) (h : HQ g Q p 0) (hp : p < Q.length) (hN : ∀ j, j < p → ¬ overs g (qc Q j)) : ∀ (n : Nat), (n : Int) ≤ qd Q p → ∀ u, u < anc Q n p → qd Q u = qd Q (anc Q n p) → ¬ gd g Q (qd Q p) n u := by
  intro n
  induction n with
  | zero =>
    intro _ u hu _ hg
    exact hN u hu hg.2
  | succ n ih =>
    intro hn u hu hqd hg
    push_cast at hn
    obtain ⟨a, j, ha, hj, ho, hjc, hjd, hgj⟩ := hg
    obtain ⟨d1, d2⟩ := anc_d h hp n (by omega)
    have hpos := anc_pos h hp (n := n) (by omega)
    have d3 := anc_d h hp (n + 1) (by push_cast; omega)
    obtain ⟨⟨q1, q2, q3, q4⟩, q5, q6, q7⟩ := h.1 (anc Q n p) hpos (by omega)
    have hup : u < p := by omega
    obtain ⟨j', j1, j2, j3⟩ := h.2.2.1 u a (by omega) (Or.inl hup) ha.1 ha.2 ho
    have : j' = j := qc_inj hI j1 hj (j2.trans hjc.symm)
    subst this
    have hu0 := (hD u (by omega)).1
    have hj0 : 0 < j' := by
      rcases Nat.eq_zero_or_pos j' with z | z
      · rw [z, h.2.2.2.2] at hjd; omega
      · exact z
    have hqp : qp Q j' ≤ u := by
      rcases j3 with z | z | z
      · omega
      · omega
      · exact Int.le_of_eq z.1
    have hanc : anc Q (n + 1) p = (qp Q (anc Q n p)).toNat := rfl
    have hlt : j' < anc Q n p := by
      rcases Nat.lt_trichotomy j' (anc Q n p) with z | z | z
      · exact z
      · rw [z] at hqp; omega
      · rcases h.2.1 (anc Q n p) j' hpos z hj with y | y <;> omega
    refine ih (by omega) j' hlt ?_ hgj
    have d4 := d3.2
    push_cast at d4
    omega
/-- on the row no smaller act leads on -/
theorem row_min {g : G} {Q : List QE} {p : Nat} (hI : QI g Q) (hD : DQ Q) (h : HQ g Q p 0) (hp : p < Q.length) (hN : ∀ j, j < p → ¬ overs g (qc Q j)) {n : Nat} (hn : (n : Int) < qd Q p) {a : Int} {u : Nat} (ha : 0 ≤ a ∧ a < qa Q (anc Q n p)) (hu : u < Q.length) (ho : 0 ≤ outc g (qc Q (anc Q (n + 1) p)) a) (huc : qc Q u = outc g (qc Q (anc Q (n + 1) p)) a) (hud : qd Q u = qd Q (anc Q n p)) : ¬ gd g Q (qd Q p) n u := by
  obtain ⟨d1, d2⟩ := anc_d h hp n (by omega)
  have hpos := anc_pos h hp hn
  obtain ⟨⟨q1, q2, q3, q4⟩, q5, q6, q7⟩ := h.1 (anc Q n p) hpos (by omega)
  have hanc : anc Q (n + 1) p = (qp Q (anc Q n p)).toNat := rfl
  obtain ⟨j', j1, j2, j3⟩ := h.2.2.1 (anc Q (n + 1) p) a (by omega) (Or.inl (by omega)) ha.1 (by omega) ho
  have : j' = u := qc_inj hI j1 hu (j2.trans huc.symm)
  subst this
  have hj0 : 0 < j' := by
    rcases Nat.eq_zero_or_pos j' with z | z
    · rw [z, h.2.2.2.2] at hud; omega
    · exact z
  have hlt : j' < anc Q n p := by
    rcases Nat.lt_trichotomy j' (anc Q n p) with z | z | z
    · exact z
    · exfalso
      rcases j3 with y | y | y
      · omega
      · rw [z] at y; omega
      · rw [z] at y; omega
    · exfalso
      rcases h.2.1 (anc Q n p) j' hpos z hu with y | y <;> rcases j3 with w | w | w <;> omega
  exact row_least hI hD h hp hN n (by omega) j' hlt hud
/-- the row itself leads on -/
theorem row_gd {g : G} {Q : List QE} {p : Nat} (hI : QI g Q) (h : HQ g Q p 0) (hp : p < Q.length) (ho : overs g (qc Q p)) : ∀ n : Nat, (n : Int) ≤ qd Q p → gd g Q (qd Q p) n (anc Q n p) := by
  intro n
  induction n with
  | zero => intro _; exact ⟨rfl, ho⟩
  | succ n ih =>
    intro hn
    push_cast at hn
    obtain ⟨d1, d2⟩ := anc_d h hp n (by omega)
    have hpos := anc_pos h hp (n := n) (by omega)
    obtain ⟨⟨q1, q2, q3, q4⟩, q5, q6, q7⟩ := h.1 (anc Q n p) hpos (by omega)
    have hV := (hI.1 (anc Q n p) (by omega)).c.1
    exact ⟨qa Q (anc Q n p), anc Q n p, q5, by omega, by show 0 ≤ outc g (qc Q (qp Q (anc Q n p)).toNat) _; omega, q6.symm, q7, ih (by omega)⟩
theorem qd_mono {g : G} {Q : List QE} {k : Nat} {b : Int} (h : HQ g Q k b) : ∀ j : Nat, j < Q.length → ∀ i, i ≤ j → qd Q i ≤ qd Q j ∧ (0 ≤ qd Q i) := by
  intro j
  induction j using Nat.strongRecOn with
  | ind j ih =>
    intro hj i hij
    rcases Nat.eq_zero_or_pos i with hi | hi
    · subst hi
      rw [h.2.2.2.2]
      rcases Nat.eq_zero_or_pos j with hj0 | hj0
      · subst hj0; rw [h.2.2.2.2]; omega
      · obtain ⟨⟨q1, q2, q3, q4⟩, q5, q6, q7⟩ := h.1 j hj0 hj
        have := (ih (qp Q j).toNat (by omega) (by omega) (qp Q j).toNat (Nat.le_refl _)).2
        omega
    · obtain ⟨⟨q1, q2, q3, q4⟩, q5, q6, q7⟩ := h.1 j (by omega) hj
      obtain ⟨⟨r1, r2, r3, r4⟩, r5, r6, r7⟩ := h.1 i hi (by omega)
      have hle : qp Q i ≤ qp Q j := by
        rcases Nat.lt_or_ge i j with z | z
        · rcases h.2.1 i j hi z hj with y | y <;> omega
        · have : i = j := by omega
          subst this; omega
      have := ih (qp Q j).toNat (by omega) (by omega) (qp Q i).toNat (by omega)
      omega
