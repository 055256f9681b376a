/-! The queue of a search, told apart: entries are code, depth, parent, act. -/
abbrev QE : Type := Int × Int × Int × Int
def nth (Q : List QE) (i : Nat) : QE := Q.getD i (0, 0, 0, 0)
def qc (Q : List QE) (i : Nat) : Int := (nth Q i).1
def qd (Q : List QE) (i : Nat) : Int := (nth Q i).2.1
def qp (Q : List QE) (i : Nat) : Int := (nth Q i).2.2.1
def qa (Q : List QE) (i : Nat) : Int := (nth Q i).2.2.2
abbrev inQ (Q : List QE) (c : Int) : Prop := c ∈ Q.map Prod.fst
theorem inQ_iff {Q : List QE} {c : Int} : inQ Q c ↔ ∃ i, i < Q.length ∧ qc Q i = c := by
  unfold inQ qc nth
  rw [List.mem_map]
  constructor
  · rintro ⟨e, he, rfl⟩
    obtain ⟨i, hi, rfl⟩ := List.mem_iff_getElem.mp he
    exact ⟨i, hi, by simp [hi]⟩
  · rintro ⟨i, hi, rfl⟩
    exact ⟨Q[i], List.getElem_mem hi, by simp [hi]⟩
theorem nth_app {Q T : List QE} {i : Nat} (h : i < Q.length) : nth (Q ++ T) i = nth Q i := by
  unfold nth; simp [List.getD, List.getElem?_append_left h]
theorem nth_last (Q : List QE) (e : QE) : nth (Q ++ [e]) Q.length = e := by
  unfold nth; simp [List.getD]
theorem qc_app {Q T : List QE} {i : Nat} (h : i < Q.length) : qc (Q ++ T) i = qc Q i := by rw [qc, qc, nth_app h]
theorem qd_app {Q T : List QE} {i : Nat} (h : i < Q.length) : qd (Q ++ T) i = qd Q i := by rw [qd, qd, nth_app h]
theorem qp_app {Q T : List QE} {i : Nat} (h : i < Q.length) : qp (Q ++ T) i = qp Q i := by rw [qp, qp, nth_app h]
theorem qa_app {Q T : List QE} {i : Nat} (h : i < Q.length) : qa (Q ++ T) i = qa Q i := by rw [qa, qa, nth_app h]
/-- one act from entry k -/
def stq (g : G) (k : Nat) (Q : List QE) (a : Int) : List QE := if 0 ≤ outc g (qc Q k) a ∧ ¬ inQ Q (outc g (qc Q k) a) then Q ++ [(outc g (qc Q k) a, qd Q k + 1, (k : Int), a)] else Q
def ex (g : G) (k : Nat) : Nat → Int → List QE → List QE
  | 0, _, Q => Q
  | n + 1, a, Q => ex g k n (a + 1) (stq g k Q a)
theorem stq_pre (g : G) (k : Nat) (Q : List QE) (a : Int) : ∃ T, stq g k Q a = Q ++ T := by
  unfold stq; split
  · exact ⟨_, rfl⟩
  · exact ⟨[], by simp⟩
theorem ex_pre (g : G) (k : Nat) : ∀ (n : Nat) (a : Int) (Q : List QE), ∃ T, ex g k n a Q = Q ++ T := by
  intro n
  induction n with
  | zero => intro a Q; exact ⟨[], by simp [ex]⟩
  | succ n ih =>
    intro a Q
    obtain ⟨T1, h1⟩ := stq_pre g k Q a
    obtain ⟨T2, h2⟩ := ih (a + 1) (stq g k Q a)
    exact ⟨T1 ++ T2, by rw [ex, h2, h1, List.append_assoc]⟩
theorem ex_add (g : G) (k : Nat) : ∀ (m n : Nat) (a : Int) (Q : List QE), ex g k (m + n) a Q = ex g k n (a + m) (ex g k m a Q) := by
  intro m
  induction m with
  | zero => intro n a Q; simp [ex]
  | succ m ih =>
    intro n a Q
    rw [show m + 1 + n = (m + n) + 1 by omega, ex, ih, ex]
    congr 1; push_cast; omega
/-- acts that are none do nothing -/
theorem stq_no {g : G} {k : Nat} {Q : List QE} {a : Int} (h : outc g (qc Q k) a < 0) : stq g k Q a = Q := by
  unfold stq; rw [if_neg (by omega)]
theorem ex_no {g : G} {k : Nat} {Q : List QE} : ∀ (n : Nat) (a : Int), (∀ b, a ≤ b → b < a + n → outc g (qc Q k) b < 0) → ex g k n a Q = Q := by
  intro n
  induction n with
  | zero => intro a _; rfl
  | succ n ih =>
    intro a h
    rw [ex, stq_no (h a (by omega) (by push_cast; omega))]
    exact ih (a + 1) (fun b b0 b1 => h b (by omega) (by push_cast; omega))
/-- what holds of every queue: codes that can be, each once -/
def QI (g : G) (Q : List QE) : Prop := (∀ i, i < Q.length → VC g (qc Q i)) ∧ (Q.map Prod.fst).Nodup
theorem QI.add1 {g : G} {k : Nat} {Q : List QE} {a : Int} (hg : WG g) (h : QI g Q) (hk : k < Q.length) : QI g (stq g k Q a) := by
  unfold stq
  split
  · rename_i q
    refine ⟨fun i hi => ?_, ?_⟩
    · rw [List.length_append, List.length_singleton] at hi
      rcases Nat.lt_or_ge i Q.length with h1 | h1
      · rw [qc_app h1]; exact h.1 i h1
      · have : i = Q.length := by omega
        subst this
        rw [qc, nth_last]; exact vc_outc hg (h.1 k hk) q.1
    · rw [List.map_append, List.nodup_append]
      refine ⟨h.2, by simp, ?_⟩
      intro x hx y hy
      simp only [List.map_cons, List.map_nil, List.mem_singleton] at hy
      subst hy
      intro e; exact q.2 (e ▸ hx)
  · exact h
theorem len_le {N : Nat} : ∀ (l : List Int), l.Nodup → (∀ x, x ∈ l → 0 ≤ x ∧ x < N) → l.length ≤ N := by
  induction N with
  | zero =>
    intro l _ h
    cases l with
    | nil => simp
    | cons x l => have := h x (by simp); omega
  | succ N ih =>
    intro l hn h
    by_cases hm : (N : Int) ∈ l
    · have h1 := ih (l.erase (N : Int)) (hn.erase _) (fun x hx => by
        have hx2 := (hn.mem_erase_iff).mp hx
        have := h x hx2.2
        have hne := hx2.1
        push_cast at this
        omega)
      rw [List.length_erase_of_mem hm] at h1
      omega
    · have := ih l hn (fun x hx => by
        have h2 := h x hx
        have hne : x ≠ N := fun e => hm (e ▸ hx)
        push_cast at h2
        omega)
      omega
theorem QI.len {g : G} {Q : List QE} (h : QI g Q) : Q.length ≤ 131072 := by
  have := len_le (N := 131072) (Q.map Prod.fst) h.2 (fun x hx => by
    obtain ⟨i, hi, rfl⟩ := inQ_iff.mp hx
    have := (h.1 i hi).c
    omega)
  simpa using this
theorem QI.len' {g : G} {Q : List QE} {c : Int} (h : QI g Q) (hc : VC g c) (hn : ¬ inQ Q c) : Q.length < 131072 := by
  have := len_le (N := 131072) (c :: Q.map Prod.fst) (List.nodup_cons.mpr ⟨hn, h.2⟩) (fun x hx => by
    rcases List.mem_cons.mp hx with rfl | hx
    · have := hc.c; omega
    · obtain ⟨i, hi, rfl⟩ := inQ_iff.mp hx
      have := (h.1 i hi).c
      omega)
  simp at this
  omega
/-- the fewest acts: the depth of the first entry that is over -/
def fwr (g : G) : Nat → Nat → List QE → Int
  | 0, _, _ => -1
  | n + 1, k, Q => if k < Q.length then (if overs g (qc Q k) then qd Q k else fwr g n (k + 1) (ex g k 1024 0 Q)) else -1
theorem fwr_first {g : G} : ∀ (n k p : Nat) (Q : List QE), k ≤ p → p < k + n → p < Q.length → overs g (qc Q p) → (∀ j, j < p → ¬ overs g (qc Q j)) → fwr g n k Q = qd Q p := by
  intro n
  induction n with
  | zero => intro k p Q h1 h2; omega
  | succ n ih =>
    intro k p Q h1 h2 h3 h4 h5
    rw [fwr, if_pos (by omega)]
    rcases Nat.lt_or_ge k p with h6 | h6
    · rw [if_neg (h5 k h6)]
      obtain ⟨T, hT⟩ := ex_pre g k 1024 0 Q
      rw [ih (k + 1) p (ex g k 1024 0 Q) (by omega) (by omega) (by rw [hT, List.length_append]; omega) (by rw [hT, qc_app h3]; exact h4) (fun j hj => by rw [hT, qc_app (by omega)]; exact h5 j hj), hT, qd_app h3]
    · have : k = p := by omega
      subst this
      rw [if_pos h4]
def Q0 (c : Int) : List QE := [(c, 0, 0, 0)]
def fw (g : G) (c : Int) : Int := fwr g 131073 0 (Q0 c)
