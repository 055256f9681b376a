/-! fewest and lost, in both; what the class's search keeps. -/
def PI (g : G) (c : Int) (p : Nat) : Prop := (∀ j, j ≤ p → j < (fq g j (Q0 c)).length) ∧ overs g (qc (fq g p (Q0 c)) p) ∧ ∀ j, j < p → ¬ overs g (qc (fq g p (Q0 c)) j)
theorem PI.uniq {g : G} {c : Int} {p q : Nat} (h1 : PI g c p) (h2 : PI g c q) : p = q := by
  have key : ∀ p q, PI g c p → PI g c q → p < q → False := fun p q h1 h2 hlt => by
    obtain ⟨T, hT⟩ := fq_pre g (Q0 c) p (q - p)
    rw [show p + (q - p) = q by omega] at hT
    have := h2.2.2 p hlt
    rw [hT, qc_app (h1.1 p (Nat.le_refl p))] at this
    exact this h1.2.1
  rcases Nat.lt_trichotomy p q with h | h | h
  · exact (key p q h1 h2 h).elim
  · exact h
  · exact (key q p h2 h1 h).elim
def RowC (I : MM) (g : G) (c : Int) : Prop := fw g c ≤ 0 ∨ ∃ p, PI g c p ∧ fw g c = qd (fq g p (Q0 c)) p ∧ I 27 9 = qc (fq g p (Q0 c)) p ∧ PQ (fq g p (Q0 c)) ∧ ∀ j : Nat, 0 < j → j ≤ p → I 30 (qc (fq g p (Q0 c)) j) = qc (fq g p (Q0 c)) (qp (fq g p (Q0 c)) j).toNat * 1024 + qa (fq g p (Q0 c)) j
theorem PQ.add1 {g : G} {k : Nat} {Q : List QE} {a : Int} (h : PQ Q) (hk : k < Q.length) : PQ (stq g k Q a) := by
  unfold stq; split
  · exact h.app ⟨by simp, by simpa using hk⟩
  · exact h
theorem PQ.exx {g : G} {k : Nat} : ∀ (n : Nat) (a : Int) (Q : List QE), PQ Q → k < Q.length → PQ (ex g k n a Q) := by
  intro n
  induction n with
  | zero => intro a Q h _; exact h
  | succ n ih =>
    intro a Q h hk
    exact ih (a + 1) _ (h.add1 hk) (stq_qd hk).2.2
theorem fq_all {g : G} {c : Int} (hg : WG g) (hV : VC g c) : ∀ k, (∀ j, j < k → j < (fq g j (Q0 c)).length) → PQ (fq g k (Q0 c)) ∧ QI g (fq g k (Q0 c)) ∧ DQ (fq g k (Q0 c)) := by
  intro k
  induction k with
  | zero =>
    intro _
    refine ⟨fun i i0 i1 => by have : i < 1 := i1; omega, ⟨fun i hi => ?_, by simp [fq, Q0]⟩, fun i hi => ?_⟩
    · have : i = 0 := by have : i < 1 := hi; omega
      subst this; exact hV
    · have : i = 0 := by have : i < 1 := hi; omega
      subst this; simp [fq, qd, nth, Q0]
  | succ k ih =>
    intro h
    obtain ⟨h1, h2, h3⟩ := ih (fun j hj => h j (by omega))
    have hk := h k (by omega)
    exact ⟨PQ.exx 1024 0 _ h1 hk, QI.ex hg 1024 0 _ h2 hk, DQ.ex 1024 0 _ h3 hk⟩
theorem PI.all {g : G} {c : Int} {p : Nat} (h : PI g c p) (hg : WG g) (hV : VC g c) : PQ (fq g p (Q0 c)) ∧ QI g (fq g p (Q0 c)) ∧ DQ (fq g p (Q0 c)) := fq_all hg hV p (fun j hj => h.1 j (by omega))
theorem EndM.pi {g : G} {c : Int} {K : MM} (h : EndM g c K (fw g c)) : (fw g c = -1) ∨ (∃ p, PI g c p ∧ fw g c = qd (fq g p (Q0 c)) p ∧ MQu K g (fq g p (Q0 c))) := by
  obtain ⟨kk, h1, h2, h3, h4, ⟨h5, -⟩ | ⟨h5, h6, h7⟩⟩ := h
  · exact Or.inl h5
  · refine Or.inr ⟨kk, ⟨fun j hj => ?_, h6, fun j hj => (h4 j hj).2⟩, h7, h1⟩
    rcases Nat.lt_or_ge j kk with h | h
    · exact (h4 j h).1
    · have : j = kk := by omega
      subst this; exact h5
theorem EndQ.row {g : G} {c m : Int} {K : MM} (hg : WG g) (hV : VC g c) (h : EndQ g c m K (fw g c)) (h7 : K 27 7 = 1) : RowC (mset K 27 9 (K 27 8)) g c := by
  obtain ⟨Qf, hS, hI, hP, hK, ⟨hr, -⟩ | ⟨Q', e, k, n, hQf, hN, ho, h8, hr, ⟨-, -, hq⟩ | ⟨hl, hn, hq⟩⟩⟩ := h
  · exact Or.inl (by omega)
  · refine Or.inl ?_
    rw [hq] at hQf
    have h1 : Q' = [] := by
      cases Q' with
      | nil => rfl
      | cons a l => have := congrArg List.length hQf; simp [Q0] at this
    subst h1
    have h2 : e = (c, 0, 0, 0) := by simp [Q0] at hQf; exact hQf.symm
    rw [hr, h2]; show (0 : Int) ≤ 0; omega
  · have hCF : CF K Qf := by
      rcases hK with h | h
      · omega
      · exact h.2.1
    have hlk := hl k (Nat.le_refl k)
    obtain ⟨T1, hT1⟩ := ex_pre g k n 0 (fq g k (Q0 c))
    rw [← hq] at hT1
    have hlen : Qf.length = Q'.length + 1 := by rw [hQf, List.length_append]; rfl
    have hlen2 : (fq g k (Q0 c)).length ≤ Qf.length := by rw [hT1, List.length_append]; omega
    -- the queue behind k whole entries more
    obtain ⟨T2, hT2⟩ : ∃ T, fq g (k + 1) (Q0 c) = Qf ++ T := by
      obtain ⟨T, hT⟩ := ex_pre g k (1024 - n) n (ex g k n 0 (fq g k (Q0 c)))
      refine ⟨T, ?_⟩
      have := ex_add g k n (1024 - n) 0 (fq g k (Q0 c))
      rw [show n + (1024 - n) = 1024 by omega, Int.zero_add, hT, ← hq] at this
      exact this
    have hpre : ∃ T, fq g Q'.length (Q0 c) = Qf ++ T := by
      rcases Nat.lt_or_ge k Q'.length with h1 | h1
      · obtain ⟨T3, hT3⟩ := fq_pre g (Q0 c) (k + 1) (Q'.length - (k + 1))
        rw [show k + 1 + (Q'.length - (k + 1)) = Q'.length by omega, hT2] at hT3
        exact ⟨T2 ++ T3, by rw [hT3, List.append_assoc]⟩
      · have h2 : k = Q'.length := by omega
        have h3 : T1 = [] := by
          have := congrArg List.length hT1
          rw [List.length_append] at this
          cases T1 with
          | nil => rfl
          | cons a l => simp at this; omega
        rw [h3, List.append_nil] at hT1
        exact ⟨[], by rw [← h2, hT1, List.append_nil]⟩
    obtain ⟨T, hT⟩ := hpre
    have hpl : Q'.length < Qf.length := by omega
    have e1 : qc Qf Q'.length = e.1 := by rw [hQf, qc, nth_last]
    have e2 : qd Qf Q'.length = e.2.1 := by rw [hQf, qd, nth_last]
    have hPI : PI g c Q'.length := by
      refine ⟨fun j hj => ?_, by rw [hT, qc_app hpl, e1]; exact ho, fun j hj => by rw [hT, qc_app (by omega), hQf, qc_app hj]; exact hN j hj⟩
      rcases Nat.lt_or_ge k j with h1 | h1
      · have := fq_len g (Q0 c) (show k + 1 ≤ j by omega)
        rw [hT2, List.length_append] at this
        omega
      · exact hl j h1
    refine Or.inr ⟨Q'.length, hPI, by rw [hT, qd_app hpl, e2]; exact hr, ?_, (hPI.all hg hV).1, fun j j0 j1 => ?_⟩
    · rw [mset_at, if_pos ⟨rfl, rfl⟩, hT, qc_app hpl, e1]; exact h8
    · have hpj := hP j j0 (by omega)
      rw [hT, qc_app (show j < Qf.length by omega), qp_app (show j < Qf.length by omega), qa_app (show j < Qf.length by omega), qc_app (by omega), mset_at, if_neg (by omega)]
      exact hCF j j0 (by omega)
/-! without a board; with leaps -/
def lostA (g : G) (c b : Int) : Int := if onIt g c b then -1 else fw g (setB c b 15)
def flF (g : G) : Nat → Nat → List QE → Bool
  | 0, _, _ => false
  | n + 1, k, Q => if k < Q.length then (if overs g (qc Q k) then true else flF g n (k + 1) (ex g k 1024 0 Q)) else false
def flQ (g : G) : Nat → Nat → List QE → List QE
  | 0, _, Q => Q
  | n + 1, k, Q => if k < Q.length then flQ g n (k + 1) (ex g k 1024 0 Q) else Q
def lex (g : G) : Nat → Nat → List QE → List QE
  | 0, _, Q => Q
  | n + 1, k, Q => lex g n (k + 1) (ex g k 256 1024 Q)
def leR (g : G) : Nat → Int → Nat → List QE → Int
  | 0, _, _, _ => -1
  | n + 1, L, k, Q => if flF g 131073 k Q then L else leR g n (L + 1) (flQ g 131073 k Q).length (lex g ((flQ g 131073 k Q).length - k) k (flQ g 131073 k Q))
def leapsA (g : G) (c b : Int) : Int := if b = -1 then leR g 4 0 0 (Q0 c) else if onIt g c b then -1 else leR g 4 0 0 (Q0 (setB c b 15))
def SCh (I : MM) (g : G) (c : Int) : Prop := (I 27 10 = -9 ∨ (I 27 10 = fw g c ∧ RowC I g c)) ∧ (∀ b, 0 ≤ b → b < 2 → I 32 b = -9 ∨ (b < g.nB ∧ I 32 b = lostA g c b)) ∧ (∀ i, 0 ≤ i → i < 3 → I 33 i = -9 ∨ (i - 1 < g.nB ∧ I 33 i = leapsA g c (i - 1)))
def SMk (I : MM) (m : Int) : Prop := (0 ≤ I 27 5 ∧ I 27 5 ≤ m) ∧ (∀ c, 0 ≤ c → c < 131072 → I 28 c ≤ I 27 5) ∧ I 27 7 = 0
theorem SC0.ch {J : MM} {g : G} {c : Int} (h : SC0 J) : SCh J g c := by
  obtain ⟨h1, ⟨h2, h3⟩, h4, h5, h6⟩ := h
  refine ⟨Or.inl h1, fun b b0 b1 => Or.inl ?_, fun i i0 i1 => Or.inl ?_⟩
  · rcases b01 (b := b) (by omega) with rfl | rfl <;> assumption
  · rcases w012 (w := i) (by omega) with rfl | rfl | rfl <;> assumption
theorem fwr_lo {g : G} : ∀ (n k : Nat) (Q : List QE), DQ Q → -1 ≤ fwr g n k Q := by
  intro n
  induction n with
  | zero => intro k Q _; simp [fwr]
  | succ n ih =>
    intro k Q h
    rw [fwr]; split
    · rename_i hk
      split
      · have := h k hk; omega
      · exact ih _ _ (DQ.ex 1024 0 Q h hk)
    · omega
theorem fw_lo (g : G) (c : Int) : -1 ≤ fw g c := fwr_lo _ _ _ (fun i hi => by
  have : i = 0 := by have : i < 1 := hi; omega
  subst this; simp [qd, nth, Q0])
theorem vc_lost {g : G} {c b : Int} (hg : WG g) (hV : VC g c) (h0 : 0 ≤ b) (h1 : b < g.nB) : VC g (setB c b 15) :=
  vc_setB hg hV h0 h1 (by omega) (by omega) (fun _ => Or.inr rfl) (fun e e0 e1 _ => ⟨fun _ q => (q rfl).elim, fun q => by omega⟩)
theorem load_on {g : G} {c b : Int} (hg : WG g) : 0 < load g c b ↔ onIt g c b := by
  rw [on_def]
  have hn := hg.nW3
  have hp : ∀ w, 0 ≤ w → w < g.nW → (cv g c b w = 0 ∧ ¬ cov g c b (wAt c w)) ∨ (1 ≤ cv g c b w ∧ cov g c b (wAt c w)) := fun w w0 w1 => by
    have := cnts_b hg (c := c) w0 w1
    unfold cv; split
    · rename_i h; exact Or.inr ⟨this.1, h⟩
    · rename_i h; exact Or.inl ⟨rfl, h⟩
  have e : ∀ w : Int, 0 ≤ w → ((if w < g.nW then cv g c b w else 0) = 0 ∧ ¬ (w < g.nW ∧ cov g c b (wAt c w))) ∨ (1 ≤ (if w < g.nW then cv g c b w else 0) ∧ (w < g.nW ∧ cov g c b (wAt c w))) := fun w w0 => by
    by_cases hw : w < g.nW
    · rw [if_pos hw]
      rcases hp w w0 hw with h | h
      · exact Or.inl ⟨h.1, fun q => h.2 q.2⟩
      · exact Or.inr ⟨h.1, hw, h.2⟩
    · rw [if_neg hw]; exact Or.inl ⟨rfl, fun q => hw q.1⟩
  unfold load
  rcases e 0 (by omega) with ⟨a0, b0⟩ | ⟨a0, b0⟩ <;> rcases e 1 (by omega) with ⟨a1, b1⟩ | ⟨a1, b1⟩ <;> rcases e 2 (by omega) with ⟨a2, b2⟩ | ⟨a2, b2⟩
  · exact iff_of_false (by omega) (fun q => by rcases q with q | q | q; exact b0 q; exact b1 q; exact b2 q)
  · exact iff_of_true (by omega) (Or.inr (Or.inr b2))
  · exact iff_of_true (by omega) (Or.inr (Or.inl b1))
  · exact iff_of_true (by omega) (Or.inr (Or.inl b1))
  all_goals exact iff_of_true (by omega) (Or.inl b0)
