/-! Numbers of the model: lowest terms, told. -/
def FrY (I J : MM) : Prop := ∀ a i, a ≠ 75 → a ≠ 76 → ¬ (a = 70 ∧ i = 6) → J a i = I a i
section
variable {d : Nat} {I J K : MM} {v u f s t m p q G X : Int} {n a b : Nat}
theorem redL (p : Nat) (hp : 0 < p) : ∀ (f a b : Nat), ∃ j a' b' : Nat, j ≤ f ∧ red (p : Int) f (a : Int) (b : Int) = ((a' : Int), (b' : Int)) ∧ a = p ^ j * a' ∧ b = p ^ j * b' ∧ (j = f ∨ ¬ (a' % p = 0 ∧ b' % p = 0)) := by
  intro f
  induction f with
  | zero => intro a b; exact ⟨0, a, b, Nat.le_refl _, rfl, by simp, by simp, Or.inl rfl⟩
  | succ f ih =>
    intro a b
    rw [red]
    by_cases h : a % p = 0 ∧ b % p = 0
    · have h' : (a : Int) % (p : Int) = 0 ∧ (b : Int) % (p : Int) = 0 := ⟨by rw [← Int.natCast_emod, h.1]; rfl, by rw [← Int.natCast_emod, h.2]; rfl⟩
      rw [if_pos h', ← Int.natCast_ediv, ← Int.natCast_ediv]
      obtain ⟨j, a', b', hj, e, ea, eb, ho⟩ := ih (a / p) (b / p)
      refine ⟨j + 1, a', b', by omega, e, ?_, ?_, ?_⟩
      · rw [Nat.pow_succ, Nat.mul_comm (p ^ j) p, Nat.mul_assoc, ← ea]
        have := Nat.div_add_mod a p
        omega
      · rw [Nat.pow_succ, Nat.mul_comm (p ^ j) p, Nat.mul_assoc, ← eb]
        have := Nat.div_add_mod b p
        omega
      · rcases ho with ho | ho
        · exact Or.inl (by omega)
        · exact Or.inr ho
    · have h' : ¬ ((a : Int) % (p : Int) = 0 ∧ (b : Int) % (p : Int) = 0) := fun z => h ⟨by have := z.1; rw [← Int.natCast_emod] at this; omega, by have := z.2; rw [← Int.natCast_emod] at this; omega⟩
      rw [if_neg h']
      exact ⟨0, a, b, Nat.zero_le _, rfl, by simp, by simp, Or.inr h⟩
theorem cop2 (h : a % 2 = 1) : Nat.Coprime 2 a := by
  show Nat.gcd 2 a = 1
  rw [Nat.gcd_rec, h]; rfl
theorem cop5 (h : a % 5 ≠ 0) : Nat.Coprime 5 a := by
  show Nat.gcd 5 a = 1
  rw [Nat.gcd_rec]
  have h5 : a % 5 < 5 := Nat.mod_lt _ (by decide)
  have hc : a % 5 = 1 ∨ a % 5 = 2 ∨ a % 5 = 3 ∨ a % 5 = 4 := by omega
  rcases hc with e | e | e | e <;> rw [e] <;> rfl
theorem one_of (e : Nat) (hd : e ∣ 10 ^ n) (h2 : e % 2 ≠ 0) (h5 : e % 5 ≠ 0) : e = 1 := by
  have c2 := cop2 (a := e) (by omega)
  have c5 := cop5 h5
  have c10 : Nat.Coprime (2 * 5) e := Nat.Coprime.mul_left c2 c5
  have cn : Nat.Coprime (10 ^ n) e := Nat.Coprime.pow_left n c10
  have : Nat.gcd (10 ^ n) e = e := Nat.gcd_eq_right hd
  rw [← this]
  exact cn
theorem pow5_odd : ∀ n : Nat, 5 ^ n % 2 = 1 := by
  intro n
  induction n with
  | zero => rfl
  | succ n ih => rw [Nat.pow_succ]; omega
theorem pow2_n5 : ∀ n : Nat, 2 ^ n % 5 ≠ 0 := by
  intro n
  induction n with
  | zero => decide
  | succ n ih => rw [Nat.pow_succ]; omega
/-- both ways to lowest terms agree -/
theorem shn_gcd (ha : 0 < a) : shn n (a : Int) (10 ^ n) = (((a / Nat.gcd a (10 ^ n) : Nat) : Int), ((10 ^ n / Nat.gcd a (10 ^ n) : Nat) : Int)) := by
  have e10 : ((10 : Int) ^ n) = ((10 ^ n : Nat) : Int) := by simp
  unfold shn
  rw [if_neg (by omega), e10]
  obtain ⟨j, a1, b1, hj, e1, ea1, eb1, ho1⟩ := redL 2 (by decide) n a (10 ^ n)
  rw [show ((2 : Nat) : Int) = 2 from rfl] at e1
  rw [e1]
  obtain ⟨i, a2, b2, hi, e2, ea2, eb2, ho2⟩ := redL 5 (by decide) n a1 b1
  rw [show ((5 : Nat) : Int) = 5 from rfl] at e2
  show red 5 n (a1 : Int) (b1 : Int) = _
  rw [e2]
  have e25 : (10 : Nat) ^ n = 2 ^ n * 5 ^ n := by rw [← Nat.mul_pow]
  have h1 : ¬ (a1 % 2 = 0 ∧ b1 % 2 = 0) := by
    rcases ho1 with rfl | h
    · have : b1 = 5 ^ j := by
        rw [e25] at eb1
        exact (Nat.eq_of_mul_eq_mul_left (Nat.pow_pos (by decide)) eb1).symm
      have := pow5_odd j
      intro z; omega
    · exact h
  have hb12 : 10 ^ n = (2 ^ j * b2) * 5 ^ i := by rw [eb1, eb2, Nat.mul_comm (5 ^ i), Nat.mul_assoc]
  have h2 : ¬ (a2 % 5 = 0 ∧ b2 % 5 = 0) := by
    rcases ho2 with rfl | h
    · have e3 : 2 ^ i = 2 ^ j * b2 := by
        rw [e25] at hb12
        exact Nat.eq_of_mul_eq_mul_right (Nat.pow_pos (by decide)) hb12
      have h5 := pow2_n5 i
      intro z
      apply h5
      rw [e3, Nat.mul_mod, z.2, Nat.mul_zero]
    · exact h
  have hc : Nat.gcd a2 b2 = 1 := by
    have d1 := Nat.gcd_dvd_left a2 b2
    have d2 := Nat.gcd_dvd_right a2 b2
    refine one_of (n := n) _ (Nat.dvd_trans d2 ⟨2 ^ j * 5 ^ i, by rw [hb12, Nat.mul_comm (2 ^ j) b2, Nat.mul_assoc]⟩) ?_ ?_
    · intro z
      have z1 : 2 ∣ a2 := Nat.dvd_trans (Nat.dvd_of_mod_eq_zero z) d1
      have z2 : 2 ∣ b2 := Nat.dvd_trans (Nat.dvd_of_mod_eq_zero z) d2
      apply h1
      rw [ea2, eb2]
      exact ⟨Nat.mod_eq_zero_of_dvd (Nat.dvd_trans z1 ⟨5 ^ i, Nat.mul_comm _ _⟩), Nat.mod_eq_zero_of_dvd (Nat.dvd_trans z2 ⟨5 ^ i, Nat.mul_comm _ _⟩)⟩
    · intro z
      exact h2 ⟨Nat.mod_eq_zero_of_dvd (Nat.dvd_trans (Nat.dvd_of_mod_eq_zero z) d1), Nat.mod_eq_zero_of_dvd (Nat.dvd_trans (Nat.dvd_of_mod_eq_zero z) d2)⟩
  have ea : a = (2 ^ j * 5 ^ i) * a2 := by rw [ea1, ea2, Nat.mul_assoc]
  have eb : 10 ^ n = (2 ^ j * 5 ^ i) * b2 := by rw [eb1, eb2, Nat.mul_assoc]
  have hg : Nat.gcd a (10 ^ n) = 2 ^ j * 5 ^ i := by rw [ea, eb, Nat.gcd_mul_left, hc, Nat.mul_one]
  have hp : 0 < 2 ^ j * 5 ^ i := Nat.mul_pos (Nat.pow_pos (by decide)) (Nat.pow_pos (by decide))
  rw [hg, eb]
  conv => rhs; rw [ea]
  rw [Nat.mul_div_cancel_left _ hp, Nat.mul_div_cancel_left _ hp]
theorem m_tell (hp : RP I 2 (a : Int)) (hq : RP I 3 (b : Int)) (hb : 0 < b) (h2 : 2 * (b : Int) < 1329227995784915872903807060280344576) : ∃ K, call (d + 4) 158 [vR 70, vI 2, vI 3, vI 0] I = some (none, K) ∧ FrY I K ∧ K 70 6 = (if a = 0 then 0 else 1) ∧ RP K 0 (if a = 0 then 0 else ((a / Nat.gcd a b : Nat) : Int)) ∧ RP K 1 (if a = 0 then 1 else ((b / Nat.gcd a b : Nat) : Int)) := by
  have e2 := hp.2.1
  have hz := lsz_0 hp.1.1
  by_cases h0 : a = 0
  · rw [if_pos h0, if_pos h0, if_pos h0]
    obtain ⟨J1, c1, r1, f1⟩ := m_set (d := d + 2) (I := I) (s := 0) (v := 0) (by omega) (by omega)
    obtain ⟨J2, c2, r2, f2⟩ := m_set (d := d + 2) (I := J1) (s := 1) (v := 1) (by omega) (by omega)
    have hz0 := hz.mpr (by omega)
    rw [hz0] at e2
    have fm : FrSl [] J2 (mset J2 70 6 0) → True := fun _ => trivial
    have r1' := r1.fr f2 (by omega)
    refine ⟨mset J2 70 6 0, ?_, fun c i n1 n2 n3 => ?_, by rw [mset_at, if_pos ⟨rfl, rfl⟩], ⟨r1'.1, r1'.2.cong (by rw [mset_at, if_neg (by omega)]) (fun i _ _ => by rw [mset_at, if_neg (by omega)]) (by decide)⟩, ⟨r2.1, r2.2.cong (by rw [mset_at, if_neg (by omega)]) (fun i _ _ => by rw [mset_at, if_neg (by omega)]) (by decide)⟩⟩
    · rw [en158]
      clear hp hq r1 r2 r1' f1 f2 hz fm
      simp (disch := omega) only [r158_0, r158_1, r158_4, r158_5, r158_6, r158_9, r158_10, r158_11, r158_12, r158_15, r158_16, r158_17, r158_18, r158_21, r158_22, r158_23, r158_26, r158_27, r158_28, r158_29, r158_30, r158_33, r158_34, r158_35, r158_36, r158_39, r158_40, r158_41, r158_44, r158_45, r158_46, r158_47, r158_50, r158_51, r158_52, r158_55, r158_56, r158_57, r158_60, r158_61, r158_64, r158_65, r158_68, ↓if_pos, ↓if_neg, e2, c1, c2, Option.bind_some, pushR_n]
    · rw [mset_at, if_neg (by omega), f2 c i (by omega) (by omega), f1 c i (by omega) (by omega)]
  · rw [if_neg h0, if_neg h0, if_neg h0]
    have hl : ¬ lsz (a : Int) = 0 := fun z => h0 (by have := hz.mp z; omega)
    obtain ⟨J1, c1, r1, f1⟩ := m_findDivisor (d := d) (p := 2) (q := 3) (by omega) (by omega) hp hq (by omega) hb
    have hg0 : 0 < Nat.gcd a b := Nat.gcd_pos_of_pos_left _ (by omega)
    have hgb : Nat.gcd a b ≤ b := Nat.le_of_dvd hb (Nat.gcd_dvd_right a b)
    have p1 := hp.frq f1 (by simp)
    have q1 := hq.frq f1 (by simp)
    obtain ⟨J2, c2, r2, f2⟩ := m_copy (d := d + 2) (s := 0) (t := 2) (by omega) (by omega) (by omega) p1
    obtain ⟨J3, c3, r3, f3⟩ := m_divide (d := d) (s := 0) (G := ((Nat.gcd a b : Nat) : Int)) (by omega) r2 (r1.fr f2 (by omega)) (by omega) (by omega)
    have q3 := (q1.fr f2 (by omega)).frq f3 (by simp)
    obtain ⟨J4, c4, r4, f4⟩ := m_copy (d := d + 2) (s := 1) (t := 3) (by omega) (by omega) (by omega) q3
    have g4 := (((r1.fr f2 (by omega)).frq f3 (by simp))).fr f4 (by omega)
    obtain ⟨J5, c5, r5, f5⟩ := m_divide (d := d) (s := 1) (G := ((Nat.gcd a b : Nat) : Int)) (by omega) r4 g4 (by omega) (by omega)
    have r35 := (r3.fr f4 (by omega)).frq f5 (by simp)
    rw [← Int.natCast_ediv] at r35 r5
    have hl35 := lsz_r (v := ((a / Nat.gcd a b : Nat) : Int))
    have hl5 := lsz_r (v := ((b / Nat.gcd a b : Nat) : Int))
    refine ⟨mset J5 70 6 1, ?_, fun c i n1 n2 n3 => ?_, by rw [mset_at, if_pos ⟨rfl, rfl⟩], ⟨r35.1, r35.2.cong (by rw [mset_at, if_neg (by omega)]) (fun i _ _ => by rw [mset_at, if_neg (by omega)]) (by omega)⟩, ⟨r5.1, r5.2.cong (by rw [mset_at, if_neg (by omega)]) (fun i _ _ => by rw [mset_at, if_neg (by omega)]) (by omega)⟩⟩
    · rw [← e2] at hl
      rw [en158]
      clear hp hq r1 r2 r3 r4 r5 r35 f1 f2 f3 f4 f5 hz p1 q1 q3 g4
      simp (disch := first | omega | exact hl) only [r158_0, r158_1, r158_4, r158_5, r158_6, r158_9, r158_10, r158_11, r158_12, r158_15, r158_16, r158_17, r158_18, r158_21, r158_22, r158_23, r158_26, r158_27, r158_28, r158_29, r158_30, r158_33, r158_34, r158_35, r158_36, r158_39, r158_40, r158_41, r158_44, r158_45, r158_46, r158_47, r158_50, r158_51, r158_52, r158_55, r158_56, r158_57, r158_60, r158_61, r158_64, r158_65, r158_68, ↓if_pos, ↓if_neg, c1, c2, c3, c4, c5, Option.bind_some, pushR_n]
    · rw [mset_at, if_neg (by omega), f5.o n1 n2, f4 c i (by omega) (by omega), f3.o n1 n2, f2 c i (by omega) (by omega), f1.o n1 n2]
end
