/-! Numbers of the model: carries, and times, add. -/
def tc (v f : Int) (k : Nat) : Int := v % BB k * f / BB k
def ac (v u : Int) (k : Nat) : Int := (v % BB k + u % BB k) / BB k
section
variable {d : Nat} {I J K : MM} {v u f s t m n p : Int} {k : Nat}
theorem mod_s (v : Int) (k : Nat) : v % BB (k + 1) = v / BB k % 1073741824 * BB k + v % BB k := by
  have hP := BB_pos k
  rw [BB_s]
  have h1 := Int.emod_add_mul_ediv v (BB k)
  have h2 := Int.emod_add_mul_ediv (v / BB k) 1073741824
  have h3 := Int.emod_def v (BB k * 1073741824)
  rw [← Int.ediv_ediv_of_nonneg (Int.le_of_lt hP)] at h3
  generalize v / BB k = D at *
  generalize v % BB k = r at *
  generalize BB k = P at *
  generalize hQ : D / 1073741824 = Q at *
  generalize hM : D % 1073741824 = M at *
  have h4 : P * D = M * P + P * 1073741824 * Q := by
    rw [← h2, Int.mul_add, Int.mul_comm P M, Int.mul_assoc]
  omega
theorem tc_s (hf : 0 ≤ f) (v : Int) (k : Nat) : (lmb v (k : Int) * f + tc v f k) % 1073741824 = lmb (v * f) (k : Int) ∧ (lmb v (k : Int) * f + tc v f k) / 1073741824 = tc v f (k + 1) := by
  have hP := BB_pos k
  have hne : BB k ≠ 0 := by omega
  have h1 := Int.emod_add_mul_ediv v (BB k)
  unfold tc
  constructor
  · rw [lmb_k, lmb_k]
    have e : v * f / BB k = v / BB k * f + v % BB k * f / BB k := by
      have : v * f = v % BB k * f + BB k * (v / BB k * f) := by
        rw [← Int.mul_assoc, ← Int.add_mul, h1]
      rw [this, Int.add_mul_ediv_left _ _ hne, Int.add_comm]
    rw [e]
    generalize v / BB k = D
    generalize v % BB k * f / BB k = c
    rw [Int.add_emod (D % 1073741824 * f), Int.mul_emod (D % 1073741824), Int.emod_emod, ← Int.mul_emod, ← Int.add_emod]
  · rw [mod_s, lmb_k]
    have e : (v / BB k % 1073741824 * BB k + v % BB k) * f / BB k = v / BB k % 1073741824 * f + v % BB k * f / BB k := by
      have : (v / BB k % 1073741824 * BB k + v % BB k) * f = v % BB k * f + BB k * (v / BB k % 1073741824 * f) := by
        rw [Int.add_mul, Int.add_comm, Int.mul_comm (v / BB k % 1073741824) (BB k), Int.mul_assoc]
      rw [this, Int.add_mul_ediv_left _ _ hne, Int.add_comm]
    rw [BB_s, ← Int.ediv_ediv_of_nonneg (Int.le_of_lt hP), e]
theorem tc_b (hf : 0 ≤ f ∧ f ≤ 10) : 0 ≤ tc v f k ∧ tc v f k ≤ 10 := by
  have hP := BB_pos k
  have h1 := Int.emod_nonneg v (show BB k ≠ 0 by omega)
  have h2 := Int.emod_lt_of_pos v hP
  unfold tc
  constructor
  · exact Int.ediv_nonneg (Int.mul_nonneg h1 hf.1) (Int.le_of_lt hP)
  · have h3 : v % BB k * f ≤ BB k * 10 := Int.mul_le_mul (by omega) hf.2 hf.1 (by omega)
    have h4 := Int.ediv_le_ediv hP h3
    rw [Int.mul_ediv_cancel_left _ (show BB k ≠ 0 by omega)] at h4
    exact h4
theorem ac_s (v u : Int) (k : Nat) : (lmb v (k : Int) + lmb u (k : Int) + ac v u k) % 1073741824 = lmb (v + u) (k : Int) ∧ (lmb v (k : Int) + lmb u (k : Int) + ac v u k) / 1073741824 = ac v u (k + 1) := by
  have hP := BB_pos k
  have hne : BB k ≠ 0 := by omega
  have h1 := Int.emod_add_mul_ediv v (BB k)
  have h2 := Int.emod_add_mul_ediv u (BB k)
  unfold ac
  constructor
  · rw [lmb_k, lmb_k, lmb_k]
    have e : (v + u) / BB k = v / BB k + u / BB k + (v % BB k + u % BB k) / BB k := by
      have : v + u = (v % BB k + u % BB k) + BB k * (v / BB k + u / BB k) := by rw [Int.mul_add]; omega
      rw [this, Int.add_mul_ediv_left _ _ hne, Int.add_comm]
    rw [e]
    generalize v / BB k = D
    generalize u / BB k = E
    generalize (v % BB k + u % BB k) / BB k = c
    omega
  · rw [mod_s, mod_s, lmb_k, lmb_k]
    generalize v / BB k % 1073741824 = D
    generalize u / BB k % 1073741824 = E
    have e : (D * BB k + v % BB k + (E * BB k + u % BB k)) / BB k = D + E + (v % BB k + u % BB k) / BB k := by
      have : D * BB k + v % BB k + (E * BB k + u % BB k) = (v % BB k + u % BB k) + BB k * (D + E) := by rw [Int.mul_add, Int.mul_comm D, Int.mul_comm E]; omega
      rw [this, Int.add_mul_ediv_left _ _ hne, Int.add_comm]
    rw [BB_s, ← Int.ediv_ediv_of_nonneg (Int.le_of_lt hP), e]
theorem ac_b : 0 ≤ ac v u k ∧ ac v u k ≤ 1 := by
  have hP := BB_pos k
  have h1 := Int.emod_nonneg v (show BB k ≠ 0 by omega)
  have h2 := Int.emod_lt_of_pos v hP
  have h3 := Int.emod_nonneg u (show BB k ≠ 0 by omega)
  have h4 := Int.emod_lt_of_pos u hP
  unfold ac
  constructor
  · exact Int.ediv_nonneg (by omega) (Int.le_of_lt hP)
  · have h5 : (v % BB k + u % BB k) / BB k < 2 := Int.ediv_lt_of_lt_mul hP (by omega)
    omega
theorem m_timesL (hs : 0 ≤ s ∧ s ≤ 7) (hf : 0 ≤ f ∧ f ≤ 10) (hv : 0 ≤ v ∧ v < 1329227995784915872903807060280344576) (hw : v * f < 1329227995784915872903807060280344576) : ∀ (g k : Nat) (J : MM) (w7 w8 : AV), (k : Int) + g = lsz v → J 76 s = lsz v → (∀ i : Int, 0 ≤ i → i < (k : Int) → J 75 (64 * s + i) = lmb (v * f) i) → (∀ i : Int, (k : Int) ≤ i → i < lsz v → J 75 (64 * s + i) = lmb v i) → ∃ K, runs (call (d + 1)) 149 6 [vR 70, vI s, vL f, vR 0, vL (tc v f k), vR 0, vI k, w7, w8] [] J = some (none, K) ∧ RP K s (v * f) ∧ FrB s J K := by
  have hb := lsz_r (v := v)
  intro g
  induction g with
  | zero =>
    intro k J w7 w8 hk e1 hlo hhi
    have hk' : lsz v = k := by omega
    have hlt := lsz_lt (k := k) hv (by omega)
    have hv0 : 0 ≤ v * f := Int.mul_nonneg hv.1 hf.1
    have htc : tc v f k = v * f / BB k := by unfold tc; rw [Int.emod_eq_of_lt hv.1 hlt]
    have htb := tc_b (v := v) (k := k) hf
    have hP := BB_pos k
    by_cases hc : 0 < tc v f k
    · have hk3 : k ≤ 3 := by
        rcases Nat.lt_or_ge 3 k with z | z
        · exfalso
          have : k = 4 := by omega
          subst this
          rw [htc, BB4, Int.ediv_eq_zero_of_lt hv0 hw] at hc; omega
        · exact z
      have hltf : v * f < BB (k + 1) := by
        rw [BB_s]
        rw [htc] at htb
        have h1 := Int.lt_mul_ediv_self_add (x := v * f) hP
        have h2 : BB k * (v * f / BB k) ≤ BB k * 10 := Int.mul_le_mul_of_nonneg_left htb.2 (Int.le_of_lt hP)
        omega
      have hsz := lsz_le (k := k + 1) hv0 hltf (by omega)
      have hlk : lmb (v * f) (k : Int) = tc v f k := by rw [lmb_k, ← htc]; omega
      have hRL : RLm (mset (mset J 75 (64 * s + k) (tc v f k)) 76 s ((k : Int) + 1)) s ((k : Int) + 1) (v * f) := ⟨by rw [mset_at, if_pos ⟨rfl, rfl⟩], fun i i0 i1 => by
        rw [mset_at, if_neg (by omega)]
        by_cases hi : i = k
        · rw [mset_at, if_pos ⟨rfl, by omega⟩, hi, hlk]
        · rw [mset_at, if_neg (by omega)]; exact hlo i i0 (by omega)⟩
      obtain ⟨K, c2, q2, f2⟩ := m_trim (d := d) ⟨hv0, hw⟩ hs (m := (k : Int) + 1) ⟨by omega, by omega⟩ hRL
      refine ⟨K, ?_, q2, ((FrB.s75 (i := (k : Int)) _ (by omega)).trans (FrB.s76 _)).trans (fun a i h1 h2 => f2 a i h2)⟩
      rw [hk'] at e1
      clear q2 hRL hlo hhi hv hw hlt hltf hv0 htc hsz hlk
      simp (disch := omega) only [r149_0, r149_1, r149_3, r149_4, r149_6, r149_8, r149_9, r149_12, r149_13, r149_14, r149_17, r149_18, r149_21, r149_23, r149_24, r149_25, r149_27, r149_28, r149_29, r149_30, r149_31, r149_33, r149_34, r149_36, r149_37, r149_40, r149_42, r149_43, r149_44, r149_46, r149_47, r149_49, r149_52, r149_53, r149_54, r149_56, r149_59, r149_60, r149_62, r149_65, r149_68, r149_70, r149_71, r149_72, r149_75, r149_76, r149_79, r149_81, r149_82, r149_83, r149_84, r149_87, r149_88, r149_89, r149_90, r149_92, r149_93, r149_94, r149_97, r149_98, r149_99, r149_100, r149_101, r149_102, r149_103, r149_104, r149_105, r149_108, ↓if_pos, ↓if_neg, kill, e1, imul_eq, iadd_eq, mset_at, c2, Option.bind_some, pushR_n]
    · have hltf : v * f < BB k := by
        have h0 : v * f / BB k = 0 := by omega
        have h1 := Int.lt_mul_ediv_self_add (x := v * f) hP
        rw [h0] at h1; omega
      have hsz := lsz_le (k := k) hv0 hltf (by omega)
      have hRL : RLm J s (k : Int) (v * f) := ⟨e1.trans hk', fun i i0 i1 => hlo i i0 (by omega)⟩
      obtain ⟨K, c2, q2, f2⟩ := m_trim (d := d) ⟨hv0, hw⟩ hs (m := (k : Int)) ⟨by omega, by omega⟩ hRL
      refine ⟨K, ?_, q2, fun a i h1 h2 => f2 a i h2⟩
      rw [hk'] at e1
      clear q2 hRL hlo hhi hv hw hlt hltf hv0 htc hsz
      simp (disch := omega) only [r149_0, r149_1, r149_3, r149_4, r149_6, r149_8, r149_9, r149_12, r149_13, r149_14, r149_17, r149_18, r149_21, r149_23, r149_24, r149_25, r149_27, r149_28, r149_29, r149_30, r149_31, r149_33, r149_34, r149_36, r149_37, r149_40, r149_42, r149_43, r149_44, r149_46, r149_47, r149_49, r149_52, r149_53, r149_54, r149_56, r149_59, r149_60, r149_62, r149_65, r149_68, r149_70, r149_71, r149_72, r149_75, r149_76, r149_79, r149_81, r149_82, r149_83, r149_84, r149_87, r149_88, r149_89, r149_90, r149_92, r149_93, r149_94, r149_97, r149_98, r149_99, r149_100, r149_101, r149_102, r149_103, r149_104, r149_105, r149_108, ↓if_pos, ↓if_neg, kill, e1, c2, Option.bind_some, pushR_n]
  | succ g ih =>
    intro k J w7 w8 hk e1 hlo hhi
    have el := hhi k (by omega) (by omega)
    have hlb := lmb_r (v := v) (k : Int)
    have htb := tc_b (v := v) (k := k) hf
    obtain ⟨s1, s2⟩ := tc_s hf.1 v k
    have hpb : 0 ≤ lmb v (k : Int) * f ∧ lmb v (k : Int) * f ≤ 10737418240 := ⟨Int.mul_nonneg hlb.1 hf.1, by have := Int.mul_le_mul (show lmb v (k : Int) ≤ 1073741824 by omega) hf.2 hf.1 (by decide); omega⟩
    obtain ⟨K, c2, q2, f2⟩ := ih (k + 1) (mset J 75 (64 * s + k) (lmb (v * f) k)) (vL (lmb v (k : Int) * f + tc v f k)) (vR 0) (by omega) (by rw [mset_at, if_neg (by omega)]; exact e1) (fun i i0 i1 => by
      by_cases hi : i = k
      · rw [mset_at, if_pos ⟨rfl, by omega⟩, hi]
      · rw [mset_at, if_neg (by omega)]; exact hlo i i0 (by omega)) (fun i i0 i1 => by rw [mset_at, if_neg (by omega)]; exact hhi i (by omega) i1)
    refine ⟨K, ?_, q2, (FrB.s75 (i := (k : Int)) _ (by omega)).trans f2⟩
    have ek : ((k + 1 : Nat) : Int) = (k : Int) + 1 := by omega
    rw [← c2, ek, ← s2, ← s1, r149_6]
    clear ih c2 q2 f2 hlo hhi s1 s2 hv hw
    simp (disch := omega) only [r149_0, r149_1, r149_3, r149_4, r149_8, r149_9, r149_12, r149_13, r149_14, r149_17, r149_18, r149_21, r149_23, r149_24, r149_25, r149_27, r149_28, r149_29, r149_30, r149_31, r149_33, r149_34, r149_36, r149_37, r149_40, r149_42, r149_43, r149_44, r149_46, r149_47, r149_49, r149_52, r149_53, r149_54, r149_56, r149_59, r149_60, r149_62, r149_65, r149_68, r149_70, r149_71, r149_72, r149_75, r149_76, r149_79, r149_81, r149_82, r149_83, r149_84, r149_87, r149_88, r149_89, r149_90, r149_92, r149_93, r149_94, r149_97, r149_98, r149_99, r149_100, r149_101, r149_102, r149_103, r149_104, r149_105, r149_108, ↓if_pos, ↓if_neg, kill, e1, el, imul_eq, iadd_eq, lmul_eq, ladd_eq, lrem_pos, ldiv_pos]
theorem m_times (hs : 0 ≤ s ∧ s ≤ 7) (hf : 0 ≤ f ∧ f ≤ 10) (hP : RP I s v) (hw : v * f < 1329227995784915872903807060280344576) : ∃ K, call (d + 2) 149 [vR 70, vI s, vL f] I = some (none, K) ∧ RP K s (v * f) ∧ FrB s I K := by
  have hb := lsz_r (v := v)
  obtain ⟨K, c1, q1, f1⟩ := m_timesL (d := d) hs hf hP.1 hw (lsz v).toNat 0 I (vR 0) (vR 0) (by omega) hP.2.1 (fun i i0 i1 => by omega) (fun i i0 i1 => hP.2.2 i (by omega) i1)
  refine ⟨K, ?_, q1, f1⟩
  have e0 : tc v f 0 = 0 := by unfold tc; rw [BB_0, Int.emod_one]; simp
  rw [e0] at c1
  rw [← c1, en149]
  clear c1 q1 hP
  simp (disch := omega) only [r149_0, r149_1, r149_3, r149_4, r149_8, r149_9, r149_12, r149_13, r149_14, r149_17, r149_18, r149_21, r149_23, r149_24, r149_25, r149_27, r149_28, r149_29, r149_30, r149_31, r149_33, r149_34, r149_36, r149_37, r149_40, r149_42, r149_43, r149_44, r149_46, r149_47, r149_49, r149_52, r149_53, r149_54, r149_56, r149_59, r149_60, r149_62, r149_65, r149_68, r149_70, r149_71, r149_72, r149_75, r149_76, r149_79, r149_81, r149_82, r149_83, r149_84, r149_87, r149_88, r149_89, r149_90, r149_92, r149_93, r149_94, r149_97, r149_98, r149_99, r149_100, r149_101, r149_102, r149_103, r149_104, r149_105, r149_108, kill]
  rfl
end
