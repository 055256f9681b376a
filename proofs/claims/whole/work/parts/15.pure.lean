/-! What a step keeps, said without the machine: numbers in their ranges, cells of other worlds. -/
def PU (z : Nat) (I0 : MM) (c : CFG) : Prop := okM c.2.2.2 ∧ (∀ v ∈ c.2.1, okV v) ∧ (∀ v ∈ c.2.2.1, okV v) ∧ ∀ a, a ∉ Wd z → c.2.2.2 a = I0 a
section PURE
variable {z pc : Nat} {I I0 : MM} {L S : List AV} {c' : CFG}
theorem okS_t {v : AV} (h : ∀ w ∈ v :: S, okV w) : ∀ w ∈ S, okV w := fun w hw => h w (List.mem_cons_of_mem _ hw)
theorem okS_h {v : AV} (h : ∀ w ∈ v :: S, okV w) : okV v := h v List.mem_cons_self
theorem okS_c {v : AV} (hv : okV v) (h : ∀ w ∈ S, okV w) : ∀ w ∈ v :: S, okV w := fun w hw => by
  rcases List.mem_cons.mp hw with rfl | hw
  · exact hv
  · exact h w hw
theorem pu_oI {k : Nat} {f : Int → Int → Int} {ok : Int → Bool} (hf : ∀ x y, ok32 (f x y)) (hP : PU z I0 (pc, L, S, I)) (h : oI k L S I f ok = some (.inr c')) : PU z I0 c' := by
  unfold oI at h
  split at h
  · split at h
    · cases h
      exact ⟨hP.1, hP.2.1, okS_c (hf _ _) (okS_t (okS_t hP.2.2.1)), hP.2.2.2⟩
    · cases h
  · cases h
theorem pu_oL {k : Nat} {f : Int → Int → Int} {ok : Int → Bool} (hf : ∀ x y, ok64 (f x y)) (hP : PU z I0 (pc, L, S, I)) (h : oL k L S I f ok = some (.inr c')) : PU z I0 c' := by
  unfold oL at h
  split at h
  · split at h
    · cases h
      exact ⟨hP.1, hP.2.1, okS_c (hf _ _) (okS_t (okS_t hP.2.2.1)), hP.2.2.2⟩
    · cases h
  · cases h
theorem pu_oH {k : Nat} {f : Int → Int → Int} (hf : ∀ x y, ok64 (f x y)) (hP : PU z I0 (pc, L, S, I)) (h : oH k L S I f = some (.inr c')) : PU z I0 c' := by
  unfold oH at h
  split at h
  · cases h
    exact ⟨hP.1, hP.2.1, okS_c (hf _ _) (okS_t (okS_t hP.2.2.1)), hP.2.2.2⟩
  · cases h
theorem pu_oU {k : Nat} {f : Int → Int} (hf : ∀ x, ok32 (f x)) (hP : PU z I0 (pc, L, S, I)) (h : oU k L S I f = some (.inr c')) : PU z I0 c' := by
  unfold oU at h
  split at h
  · cases h
    exact ⟨hP.1, hP.2.1, okS_c (hf _) (okS_t hP.2.2.1), hP.2.2.2⟩
  · cases h
theorem pu_oV {k : Nat} {f : Int → Int} (hf : ∀ x, ok64 (f x)) (hP : PU z I0 (pc, L, S, I)) (h : oV k L S I f = some (.inr c')) : PU z I0 c' := by
  unfold oV at h
  split at h
  · cases h
    exact ⟨hP.1, hP.2.1, okS_c (hf _) (okS_t hP.2.2.1), hP.2.2.2⟩
  · cases h
theorem pu_ldV {k t i : Nat} (hP : PU z I0 (pc, L, S, I)) (h : ldV k L S I t i = some (.inr c')) : PU z I0 c' := by
  unfold ldV at h
  split at h
  · next hl => cases h; exact ⟨hP.1, hP.2.1, okS_c (hP.2.1 _ (List.mem_of_getElem? hl)) hP.2.2.1, hP.2.2.2⟩
  · next hl => cases h; exact ⟨hP.1, hP.2.1, okS_c (hP.2.1 _ (List.mem_of_getElem? hl)) hP.2.2.1, hP.2.2.2⟩
  · split at h
    · cases h
    · cases h; exact ⟨hP.1, hP.2.1, okS_c trivial hP.2.2.1, hP.2.2.2⟩
  · cases h
theorem pu_stV {k t i : Nat} (hP : PU z I0 (pc, L, S, I)) (h : stV k L S I t i = some (.inr c')) : PU z I0 c' := by
  unfold stV at h
  split at h
  · split at h
    · cases h; exact ⟨hP.1, okL_st1 hP.2.1 (okS_h hP.2.2.1), okS_t hP.2.2.1, hP.2.2.2⟩
    · cases h
  · split at h
    · cases h; exact ⟨hP.1, okL_st2 hP.2.1 (okS_h hP.2.2.1), okS_t hP.2.2.1, hP.2.2.2⟩
    · cases h
  · split at h
    · cases h; exact ⟨hP.1, okL_st1 hP.2.1 trivial, okS_t hP.2.2.1, hP.2.2.2⟩
    · cases h
  · cases h
theorem pu_goV {off : Int} {S' : List AV} (hP : PU z I0 (pc, L, S, I)) (hS : ∀ v ∈ S', okV v) (h : goV pc off L S' I = some (.inr c')) : PU z I0 c' := by
  unfold goV at h
  split at h
  · cases h; exact ⟨hP.1, hP.2.1, hS, hP.2.2.2⟩
  · cases h
theorem pu_jmp {b : Bool} {n : Nat} {off : Int} {S' : List AV} (hP : PU z I0 (pc, L, S, I)) (hS : ∀ v ∈ S', okV v) (h : jmp b pc n off L S' I = some (.inr c')) : PU z I0 c' := by
  unfold jmp at h
  split at h
  · cases h; exact ⟨hP.1, hP.2.1, hS, hP.2.2.2⟩
  · cases h
theorem pu_mem {k : Nat} {S' : List AV} {a : Nat} {i x : Int} (hP : PU z I0 (pc, L, S, I)) (hS : ∀ v ∈ S', okV v) (hx : okT (tyOf a i) x) (ha : (Wd z).contains a = true) : PU z I0 (k, L, S', mset I a i x) :=
  ⟨okM_set hP.1 hx, hP.2.1, hS, fun b hb => by
    have hne : b ≠ a := by
      intro e
      subst e
      exact hb (by simpa using ha)
    show mset I a i x b = I0 b
    rw [← hP.2.2.2 b hb]
    funext j
    simp [mset, hne]⟩
theorem pu_rd {a : Nat} {i : Int} {t : Nat} (hP : okM I) (ht : tyOf a i = t) (h3 : t = 0 ∨ t = 2) : ok32 (I a i) := by
  have h := hP a i
  rw [ht] at h
  rcases h3 with rfl | rfl
  · exact h
  · rcases h with q | q <;> rw [q] <;> exact ⟨by decide, by decide⟩
theorem pu_inv {cal : Nat → List AV → MM → Option RES} {i : Nat} {st : Bool} (hcal : ∀ y a I r I', y < 273 → cal y a I = some (r, I') → okM I → (∀ v ∈ a, okV v) → okM I' ∧ (∀ v, r = some v → okV v) ∧ ∀ a, a ∉ Wd y → I' a = I a) (hP : PU z I0 (pc, L, S, I)) (h : invV cal z pc i st L S I = some (.inr c')) : PU z I0 c' := by
  unfold invV at h
  split at h
  · next y hy =>
    rcases mres_of hy with ⟨h9, hl⟩ | ⟨hlt, hl⟩
    · rw [if_pos h9] at h
      split at h
      · split at h
        · next n dp b sp a S' =>
          split at h
          · next hq =>
            cases h
            refine ⟨mcpy_ok hP.1 hq.1 hq.2.1, hP.2.1, okS_t (okS_t (okS_t (okS_t (okS_t hP.2.2.1)))), fun k hk => ?_⟩
            have hne : k ≠ b := by
              intro e
              subst e
              exact hk (by simpa using hq.2.2.2.1)
            show mcpy I a sp b dp n k = I0 k
            rw [← hP.2.2.2 k hk]
            funext j
            simp [mcpy, hne]
          · cases h
        · cases h
      · cases h
    · rw [if_neg (by omega)] at h
      split at h
      · next hok =>
        split at h
        · next r I' hr =>
          cases h
          simp only [callOK, Bool.and_eq_true, beq_iff_eq, decide_eq_true_eq, Bool.or_eq_true] at hok
          obtain ⟨-, hw⟩ := hok
          have hsub := sub_W (z := z) (y := y) hw
          obtain ⟨o1, o2, o3⟩ := hcal y _ I r I' hlt hr hP.1 (fun v hv => hP.2.2.1 v (List.mem_of_mem_take (List.mem_reverse.mp hv)))
          refine ⟨o1, hP.2.1, fun v hv => ?_, fun a ha => ?_⟩
          · cases r with
            | none => exact hP.2.2.1 v (List.mem_of_mem_drop hv)
            | some w =>
              rcases List.mem_cons.mp hv with rfl | hv
              · exact o2 _ rfl
              · exact hP.2.2.1 v (List.mem_of_mem_drop hv)
          · show I' a = I0 a
            rw [o3 a (fun q => ha (hsub a q))]
            exact hP.2.2.2 a ha
        · cases h
      · cases h
  · cases h
theorem pu_all {cal : Nat → List AV → MM → Option RES} {i : Instr} (hcal : ∀ y a I r I', y < 273 → cal y a I = some (r, I') → okM I → (∀ v ∈ a, okV v) → okM I' ∧ (∀ v, r = some v → okV v) ∧ ∀ a, a ∉ Wd y → I' a = I a) (hP : PU z I0 (pc, L, S, I)) (h : stepI cal z pc i L S I = some (.inr c')) : PU z I0 c' := by
  cases i
  case iconst v =>
    simp only [stepI] at h
    split at h
    · next hv =>
      simp only [ok8, Bool.and_eq_true, decide_eq_true_eq] at hv
      cases h; exact ⟨hP.1, hP.2.1, okS_c (v := vI v) ⟨by omega, by omega⟩ hP.2.2.1, hP.2.2.2⟩
    · cases h
  case bipush v =>
    simp only [stepI] at h
    split at h
    · next hv =>
      simp only [ok8, Bool.and_eq_true, decide_eq_true_eq] at hv
      cases h; exact ⟨hP.1, hP.2.1, okS_c (v := vI v) ⟨by omega, by omega⟩ hP.2.2.1, hP.2.2.2⟩
    · cases h
  case sipush v =>
    simp only [stepI] at h
    split at h
    · next hv =>
      simp only [ok16, Bool.and_eq_true, decide_eq_true_eq] at hv
      cases h; exact ⟨hP.1, hP.2.1, okS_c (v := vI v) ⟨by omega, by omega⟩ hP.2.2.1, hP.2.2.2⟩
    · cases h
  case lconst v =>
    simp only [stepI] at h
    have hv := v.isLt
    cases h; exact ⟨hP.1, hP.2.1, okS_c (v := vL v.val) ⟨by omega, by omega⟩ hP.2.2.1, hP.2.2.2⟩
  case ldc k =>
    simp only [stepI, ldk] at h
    split at h
    · cases h; exact ⟨hP.1, hP.2.1, okS_c trivial hP.2.2.1, hP.2.2.2⟩
    · split at h
      · next v hv =>
        obtain ⟨-, h2, -, h3⟩ := kres_of hv
        cases h; exact ⟨hP.1, hP.2.1, okS_c (v := vI v) ⟨h2, h3 rfl⟩ hP.2.2.1, hP.2.2.2⟩
      · cases h
  case ldc2_w k =>
    simp only [stepI, ldk2] at h
    split at h
    · next v hv =>
      obtain ⟨-, h2, h3, -⟩ := kres_of hv
      cases h; exact ⟨hP.1, hP.2.1, okS_c (v := vL v) ⟨by omega, by omega⟩ hP.2.2.1, hP.2.2.2⟩
    · cases h
  case iload k => exact pu_ldV hP h
  case iload_n k => exact pu_ldV hP h
  case lload k => exact pu_ldV hP h
  case lload_n k => exact pu_ldV hP h
  case aload k => exact pu_ldV hP h
  case aload_n k => exact pu_ldV hP h
  case istore k => exact pu_stV hP h
  case istore_n k => exact pu_stV hP h
  case lstore k => exact pu_stV hP h
  case lstore_n k => exact pu_stV hP h
  case astore k => exact pu_stV hP h
  case astore_n k => exact pu_stV hP h
  case iinc k d =>
    simp only [stepI] at h
    split at h
    · split at h
      · cases h; exact ⟨hP.1, okL_st1 hP.2.1 (ok32_i _), hP.2.2.1, hP.2.2.2⟩
      · cases h
    · cases h
  case iadd => exact pu_oI (fun _ _ => ok32_i _) hP h
  case isub => exact pu_oI (fun _ _ => ok32_i _) hP h
  case imul => exact pu_oI (fun _ _ => ok32_i _) hP h
  case idiv => exact pu_oI (fun _ _ => ok32_i _) hP h
  case irem => exact pu_oI (fun _ _ => ok32_i _) hP h
  case iand => exact pu_oI (fun _ _ => ok32_i _) hP h
  case ior => exact pu_oI (fun _ _ => ok32_i _) hP h
  case ixor => exact pu_oI (fun _ _ => ok32_i _) hP h
  case ishl => exact pu_oI (fun _ _ => ok32_i _) hP h
  case ishr => exact pu_oI (fun _ _ => ok32_i _) hP h
  case ineg => exact pu_oU (fun _ => ok32_i _) hP h
  case i2c => exact pu_oU (fun _ => ok32_i _) hP h
  case ladd => exact pu_oL (fun _ _ => ok64_i _) hP h
  case lsub => exact pu_oL (fun _ _ => ok64_i _) hP h
  case lmul => exact pu_oL (fun _ _ => ok64_i _) hP h
  case ldiv => exact pu_oL (fun _ _ => ok64_i _) hP h
  case lrem => exact pu_oL (fun _ _ => ok64_i _) hP h
  case land => exact pu_oL (fun _ _ => ok64_i _) hP h
  case lor => exact pu_oL (fun _ _ => ok64_i _) hP h
  case lxor => exact pu_oL (fun _ _ => ok64_i _) hP h
  case lneg => exact pu_oV (fun _ => ok64_i _) hP h
  case lshl => exact pu_oH (fun _ _ => ok64_i _) hP h
  case lshr => exact pu_oH (fun _ _ => ok64_i _) hP h
  case lushr => exact pu_oH (fun _ _ => ok64_i _) hP h
  case lcmp =>
    simp only [stepI] at h
    split at h
    · cases h; exact ⟨hP.1, hP.2.1, okS_c (ok_lcmp _ _) (okS_t (okS_t hP.2.2.1)), hP.2.2.2⟩
    · cases h
  case i2l =>
    simp only [stepI] at h
    split at h
    · next x S' =>
      have hx : ok32 x := okS_h hP.2.2.1
      obtain ⟨h1, h2⟩ := hx
      cases h; exact ⟨hP.1, hP.2.1, okS_c (v := vL x) ⟨by omega, by omega⟩ (okS_t hP.2.2.1), hP.2.2.2⟩
    · cases h
  case l2i =>
    simp only [stepI] at h
    split at h
    · next x S' => cases h; exact ⟨hP.1, hP.2.1, okS_c (v := vI (l2i x)) (ok32_i _) (okS_t hP.2.2.1), hP.2.2.2⟩
    · cases h
  case dup =>
    simp only [stepI, stkV] at h
    split at h
    · split at h
      · cases h; exact ⟨hP.1, hP.2.1, okS_c (okS_h hP.2.2.1) hP.2.2.1, hP.2.2.2⟩
      · cases h
    all_goals first | contradiction | cases h
  case pop =>
    simp only [stepI, stkV] at h
    split at h
    · contradiction
    · cases h; exact ⟨hP.1, hP.2.1, okS_t hP.2.2.1, hP.2.2.2⟩
    all_goals first | contradiction | cases h
  case dup2 =>
    simp only [stepI, stkV] at h
    split at h
    · contradiction
    · contradiction
    · cases h; exact ⟨hP.1, hP.2.1, okS_c (okS_h hP.2.2.1) (okS_c trivial hP.2.2.1), hP.2.2.2⟩
    · cases h; exact ⟨hP.1, hP.2.1, okS_c (okS_h hP.2.2.1) hP.2.2.1, hP.2.2.2⟩
    · cases h
  case iaload =>
    simp only [stepI, aldI] at h
    split at h
    · next i a S' =>
      split at h
      · next n hk =>
        split at h
        · cases h; exact ⟨hP.1, hP.2.1, okS_c (v := vI (I a i)) (pu_rd hP.1 (tyOf_i (by rw [hk])) (Or.inl rfl)) (okS_t (okS_t hP.2.2.1)), hP.2.2.2⟩
        · cases h
      · next r hk =>
        split at h
        · next hq =>
          have hv : ∀ r, r < 2 → ∀ t, t < 6 → -2147483648 ≤ ((roT.getD r []).getD t 0) ∧ ((roT.getD r []).getD t 0) ≤ 2147483647 := by decide +kernel
          have hl : ∀ r, r < 2 → (roT.getD r []).length = 6 := by decide +kernel
          have hr : ∀ a, a < 101 → (cT a).1 = 4 → (cT a).2 < 2 := by decide +kernel
          have h2 := hr a (cT_lt hk (by decide)) (by rw [hk])
          rw [hk] at h2
          have h6 := hl r h2
          cases h; exact ⟨hP.1, hP.2.1, okS_c (v := vI ((roT.getD r []).getD i.toNat 0)) (hv r h2 _ (by omega)) (okS_t (okS_t hP.2.2.1)), hP.2.2.2⟩
        · cases h
      · next hk =>
        split at h
        · cases h
          have h100 : a = 100 := at_kind8 (by rw [hk])
          subst h100
          exact ⟨hP.1, hP.2.1, okS_c (v := vI (I 100 i)) (pu_rd (t := 0) hP.1 (by rfl) (Or.inl rfl)) (okS_t (okS_t hP.2.2.1)), hP.2.2.2⟩
        · cases h
      · cases h
    · cases h
  case baload =>
    simp only [stepI, aldB] at h
    split at h
    · next i a S' =>
      split at h
      · next n hk =>
        split at h
        · cases h; exact ⟨hP.1, hP.2.1, okS_c (v := vI (I a i)) (pu_rd hP.1 (tyOf_z (by rw [hk])) (Or.inr rfl)) (okS_t (okS_t hP.2.2.1)), hP.2.2.2⟩
        · cases h
      · next r hk =>
        split at h
        · next hq =>
          obtain ⟨hr4, ha⟩ := at_kind6 hk
          have hv : ∀ r, r < 4 → ∀ t, t < (strT.getD r []).length → -2147483648 ≤ (strT.getD r []).getD t 0 ∧ (strT.getD r []).getD t 0 ≤ 2147483647 := by decide +kernel
          cases h; exact ⟨hP.1, hP.2.1, okS_c (v := vI ((strT.getD r []).getD i.toNat 0)) (hv r hr4 _ (by omega)) (okS_t (okS_t hP.2.2.1)), hP.2.2.2⟩
        · cases h
      · cases h
    · cases h
  case laload =>
    simp only [stepI, aldL] at h
    split at h
    · next i a S' =>
      split at h
      · next n hk =>
        split at h
        · have hM := hP.1 a i
          rw [tyOf_l (by rw [hk])] at hM
          cases h; exact ⟨hP.1, hP.2.1, okS_c (v := vL (I a i)) hM (okS_t (okS_t hP.2.2.1)), hP.2.2.2⟩
        · cases h
      · cases h
    · cases h
  case iastore =>
    simp only [stepI, astI] at h
    split at h
    · next x i a S' =>
      split at h
      · next n hk =>
        split at h
        · next hq => cases h; exact pu_mem hP (okS_t (okS_t (okS_t hP.2.2.1))) (by rw [tyOf_i (by rw [hk])]; exact okS_h hP.2.2.1) hq.2.2
        · cases h
      · cases h
    · cases h
  case lastore =>
    simp only [stepI, astL] at h
    split at h
    · next x i a S' =>
      split at h
      · next n hk =>
        split at h
        · next hq => cases h; exact pu_mem hP (okS_t (okS_t (okS_t hP.2.2.1))) (by rw [tyOf_l (by rw [hk])]; exact okS_h hP.2.2.1) hq.2.2
        · cases h
      · cases h
    · cases h
  case bastore =>
    simp only [stepI, astB] at h
    split at h
    · next x i a S' =>
      split at h
      · next n hk =>
        split at h
        · next hq => cases h; exact pu_mem hP (okS_t (okS_t (okS_t hP.2.2.1))) (by rw [tyOf_z (by rw [hk])]; exact hq.2.2.2) hq.2.2.1
        · cases h
      · cases h
    · cases h
  case arraylength =>
    simp only [stepI] at h
    split at h
    · next a S' =>
      split at h
      · next n hn =>
        have hn32 : ok32 n := by
          have hbig : ∀ a, a < 101 → (cT a).2 < 2147483648 := by decide +kernel
          unfold alen at hn
          split at hn
          · next m hk =>
            split at hn
            · have := hbig a (cT_lt hk (by decide)); rw [hk] at this; cases hn; exact ⟨by omega, by omega⟩
            · cases hn
          · next m hk =>
            split at hn
            · have := hbig a (cT_lt hk (by decide)); rw [hk] at this; cases hn; exact ⟨by omega, by omega⟩
            · cases hn
          · next m hk =>
            split at hn
            · have := hbig a (cT_lt hk (by decide)); rw [hk] at this; cases hn; exact ⟨by omega, by omega⟩
            · cases hn
          · next r hk =>
            have hl : ∀ a, a < 101 → (cT a).1 = 4 → (roT.getD (cT a).2 []).length = 6 := by decide +kernel
            have := hl a (cT_lt hk (by decide)) (by rw [hk])
            rw [hk] at this
            cases hn
            rw [this]
            exact ⟨by decide, by decide⟩
          · next r hk =>
            have hl : ∀ r, r < 4 → (strT.getD r []).length < 9 := by decide +kernel
            have := hl r (at_kind6 hk).1
            cases hn
            exact ⟨by omega, by omega⟩
          · next hk =>
            split at hn
            · have h100 : a = 100 := at_kind8 (by rw [hk])
              subst h100
              cases hn
              exact pu_rd (t := 0) hP.1 (by rfl) (Or.inl rfl)
            · cases hn
          · cases hn
        cases h; exact ⟨hP.1, hP.2.1, okS_c (v := vI n) hn32 (okS_t hP.2.2.1), hP.2.2.2⟩
      · cases h
    · cases h
  case getfield k =>
    simp only [stepI, getV] at h
    split at h
    · next a S' =>
      split at h
      · split at h
        · split at h
          · cases h; exact ⟨hP.1, hP.2.1, okS_c trivial (okS_t hP.2.2.1), hP.2.2.2⟩
          · split at h
            · cases h; exact ⟨hP.1, hP.2.1, okS_c (v := vI 0) ⟨by decide, by decide⟩ (okS_t hP.2.2.1), hP.2.2.2⟩
            · cases h
        · cases h
      · split at h
        · next ci si hf =>
          split at h
          · next hq =>
            have ht := tyOf_o (j := si) hq.1 hq.2.1
            split at h
            · next hk => cases h; exact ⟨hP.1, hP.2.1, okS_c (v := vI (I a si)) (pu_rd hP.1 (ht.trans hk) (Or.inl rfl)) (okS_t hP.2.2.1), hP.2.2.2⟩
            · next hk =>
              have hM := hP.1 a si
              rw [ht, hk] at hM
              cases h; exact ⟨hP.1, hP.2.1, okS_c (v := vL (I a si)) hM (okS_t hP.2.2.1), hP.2.2.2⟩
            · next hk => cases h; exact ⟨hP.1, hP.2.1, okS_c (v := vI (I a si)) (pu_rd hP.1 (ht.trans hk) (Or.inr rfl)) (okS_t hP.2.2.1), hP.2.2.2⟩
            · cases h; exact ⟨hP.1, hP.2.1, okS_c trivial (okS_t hP.2.2.1), hP.2.2.2⟩
            · cases h
          · cases h
        · cases h
    · cases h
  case putfield k =>
    simp only [stepI, putV] at h
    split at h
    · next v a S' =>
      split at h
      · next ci si hf =>
        split at h
        · next hq =>
          have ht := tyOf_o (j := si) hq.1 hq.2.1
          split at h
          · next hk => cases h; exact pu_mem hP (okS_t (okS_t hP.2.2.1)) (by rw [ht, hk]; exact okS_h hP.2.2.1) hq.2.2
          · next hk => cases h; exact pu_mem hP (okS_t (okS_t hP.2.2.1)) (by rw [ht, hk]; exact okS_h hP.2.2.1) hq.2.2
          · next hk =>
            split at h
            · next h01 => cases h; exact pu_mem hP (okS_t (okS_t hP.2.2.1)) (by rw [ht, hk]; exact h01) hq.2.2
            · cases h
          · cases h
        · cases h
      · cases h
    · cases h
  case getstatic k =>
    simp only [stepI, gstV] at h
    split at h
    · cases h; exact ⟨hP.1, hP.2.1, okS_c trivial hP.2.2.1, hP.2.2.2⟩
    · split at h
      · cases h; exact ⟨hP.1, hP.2.1, okS_c trivial hP.2.2.1, hP.2.2.2⟩
      · split at h
        · cases h; exact ⟨hP.1, hP.2.1, okS_c (v := vI 1) ⟨by decide, by decide⟩ hP.2.2.1, hP.2.2.2⟩
        · split at h
          · cases h; exact ⟨hP.1, hP.2.1, okS_c trivial hP.2.2.1, hP.2.2.2⟩
          · cases h
  case goto off => exact pu_goV hP hP.2.2.1 h
  case ifCond c0 off =>
    simp only [stepI, ifV] at h
    split at h
    · exact pu_jmp hP (okS_t hP.2.2.1) h
    · cases h
  case if_icmp c0 off =>
    simp only [stepI, ifC] at h
    split at h
    · exact pu_jmp hP (okS_t (okS_t hP.2.2.1)) h
    · cases h
  case tableswitch d0 lo hi offs =>
    simp only [stepI] at h
    split at h
    · split at h
      · exact pu_goV hP (okS_t hP.2.2.1) h
      · cases h
    · cases h
  case lookupswitch d0 ps =>
    simp only [stepI] at h
    split at h
    · split at h
      · exact pu_goV hP (okS_t hP.2.2.1) h
      · cases h
    · cases h
  case invokevirtual k => exact pu_inv hcal hP h
  case invokestatic k => exact pu_inv hcal hP h
  case ireturn => simp only [stepI] at h; unfold retV at h; split at h <;> first | (split at h <;> cases h) | cases h
  case lreturn => simp only [stepI] at h; unfold retV at h; split at h <;> first | (split at h <;> cases h) | cases h
  case areturn => simp only [stepI] at h; unfold retV at h; split at h <;> first | (split at h <;> cases h) | cases h
  case return_ => simp only [stepI] at h; unfold retV at h; split at h <;> first | (split at h <;> cases h) | cases h
  all_goals (exact absurd h (by simp [stepI]))
theorem pu_exec {cal : Nat → List AV → MM → Option RES} (hcal : ∀ y a I r I', y < 273 → cal y a I = some (r, I') → okM I → (∀ v ∈ a, okV v) → okM I' ∧ (∀ v, r = some v → okV v) ∧ ∀ a, a ∉ Wd y → I' a = I a) {r : Option AV} {I' : MM} : ∀ (n : Nat) (cf : CFG), PU z I0 cf → exec cal z n cf = some (r, I') → okM I' ∧ (∀ v, r = some v → okV v) ∧ ∀ a, a ∉ Wd z → I' a = I0 a
  | 0, _, _, h => by cases h
  | n + 1, (pc, L, S, I), hP, h => by
    rw [exec] at h
    dsimp only at h
    cases hst : stepD cal z pc L S I with
    | none => rw [hst] at h; cases h
    | some w =>
      rw [hst] at h
      unfold stepD at hst
      split at hst
      · split at hst
        · cases w with
          | inl q =>
            cases h
            obtain ⟨k, hk4, rfl, hq⟩ := sI_ret hst
            have e1 := retV_I hq
            cases e1
            refine ⟨hP.1, fun v hv => ?_, hP.2.2.2⟩
            subst hv
            unfold retV at hq
            split at hq <;> first | (split at hq <;> first | (cases hq; exact okS_h hP.2.2.1) | cases hq) | cases hq
          | inr c' => exact pu_exec hcal n c' (pu_all hcal hP hst) h
        · cases hst
      · cases hst
theorem pu_flat {n : Nat} {a : List AV} (ha : ∀ v ∈ a, okV v) : ∀ v ∈ entL n a, okV v := by
  intro v hv
  have key : ∀ (l : List AV), (∀ v ∈ l, okV v) → ∀ v ∈ flat l, okV v := by
    intro l
    induction l with
    | nil => intro _ v hv; cases hv
    | cons w r ih =>
      intro hl v hv
      have hr := ih (fun u hu => hl u (List.mem_cons_of_mem _ hu))
      rcases w with x | x | x
      · rcases List.mem_cons.mp hv with rfl | hv
        · exact hl _ List.mem_cons_self
        · exact hr v hv
      · rcases List.mem_cons.mp hv with rfl | hv
        · exact hl _ List.mem_cons_self
        · rcases List.mem_cons.mp hv with rfl | hv
          · exact trivial
          · exact hr v hv
      · rcases List.mem_cons.mp hv with rfl | hv
        · exact trivial
        · exact hr v hv
  rcases List.mem_append.mp hv with h1 | h1
  · exact key a ha v h1
  · rw [(List.mem_replicate.mp h1).2]; exact trivial
theorem pu_call : ∀ (d y : Nat) (a : List AV) (I : MM) (r : Option AV) (I' : MM), call d y a I = some (r, I') → okM I → (∀ v ∈ a, okV v) → okM I' ∧ (∀ v, r = some v → okV v) ∧ ∀ b, b ∉ Wd y → I' b = I b
  | 0, _, _, _, _, _, h, _, _ => by cases h
  | d + 1, y, a, I, r, I', h, hM, ha => by
    rw [call] at h
    split at h
    · rw [runs] at h
      obtain ⟨n, hn⟩ := runC_iff.mp h
      refine pu_exec (fun y a I r I' _ => pu_call d y a I r I') n (0, entL (mL y) a, [], I) ⟨hM, fun v hv => ?_, (fun v hv => absurd hv List.not_mem_nil), fun _ _ => rfl⟩ hn
      exact pu_flat ha v hv
    · cases h
end PURE
