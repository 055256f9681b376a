/-! The whole step; many steps; a method. -/
section STEP
variable {p : Program} {l : Launch} {e : Env} {R : Room} {s : State} {m : MethodId} {args : Array Value} {below : List Frame} {meth : Method} {c : Code} {H : Heap} {locs : List Loc} {cells slots : Nat} {Q : State → Prop}
variable {z pc : Nat} {ad : Nat → Nat} {rv : Nat → Value} {cI cL cZ : ClassId} {D : va_G} {Ls : Nat} {xs : Nat → Int32} {I : MM} {L S S' : List AV} {ls : Array Slot} {c' : CFG}
theorem sI_all {d : Nat} {cal : Nat → List AV → MM → Option RES} {i : Instr} {n : Nat} (hcal : ∀ y a I r I', y < 273 → cal y a I = some (r, I') → METZ l d y a I r I') (hR : d + 1 ≤ R.frames ∧ 40 * d + 40 ≤ R.locals) (hR2 : cells ≤ R.cells ∧ slots ≤ R.slots) (hC : CX p s m args c z ad rv cI cL cZ D Ls xs) (hV : INV s z ad rv cI cL cZ D Ls xs I L S ls H locs) (hd : decode (mB z) pc = .ok (i, n)) (hn : (isSw i || n == lenI i) = true) (h : stepI cal z pc i L S I = some (.inr c')) (k : NXT p l e R s m args below meth c cells slots Q z ad rv cI cL cZ D Ls xs c') : W p l e R s m args below meth c H locs cells slots Q (F0 m pc ls (S.map (conc rv))) := by
  cases i
  case iconst =>
    have hn : n = 1 := by simpa [isSw, lenI] using hn
    subst hn
    exact sI_iconst hC hV hd h k
  case bipush =>
    have hn : n = 2 := by simpa [isSw, lenI] using hn
    subst hn
    exact sI_bipush hC hV hd h k
  case sipush =>
    have hn : n = 3 := by simpa [isSw, lenI] using hn
    subst hn
    exact sI_sipush hC hV hd h k
  case lconst =>
    have hn : n = 1 := by simpa [isSw, lenI] using hn
    subst hn
    exact sI_lconst hC hV hd h k
  case ldc =>
    have hn : n = 2 := by simpa [isSw, lenI] using hn
    subst hn
    exact sI_ldc hC hV hd h k
  case ldc2_w =>
    have hn : n = 3 := by simpa [isSw, lenI] using hn
    subst hn
    exact sI_ldc2 hC hV hd h k
  case iload =>
    have hn : n = 2 := by simpa [isSw, lenI] using hn
    subst hn
    exact sI_iload hC hV hd h k
  case iload_n =>
    have hn : n = 1 := by simpa [isSw, lenI] using hn
    subst hn
    exact sI_iload_n hC hV hd h k
  case lload =>
    have hn : n = 2 := by simpa [isSw, lenI] using hn
    subst hn
    exact sI_lload hC hV hd h k
  case lload_n =>
    have hn : n = 1 := by simpa [isSw, lenI] using hn
    subst hn
    exact sI_lload_n hC hV hd h k
  case aload =>
    have hn : n = 2 := by simpa [isSw, lenI] using hn
    subst hn
    exact sI_aload hC hV hd h k
  case aload_n =>
    have hn : n = 1 := by simpa [isSw, lenI] using hn
    subst hn
    exact sI_aload_n hC hV hd h k
  case istore =>
    have hn : n = 2 := by simpa [isSw, lenI] using hn
    subst hn
    exact sI_istore hC hV hd h k
  case istore_n =>
    have hn : n = 1 := by simpa [isSw, lenI] using hn
    subst hn
    exact sI_istore_n hC hV hd h k
  case lstore =>
    have hn : n = 2 := by simpa [isSw, lenI] using hn
    subst hn
    exact sI_lstore hC hV hd h k
  case lstore_n =>
    have hn : n = 1 := by simpa [isSw, lenI] using hn
    subst hn
    exact sI_lstore_n hC hV hd h k
  case astore =>
    have hn : n = 2 := by simpa [isSw, lenI] using hn
    subst hn
    exact sI_astore hC hV hd h k
  case astore_n =>
    have hn : n = 1 := by simpa [isSw, lenI] using hn
    subst hn
    exact sI_astore_n hC hV hd h k
  case iinc =>
    have hn : n = 3 := by simpa [isSw, lenI] using hn
    subst hn
    exact sI_iinc hC hV hd h k
  case iadd =>
    have hn : n = 1 := by simpa [isSw, lenI] using hn
    subst hn
    exact sI_iadd hC hV hd h k
  case isub =>
    have hn : n = 1 := by simpa [isSw, lenI] using hn
    subst hn
    exact sI_isub hC hV hd h k
  case imul =>
    have hn : n = 1 := by simpa [isSw, lenI] using hn
    subst hn
    exact sI_imul hC hV hd h k
  case idiv =>
    have hn : n = 1 := by simpa [isSw, lenI] using hn
    subst hn
    exact sI_idiv hC hV hd h k
  case irem =>
    have hn : n = 1 := by simpa [isSw, lenI] using hn
    subst hn
    exact sI_irem hC hV hd h k
  case iand =>
    have hn : n = 1 := by simpa [isSw, lenI] using hn
    subst hn
    exact sI_iand hC hV hd h k
  case ior =>
    have hn : n = 1 := by simpa [isSw, lenI] using hn
    subst hn
    exact sI_ior hC hV hd h k
  case ixor =>
    have hn : n = 1 := by simpa [isSw, lenI] using hn
    subst hn
    exact sI_ixor hC hV hd h k
  case ishl =>
    have hn : n = 1 := by simpa [isSw, lenI] using hn
    subst hn
    exact sI_ishl hC hV hd h k
  case ishr =>
    have hn : n = 1 := by simpa [isSw, lenI] using hn
    subst hn
    exact sI_ishr hC hV hd h k
  case ineg =>
    have hn : n = 1 := by simpa [isSw, lenI] using hn
    subst hn
    exact sI_ineg hC hV hd h k
  case i2c =>
    have hn : n = 1 := by simpa [isSw, lenI] using hn
    subst hn
    exact sI_i2c hC hV hd h k
  case ladd =>
    have hn : n = 1 := by simpa [isSw, lenI] using hn
    subst hn
    exact sI_ladd hC hV hd h k
  case lsub =>
    have hn : n = 1 := by simpa [isSw, lenI] using hn
    subst hn
    exact sI_lsub hC hV hd h k
  case lmul =>
    have hn : n = 1 := by simpa [isSw, lenI] using hn
    subst hn
    exact sI_lmul hC hV hd h k
  case ldiv =>
    have hn : n = 1 := by simpa [isSw, lenI] using hn
    subst hn
    exact sI_ldiv hC hV hd h k
  case lrem =>
    have hn : n = 1 := by simpa [isSw, lenI] using hn
    subst hn
    exact sI_lrem hC hV hd h k
  case land =>
    have hn : n = 1 := by simpa [isSw, lenI] using hn
    subst hn
    exact sI_land hC hV hd h k
  case lor =>
    have hn : n = 1 := by simpa [isSw, lenI] using hn
    subst hn
    exact sI_lor hC hV hd h k
  case lxor =>
    have hn : n = 1 := by simpa [isSw, lenI] using hn
    subst hn
    exact sI_lxor hC hV hd h k
  case lneg =>
    have hn : n = 1 := by simpa [isSw, lenI] using hn
    subst hn
    exact sI_lneg hC hV hd h k
  case lshl =>
    have hn : n = 1 := by simpa [isSw, lenI] using hn
    subst hn
    exact sI_lshl hC hV hd h k
  case lshr =>
    have hn : n = 1 := by simpa [isSw, lenI] using hn
    subst hn
    exact sI_lshr hC hV hd h k
  case lushr =>
    have hn : n = 1 := by simpa [isSw, lenI] using hn
    subst hn
    exact sI_lushr hC hV hd h k
  case lcmp =>
    have hn : n = 1 := by simpa [isSw, lenI] using hn
    subst hn
    exact sI_lcmp hC hV hd h k
  case i2l =>
    have hn : n = 1 := by simpa [isSw, lenI] using hn
    subst hn
    exact sI_i2l hC hV hd h k
  case l2i =>
    have hn : n = 1 := by simpa [isSw, lenI] using hn
    subst hn
    exact sI_l2i hC hV hd h k
  case dup =>
    have hn : n = 1 := by simpa [isSw, lenI] using hn
    subst hn
    exact sI_dup hC hV hd h k
  case pop =>
    have hn : n = 1 := by simpa [isSw, lenI] using hn
    subst hn
    exact sI_pop hC hV hd h k
  case dup2 =>
    have hn : n = 1 := by simpa [isSw, lenI] using hn
    subst hn
    exact sI_dup2 hC hV hd h k
  case iaload =>
    have hn : n = 1 := by simpa [isSw, lenI] using hn
    subst hn
    exact sI_iaload hC hV hd h k
  case baload =>
    have hn : n = 1 := by simpa [isSw, lenI] using hn
    subst hn
    exact sI_baload hC hV hd h k
  case laload =>
    have hn : n = 1 := by simpa [isSw, lenI] using hn
    subst hn
    exact sI_laload hC hV hd h k
  case iastore =>
    have hn : n = 1 := by simpa [isSw, lenI] using hn
    subst hn
    exact sI_iastore hC hV hd h k
  case bastore =>
    have hn : n = 1 := by simpa [isSw, lenI] using hn
    subst hn
    exact sI_bastore hC hV hd h k
  case lastore =>
    have hn : n = 1 := by simpa [isSw, lenI] using hn
    subst hn
    exact sI_lastore hC hV hd h k
  case arraylength =>
    have hn : n = 1 := by simpa [isSw, lenI] using hn
    subst hn
    exact sI_arraylength hC hV hd h k
  case putfield =>
    have hn : n = 3 := by simpa [isSw, lenI] using hn
    subst hn
    exact sI_putfield hC hV hd h k
  case getstatic =>
    have hn : n = 3 := by simpa [isSw, lenI] using hn
    subst hn
    exact sI_getstatic hC hV hd h k
  case goto =>
    have hn : n = 3 := by simpa [isSw, lenI] using hn
    subst hn
    exact sI_goto hC hV hd h k
  case getfield i =>
    have hn : n = 3 := by simpa [isSw, lenI] using hn
    subst hn
    by_cases h12 : mC z = 12
    · exact sI_getfieldS hC hV hd h12 h k
    · exact sI_getfield hC hV hd h12 h k
  case ifCond c0 off =>
    have hn : n = 3 := by simpa [isSw, lenI] using hn
    subst hn
    cases c0
    · exact sI_if_eq hC hV hd h k
    · exact sI_if_ne hC hV hd h k
    · exact sI_if_lt hC hV hd h k
    · exact sI_if_ge hC hV hd h k
    · exact sI_if_gt hC hV hd h k
    · exact sI_if_le hC hV hd h k
  case if_icmp c0 off =>
    have hn : n = 3 := by simpa [isSw, lenI] using hn
    subst hn
    cases c0
    · exact sI_cmp_eq hC hV hd h k
    · exact sI_cmp_ne hC hV hd h k
    · exact sI_cmp_lt hC hV hd h k
    · exact sI_cmp_ge hC hV hd h k
    · exact sI_cmp_gt hC hV hd h k
    · exact sI_cmp_le hC hV hd h k
  case tableswitch d0 lo hi offs => exact sI_tsw hC hV hd h k
  case lookupswitch d0 ps => exact sI_lsw hC hV hd h k
  case invokevirtual i =>
    have hn : n = 3 := by simpa [isSw, lenI] using hn
    subst hn
    exact sI_invoke (st := false) hcal hR hR2 hC hV hd h k
  case invokestatic i =>
    have hn : n = 3 := by simpa [isSw, lenI] using hn
    subst hn
    exact sI_invoke (st := true) hcal hR hR2 hC hV hd h k
  case ireturn => simp only [stepI] at h; unfold retV at h; split at h <;> first | (split at h <;> cases h) | cases h
  case lreturn => simp only [stepI] at h; unfold retV at h; split at h <;> first | (split at h <;> cases h) | cases h
  case areturn => simp only [stepI] at h; unfold retV at h; split at h <;> first | (split at h <;> cases h) | cases h
  case return_ => simp only [stepI] at h; unfold retV at h; split at h <;> first | (split at h <;> cases h) | cases h
  all_goals (exact absurd h (by simp [stepI]))
def retI (k : Nat) : Instr := match k with
  | 0 => .ireturn
  | 1 => .lreturn
  | 2 => .areturn
  | _ => .return_
/-- what the end of a walk must be shown to give -/
def RETH (p : Program) (l : Launch) (e : Env) (R : Room) (s : State) (m : MethodId) (args : Array Value) (below : List Frame) (meth : Method) (c : Code) (cells slots : Nat) (Q : State → Prop) (z : Nat) (ad : Nat → Nat) (rv : Nat → Value) (cI cL cZ : ClassId) (D : va_G) (Ls : Nat) (xs : Nat → Int32) (r : Option AV) (I : MM) : Prop :=
  ∀ (pc k : Nat) (L S : List AV) (ls : Array Slot) (H : Heap) (locs : List Loc), k < 4 → INV s z ad rv cI cL cZ D Ls xs I L S ls H locs → decode (mB z) pc = .ok (retI k, 1) → retV z k L S I = some (.inl (r, I)) → W p l e R s m args below meth c H locs cells slots Q (F0 m pc ls (S.map (conc rv)))
theorem retV_I {k : Nat} {q : RES} (h : retV z k L S I = some (.inl q)) : q = (q.1, I) := by
  unfold retV at h
  split at h <;> first | (split at h <;> first | (cases h; rfl) | cases h) | cases h
theorem sI_ret {cal : Nat → List AV → MM → Option RES} {i : Instr} {q : RES} (h : stepI cal z pc i L S I = some (.inl q)) : ∃ k, k < 4 ∧ i = retI k ∧ retV z k L S I = some (.inl q) := by
  cases i
  case ireturn => exact ⟨0, by decide, rfl, h⟩
  case lreturn => exact ⟨1, by decide, rfl, h⟩
  case areturn => exact ⟨2, by decide, rfl, h⟩
  case return_ => exact ⟨3, by decide, rfl, h⟩
  all_goals
    exfalso
    revert h
    simp only [stepI, oI, oL, oH, oU, oV, ldV, stV, ifV, ifC, goV, stkV, aldI, aldB, aldL, astI, astB, astL, getV, putV, ldk, ldk2, gstV, invV, lcc, jmp]
    repeat' split
    all_goals (intro h; cases h)
theorem sound {d : Nat} {cal : Nat → List AV → MM → Option RES} (hcal : ∀ y a I r I', y < 273 → cal y a I = some (r, I') → METZ l d y a I r I') (hR : d + 1 ≤ R.frames ∧ 40 * d + 40 ≤ R.locals) (hR2 : cells ≤ R.cells ∧ slots ≤ R.slots) (hC : CX p s m args c z ad rv cI cL cZ D Ls xs) {r : Option AV} {I' : MM} (hE : RETH p l e R s m args below meth c cells slots Q z ad rv cI cL cZ D Ls xs r I') :
    ∀ (n : Nat) (cf : CFG) (ls : Array Slot) (H : Heap) (locs : List Loc), exec cal z n cf = some (r, I') → INV s z ad rv cI cL cZ D Ls xs cf.2.2.2 cf.2.1 cf.2.2.1 ls H locs → W p l e R s m args below meth c H locs cells slots Q (F0 m cf.1 ls (cf.2.2.1.map (conc rv)))
  | 0, _, _, _, _, h, _ => by cases h
  | n + 1, (pc, L, S, I), ls, H, locs, h, hV => by
    rw [exec] at h
    dsimp only at h hV ⊢
    cases hst : stepD cal z pc L S I with
    | none => rw [hst] at h; cases h
    | some w =>
      rw [hst] at h
      have hst2 := hst
      unfold stepD at hst2
      split at hst2
      · next i len hi =>
        have hd := ins_dec hi
        split at hst2
        · next hlen =>
          cases w with
          | inl q =>
            cases h
            obtain ⟨k, hk4, rfl, hq⟩ := sI_ret hst2
            have e1 := retV_I hq
            cases e1
            have hlen1 : len = 1 := by
              have : k = 0 ∨ k = 1 ∨ k = 2 ∨ k = 3 := by omega
              rcases this with rfl | rfl | rfl | rfl <;> simpa [retI, isSw, lenI] using hlen
            subst hlen1
            exact hE pc k L S ls H locs hk4 hV hd hq
          | inr c' =>
            exact sI_all hcal hR hR2 hC hV hd hlen hst2 (fun ls' H' locs' hV' => sound hcal hR hR2 hC hE n c' ls' H' locs' h hV')
        · cases hst2
      · cases hst2
end STEP
