/-! The bog told apart from its cells. -/
def G : Type := Nat → Int → Int
def G.last (g : G) : Int := g 0 0
def G.isl (g : G) : Int := g 0 1
def G.nW (g : G) : Int := g 0 2
def G.nB (g : G) : Int := g 0 3
def G.wt (g : G) : Int → Int := g 1
def G.gl (g : G) : Int → Int := g 2
def G.kd (g : G) : Int → Int := g 3
def G.ln (g : G) : Int → Int := g 4
def G.br (g : G) : Int → Int := g 5
def G.sp (g : G) : Int → Int := g 6
def G.st (g : G) : Int → Int := g 7
def gOf (k : Nat) (I : MM) : G := fun j i => if j = 0 ∧ i = 4 then 0 else I (k + j) i
/-- what holds of every bog that was read -/
def WG (g : G) : Prop := (1 ≤ g.last ∧ g.last ≤ 7) ∧ (0 ≤ g.isl ∧ g.isl < 128) ∧ (0 ≤ g.nW ∧ g.nW ≤ 3) ∧ (0 ≤ g.nB ∧ g.nB ≤ 2) ∧ (∀ w, 0 ≤ w → w < g.nW → (1 ≤ g.wt w ∧ g.wt w ≤ 9) ∧ (g.gl w = 0 ∨ g.gl w = 1)) ∧ (∀ b, 0 ≤ b → b < g.nB → (0 ≤ g.kd b ∧ g.kd b ≤ 5) ∧ (1 ≤ g.ln b ∧ g.ln b ≤ 3) ∧ (1 ≤ g.br b ∧ g.br b ≤ 30) ∧ g.sp b = g.ln b + (if g.kd b = 2 ∨ g.kd b = 4 then 1 else 0) ∧ g.st b = (if g.kd b = 1 then g.br b / 2 else if g.kd b = 3 ∨ g.kd b = 5 then 2 * g.br b else g.br b))
def setW (c w p : Int) : Int := c / 8 ^ (w.toNat + 1) * 8 ^ (w.toNat + 1) + p * 8 ^ w.toNat + c % 8 ^ w.toNat
def setB (c b q : Int) : Int := c / (512 * 16 ^ (b.toNat + 1)) * (512 * 16 ^ (b.toNat + 1)) + q * (512 * 16 ^ b.toNat) + c % (512 * 16 ^ b.toNat)
theorem setW_0 (c p : Int) : setW c 0 p = c / 8 * 8 + p := by simp [setW]
theorem setW_1 (c p : Int) : setW c 1 p = c / 64 * 64 + p * 8 + c % 8 := by simp [setW]
theorem setW_2 (c p : Int) : setW c 2 p = c / 512 * 512 + p * 64 + c % 64 := by simp [setW]
theorem setB_0 (c p : Int) : setB c 0 p = c / 8192 * 8192 + p * 512 + c % 512 := by simp [setB]
theorem setB_1 (c p : Int) : setB c 1 p = c / 131072 * 131072 + p * 8192 + c % 8192 := by simp [setB]
theorem w012 {w : Int} (h : 0 ≤ w ∧ w < 3) : w = 0 ∨ w = 1 ∨ w = 2 := by omega
theorem b01 {b : Int} (h : 0 ≤ b ∧ b < 2) : b = 0 ∨ b = 1 := by omega
theorem setW_b {c w p : Int} (hc : 0 ≤ c ∧ c < 131072) (hw : 0 ≤ w ∧ w < 3) (hp : 0 ≤ p ∧ p < 8) : 0 ≤ setW c w p ∧ setW c w p < 131072 := by
  rcases w012 hw with rfl | rfl | rfl <;> simp only [setW_0, setW_1, setW_2] <;> omega
theorem setB_b {c b p : Int} (hc : 0 ≤ c ∧ c < 131072) (hw : 0 ≤ b ∧ b < 2) (hp : 0 ≤ p ∧ p < 16) : 0 ≤ setB c b p ∧ setB c b p < 131072 := by
  rcases b01 hw with rfl | rfl <;> simp only [setB_0, setB_1] <;> omega
theorem wAt_b (c w : Int) : 0 ≤ wAt c w ∧ wAt c w < 8 := by simp only [wAt]; omega
theorem bAt_b (c w : Int) : 0 ≤ bAt c w ∧ bAt c w < 16 := by simp only [bAt]; omega
theorem wAt_setW {c w v p : Int} (hw : 0 ≤ w ∧ w < 3) (hv : 0 ≤ v ∧ v < 3) (hp : 0 ≤ p ∧ p < 8) : wAt (setW c w p) v = if v = w then p else wAt c v := by
  rcases w012 hw with rfl | rfl | rfl <;> rcases w012 hv with rfl | rfl | rfl <;> simp [setW_0, setW_1, setW_2, wAt_0, wAt_1, wAt_2] <;> omega
theorem bAt_setW {c w v p : Int} (hw : 0 ≤ w ∧ w < 3) (hv : 0 ≤ v ∧ v < 2) (hp : 0 ≤ p ∧ p < 8) : bAt (setW c w p) v = bAt c v := by
  rcases w012 hw with rfl | rfl | rfl <;> rcases b01 hv with rfl | rfl <;> simp [setW_0, setW_1, setW_2, bAt_0, bAt_1] <;> omega
theorem wAt_setB {c b v p : Int} (hb : 0 ≤ b ∧ b < 2) (hv : 0 ≤ v ∧ v < 3) (hp : 0 ≤ p ∧ p < 16) : wAt (setB c b p) v = wAt c v := by
  rcases b01 hb with rfl | rfl <;> rcases w012 hv with rfl | rfl | rfl <;> simp [setB_0, setB_1, wAt_0, wAt_1, wAt_2] <;> omega
theorem bAt_setB {c b v p : Int} (hb : 0 ≤ b ∧ b < 2) (hv : 0 ≤ v ∧ v < 2) (hp : 0 ≤ p ∧ p < 16) : bAt (setB c b p) v = if v = b then p else bAt c v := by
  rcases b01 hb with rfl | rfl <;> rcases b01 hv with rfl | rfl <;> simp [setB_0, setB_1, bAt_0, bAt_1] <;> omega
/-! The two ways of telling a code: equal where all five parts are. -/
theorem code_ext {c e : Int} (hc : 0 ≤ c ∧ c < 131072) (he : 0 ≤ e ∧ e < 131072) (h0 : wAt c 0 = wAt e 0) (h1 : wAt c 1 = wAt e 1) (h2 : wAt c 2 = wAt e 2) (h3 : bAt c 0 = bAt e 0) (h4 : bAt c 1 = bAt e 1) : c = e := by
  simp only [wAt_0, wAt_1, wAt_2, bAt_0, bAt_1] at h0 h1 h2 h3 h4
  omega
section
variable {d : Nat} {I : MM} {c w b p v : Int}
theorem x_withWalker (hc : 0 ≤ c ∧ c < 131072) (hw : 0 ≤ w ∧ w < 3) (hp : 0 ≤ p ∧ p < 8) : call (d + 1) 10 [vR 2, vI c, vI w, vI p] I = some (some (vI (setW c w p)), I) := by
  rw [en10]
  rcases w012 hw with rfl | rfl | rfl
  · simp (disch := omega) only [r10_0, r10_1, r10_3, r10_4, r10_5, r10_6, r10_7, r10_8, r10_9, r10_10, r10_11, r10_12, r10_13, r10_14, r10_15, r10_16, imul_eq, setW_0]
    exact (congrArg (fun z => some (some (vI z), I)) (put_eq (K := ixor (ishl 7 (3 * 0)) (-1)) (m := 3) (k := 0) (by omega) (by decide) (by simpa using hp) (by decide +kernel))).trans (by simp)
  · simp (disch := omega) only [r10_0, r10_1, r10_3, r10_4, r10_5, r10_6, r10_7, r10_8, r10_9, r10_10, r10_11, r10_12, r10_13, r10_14, r10_15, r10_16, imul_eq, setW_1]
    exact (congrArg (fun z => some (some (vI z), I)) (put_eq (K := ixor (ishl 7 (3 * 1)) (-1)) (m := 3) (k := 3) (by omega) (by decide) (by simpa using hp) (by decide +kernel))).trans (by simp)
  · simp (disch := omega) only [r10_0, r10_1, r10_3, r10_4, r10_5, r10_6, r10_7, r10_8, r10_9, r10_10, r10_11, r10_12, r10_13, r10_14, r10_15, r10_16, imul_eq, setW_2]
    exact (congrArg (fun z => some (some (vI z), I)) (put_eq (K := ixor (ishl 7 (3 * 2)) (-1)) (m := 3) (k := 6) (by omega) (by decide) (by simpa using hp) (by decide +kernel))).trans (by simp)
theorem x_withBoard (hc : 0 ≤ c ∧ c < 131072) (hw : 0 ≤ b ∧ b < 2) (hp : 0 ≤ p ∧ p < 16) : call (d + 1) 11 [vR 2, vI c, vI b, vI p] I = some (some (vI (setB c b p)), I) := by
  rw [en11]
  rcases b01 hw with rfl | rfl
  · simp (disch := omega) only [r11_0, r11_1, r11_3, r11_5, r11_6, r11_7, r11_8, r11_9, r11_10, r11_11, r11_12, r11_13, r11_14, r11_16, r11_17, r11_18, r11_19, r11_20, r11_21, r11_22, imul_eq, iadd_eq, setB_0]
    exact (congrArg (fun z => some (some (vI z), I)) (put_eq (K := ixor (ishl 15 (9 + 4 * 0)) (-1)) (m := 4) (k := 9) (by omega) (by decide) (by simpa using hp) (by decide +kernel))).trans (by simp)
  · simp (disch := omega) only [r11_0, r11_1, r11_3, r11_5, r11_6, r11_7, r11_8, r11_9, r11_10, r11_11, r11_12, r11_13, r11_14, r11_16, r11_17, r11_18, r11_19, r11_20, r11_21, r11_22, imul_eq, iadd_eq, setB_1]
    exact (congrArg (fun z => some (some (vI z), I)) (put_eq (K := ixor (ishl 15 (9 + 4 * 1)) (-1)) (m := 4) (k := 13) (by omega) (by decide) (by simpa using hp) (by decide +kernel))).trans (by simp)
end
section
variable {d : Nat} {I : MM} {c w b p v : Int}
theorem x_withWalker' (hc : 0 ≤ c ∧ c < 131072) (hw : 0 ≤ w ∧ w < 3) (hp : 0 ≤ p ∧ p < 8) : call (d + 1) 10 [vR 10, vI c, vI w, vI p] I = some (some (vI (setW c w p)), I) := by
  rw [en10a]
  rcases w012 hw with rfl | rfl | rfl
  · simp (disch := omega) only [r10_0, r10_1, r10_3, r10_4, r10_5, r10_6, r10_7, r10_8, r10_9, r10_10, r10_11, r10_12, r10_13, r10_14, r10_15, r10_16, imul_eq, setW_0]
    exact (congrArg (fun z => some (some (vI z), I)) (put_eq (K := ixor (ishl 7 (3 * 0)) (-1)) (m := 3) (k := 0) (by omega) (by decide) (by simpa using hp) (by decide +kernel))).trans (by simp)
  · simp (disch := omega) only [r10_0, r10_1, r10_3, r10_4, r10_5, r10_6, r10_7, r10_8, r10_9, r10_10, r10_11, r10_12, r10_13, r10_14, r10_15, r10_16, imul_eq, setW_1]
    exact (congrArg (fun z => some (some (vI z), I)) (put_eq (K := ixor (ishl 7 (3 * 1)) (-1)) (m := 3) (k := 3) (by omega) (by decide) (by simpa using hp) (by decide +kernel))).trans (by simp)
  · simp (disch := omega) only [r10_0, r10_1, r10_3, r10_4, r10_5, r10_6, r10_7, r10_8, r10_9, r10_10, r10_11, r10_12, r10_13, r10_14, r10_15, r10_16, imul_eq, setW_2]
    exact (congrArg (fun z => some (some (vI z), I)) (put_eq (K := ixor (ishl 7 (3 * 2)) (-1)) (m := 3) (k := 6) (by omega) (by decide) (by simpa using hp) (by decide +kernel))).trans (by simp)
theorem x_withBoard' (hc : 0 ≤ c ∧ c < 131072) (hw : 0 ≤ b ∧ b < 2) (hp : 0 ≤ p ∧ p < 16) : call (d + 1) 11 [vR 10, vI c, vI b, vI p] I = some (some (vI (setB c b p)), I) := by
  rw [en11a]
  rcases b01 hw with rfl | rfl
  · simp (disch := omega) only [r11_0, r11_1, r11_3, r11_5, r11_6, r11_7, r11_8, r11_9, r11_10, r11_11, r11_12, r11_13, r11_14, r11_16, r11_17, r11_18, r11_19, r11_20, r11_21, r11_22, imul_eq, iadd_eq, setB_0]
    exact (congrArg (fun z => some (some (vI z), I)) (put_eq (K := ixor (ishl 15 (9 + 4 * 0)) (-1)) (m := 4) (k := 9) (by omega) (by decide) (by simpa using hp) (by decide +kernel))).trans (by simp)
  · simp (disch := omega) only [r11_0, r11_1, r11_3, r11_5, r11_6, r11_7, r11_8, r11_9, r11_10, r11_11, r11_12, r11_13, r11_14, r11_16, r11_17, r11_18, r11_19, r11_20, r11_21, r11_22, imul_eq, iadd_eq, setB_1]
    exact (congrArg (fun z => some (some (vI z), I)) (put_eq (K := ixor (ishl 15 (9 + 4 * 1)) (-1)) (m := 4) (k := 13) (by omega) (by decide) (by simpa using hp) (by decide +kernel))).trans (by simp)
end
