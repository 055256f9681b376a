/-! The model's search: its state numbers, nextAct, begin, come, and the expansion of a state. -/
def mst (c : Int) : Int := ((wAt c 0 * 8 + wAt c 1) * 8 + wAt c 2) * 144 + lie (bAt c 0) * 12 + lie (bAt c 1)
theorem lie_b {g : G} {c b : Int} (hg : WG g) (hV : VC g c) (hb : 0 ≤ b ∧ b < 2) : 0 ≤ lie (bAt c b) ∧ lie (bAt c b) < 12 := by
  have hq := bAt_b c b; have hn := hg.nW3
  have h := hV.2.2.1 b hb.1 hb.2
  unfold lie; split
  · omega
  · by_cases h1 : b < g.nB
    · have := h.1 h1; omega
    · have := h.2 (by omega); omega
theorem lie_inj {g : G} {c e b : Int} (hg : WG g) (hV : VC g c) (hE : VC g e) (hb : 0 ≤ b ∧ b < 2) (h : lie (bAt c b) = lie (bAt e b)) : bAt c b = bAt e b := by
  have hq := bAt_b c b; have hq2 := bAt_b e b; have hn := hg.nW3
  have h1 := hV.2.2.1 b hb.1 hb.2; have h2 := hE.2.2.1 b hb.1 hb.2
  unfold lie at h
  by_cases h3 : b < g.nB
  · have := h1.1 h3; have := h2.1 h3
    split at h <;> split at h <;> omega
  · have := h1.2 (by omega); have := h2.2 (by omega); omega
theorem mst_b {g : G} {c : Int} (hg : WG g) (hV : VC g c) : 0 ≤ mst c ∧ mst c < 73728 := by
  have a0 := wAt_b c 0; have a1 := wAt_b c 1; have a2 := wAt_b c 2; have b0 := lie_b hg hV (b := 0) (by omega); have b1 := lie_b hg hV (b := 1) (by omega)
  unfold mst; omega
theorem mst_inj {g : G} {c e : Int} (hg : WG g) (hV : VC g c) (hE : VC g e) (h : mst c = mst e) : c = e := by
  have a0 := wAt_b c 0; have a1 := wAt_b c 1; have a2 := wAt_b c 2; have b0 := lie_b hg hV (b := 0) (by omega); have b1 := lie_b hg hV (b := 1) (by omega)
  have a0' := wAt_b e 0; have a1' := wAt_b e 1; have a2' := wAt_b e 2; have b0' := lie_b hg hE (b := 0) (by omega); have b1' := lie_b hg hE (b := 1) (by omega)
  unfold mst at h
  exact code_ext hV.c hE.c (by omega) (by omega) (by omega) (lie_inj hg hV hE (by omega) (by omega)) (lie_inj hg hV hE (by omega) (by omega))
def memTS (I : MM) (q : Int) : MM := mset (mset (mset (mset (mset I 78 1 (q % 12)) 78 0 (q / 12 % 12)) 77 2 (q / 12 / 12 % 8)) 77 1 (q / 12 / 12 / 8 % 8)) 77 0 (q / 12 / 12 / 8 / 8 % 8)
theorem memTS_fr (I : MM) (q : Int) : Fr7 I (memTS I q) := by
  intro a i h1 h2 h3 h4
  simp [memTS, mset_at, h1, h2]
theorem memTS_MS {I : MM} {g : G} {c : Int} (hg : WG g) (hV : VC g c) : MS (memTS I (mst c)) g c := by
  have a0 := wAt_b c 0; have a1 := wAt_b c 1; have a2 := wAt_b c 2; have b0 := lie_b hg hV (b := 0) (by omega); have b1 := lie_b hg hV (b := 1) (by omega)
  have hn := hg.nW3; have hb := hg.nB2
  have e1 : mst c % 12 = lie (bAt c 1) := by unfold mst; omega
  have e2 : mst c / 12 % 12 = lie (bAt c 0) := by unfold mst; omega
  have e3 : mst c / 12 / 12 % 8 = wAt c 2 := by unfold mst; omega
  have e4 : mst c / 12 / 12 / 8 % 8 = wAt c 1 := by unfold mst; omega
  have e5 : mst c / 12 / 12 / 8 / 8 % 8 = wAt c 0 := by unfold mst; omega
  refine ⟨fun w w0 w1 => ?_, fun b e0 e6 => ?_⟩
  · rcases w012 (w := w) (by omega) with rfl | rfl | rfl <;> simp [memTS, mset_at, e3, e4, e5]
  · rcases b01 (b := b) (by omega) with rfl | rfl <;> simp [memTS, mset_at, e1, e2]
/-- what the model's searches change -/
def MF (I J : MM) : Prop := (∀ a i, a < 70 ∨ (70 < a ∧ a < 77) ∨ 83 < a → J a i = I a i) ∧ (∀ i, ¬ ((9 ≤ i ∧ i ≤ 12) ∨ i = 18) → J 70 i = I 70 i)
theorem MF.refl (I : MM) : MF I I := ⟨fun _ _ _ => rfl, fun _ _ => rfl⟩
theorem MF.trans {I J K : MM} (h1 : MF I J) (h2 : MF J K) : MF I K := ⟨fun a i q => (h2.1 a i q).trans (h1.1 a i q), fun i q => (h2.2 i q).trans (h1.2 i q)⟩
theorem Fr8.mf {I J : MM} (h : Fr8 I J) : MF I J := ⟨fun a i q => h a i (by omega) (by omega) (by omega) (by omega) (by omega), fun i q => h 70 i (by omega) (by omega) (by omega) (by omega) (by omega)⟩
theorem MF.RG {I J : MM} {g : G} (h : MF I J) (hR : RG I g) : RG J g := hR.cong (fun i => h.1 71 i (by omega))
theorem MF.out {I J : MM} (f : MF I J) : OUT MC I J := fun a ha i => f.1 a i (by
  rcases Nat.lt_or_ge a 70 with h | h
  · exact Or.inl h
  · rcases Nat.lt_or_ge 88 a with h2 | h2
    · exact Or.inr (Or.inr (by omega))
    · exfalso; apply ha; simp; omega)
theorem MR.mf {I J : MM} {s : ST} (hO : OK s) (f : MF I J) (h : MR I s) : MR J s :=
  h.scr hO (fun i => f.1 _ i (by omega)) (fun i => f.1 _ i (by omega)) (fun i => f.1 _ i (by omega)) (fun i => f.1 _ i (by omega)) (fun i => f.1 _ i (by omega)) (fun i => f.1 _ i (by omega)) (fun i => f.1 _ i (by omega)) (f.2 6 (by omega)) (f.2 20 (by omega))
/-- the model's queue -/
def MQu (I : MM) (g : G) (Q : List QE) : Prop := I 70 18 = (Q.length : Int) ∧ (∀ i : Nat, i < Q.length → I 82 (i : Int) = mst (qc Q i) ∧ I 81 (mst (qc Q i)) = qd Q i) ∧ (∀ c, VC g c → ¬ inQ Q c → I 81 (mst c) = -1)
theorem MQu.cong {I J : MM} {g : G} {Q : List QE} (h : MQu I g Q) (e1 : J 70 18 = I 70 18) (e2 : ∀ i, J 82 i = I 82 i) (e3 : ∀ i, J 81 i = I 81 i) : MQu J g Q :=
  ⟨e1.trans h.1, fun i hi => ⟨(e2 _).trans (h.2.1 i hi).1, (e3 _).trans (h.2.1 i hi).2⟩, fun c hc hn => (e3 _).trans (h.2.2 c hc hn)⟩
theorem QI.mlen {g : G} {Q : List QE} {c : Int} (hg : WG g) (h : QI g Q) (hc : VC g c) (hn : ¬ inQ Q c) : Q.length < 73728 := by
  have inj : ∀ (l : List Int), l.Nodup → (∀ x, x ∈ l → VC g x) → (l.map mst).Nodup := by
    intro l
    induction l with
    | nil => intro _ _; simp
    | cons x l ih =>
      intro h1 h2
      rw [List.nodup_cons] at h1
      rw [List.map_cons, List.nodup_cons]
      refine ⟨fun hm => ?_, ih h1.2 (fun y hy => h2 y (List.mem_cons_of_mem _ hy))⟩
      obtain ⟨y, hy, e⟩ := List.mem_map.mp hm
      have := mst_inj hg (h2 y (List.mem_cons_of_mem _ hy)) (h2 x List.mem_cons_self) e
      exact h1.1 (this ▸ hy)
  have hall : ∀ x, x ∈ (c :: Q.map Prod.fst) → VC g x := fun x hx => by
    rcases List.mem_cons.mp hx with rfl | hx
    · exact hc
    · obtain ⟨i, hi, rfl⟩ := inQ_iff.mp hx
      exact h.1 i hi
  have := len_le (N := 73728) ((c :: Q.map Prod.fst).map mst) (inj _ (List.nodup_cons.mpr ⟨hn, h.2⟩) hall) (fun x hx => by
    obtain ⟨y, hy, rfl⟩ := List.mem_map.mp hx
    have := mst_b hg (hall y hy); omega)
  simp at this
  omega
theorem QI.mlen' {g : G} {Q : List QE} (hg : WG g) (h : QI g Q) : Q.length ≤ 73728 := by
  have inj : ∀ (l : List Int), l.Nodup → (∀ x, x ∈ l → VC g x) → (l.map mst).Nodup := by
    intro l
    induction l with
    | nil => intro _ _; simp
    | cons x l ih =>
      intro h1 h2
      rw [List.nodup_cons] at h1
      rw [List.map_cons, List.nodup_cons]
      refine ⟨fun hm => ?_, ih h1.2 (fun y hy => h2 y (List.mem_cons_of_mem _ hy))⟩
      obtain ⟨y, hy, e⟩ := List.mem_map.mp hm
      have := mst_inj hg (h2 y (List.mem_cons_of_mem _ hy)) (h2 x List.mem_cons_self) e
      exact h1.1 (this ▸ hy)
  have hall : ∀ x, x ∈ (Q.map Prod.fst) → VC g x := fun x hx => by
    obtain ⟨i, hi, rfl⟩ := inQ_iff.mp hx
    exact h.1 i hi
  have := len_le (N := 73728) ((Q.map Prod.fst).map mst) (inj _ h.2 hall) (fun x hx => by
    obtain ⟨y, hy, rfl⟩ := List.mem_map.mp hx
    have := mst_b hg (hall y hy); omega)
  simpa using this
section
variable {d : Nat} {I J K : MM} {s : ST} {g : G} {a c w x y b p v i m f : Int} {Q : List QE}
theorem m_stateNow (hR : RG I g) (hM : MS I g c) (hg : WG g) (hV : VC g c) : call (d + 2) 199 [vR 70] I = some (some (vI (mst c)), I) := by
  have a0 := wAt_b c 0; have a1 := wAt_b c 1; have a2 := wAt_b c 2; have b0 := lie_b hg hV (b := 0) (by omega); have b1 := lie_b hg hV (b := 1) (by omega)
  have e0 := hM.1 0 (by omega); have e1 := hM.1 1 (by omega); have e2 := hM.1 2 (by omega)
  have f0 := hM.2 0 (by omega); have f1 := hM.2 1 (by omega)
  have z0 := hV.wz (w := 0) (by omega) (by omega); have z1 := hV.wz (w := 1) (by omega) (by omega); have z2 := hV.wz (w := 2) (by omega) (by omega)
  have y0 : g.nB ≤ 0 → lie (bAt c 0) = 0 := fun h => by rw [hV.bz (by omega) (by omega) h]; rfl
  have y1 : g.nB ≤ 1 → lie (bAt c 1) = 0 := fun h => by rw [hV.bz (by omega) (by omega) h]; rfl
  rw [en199]
  have fin : ∀ u v : Int, u = v → (some (some (vI u), I) : Option RES) = some (some (vI v), I) := fun u v h => by rw [h]
  rcases hg.nWc with hn | hn | hn | hn <;> rcases hg.nBc with hb | hb | hb <;>
    simp (disch := omega) only [r199_0, r199_1, r199_2, r199_3, r199_4, r199_5, r199_6, r199_9, r199_11, r199_12, r199_13, r199_14, r199_15, r199_18, r199_21, r199_22, r199_25, r199_26, r199_27, r199_30, r199_31, r199_32, r199_33, r199_36, r199_39, r199_40, r199_41, r199_42, r199_43, r199_46, r199_48, r199_49, r199_50, r199_51, r199_52, r199_55, r199_58, r199_59, r199_62, r199_63, r199_64, r199_67, r199_68, r199_69, r199_70, r199_73, r199_76, r199_77, ↓if_pos, ↓if_neg, m_walkers hR, m_boards hR, e0, e1, e2, f0, f1, imul_eq, iadd_eq, Int.reduceAdd, Option.bind_some, pushR_s] <;>
    refine fin _ _ ?_ <;> unfold mst <;> omega
theorem m_takeState (hq : 0 ≤ x ∧ x < 73728) : call (d + 1) 200 [vR 70, vI x] I = some (none, memTS I x) := by
  rw [en200]
  have q1 : 0 ≤ x / 12 ∧ x / 12 < 73728 := by omega
  have q2 : 0 ≤ x / 12 / 12 ∧ x / 12 / 12 < 73728 := by omega
  have q3 : 0 ≤ x / 12 / 12 / 8 ∧ x / 12 / 12 / 8 < 73728 := by omega
  have q4 : 0 ≤ x / 12 / 12 / 8 / 8 ∧ x / 12 / 12 / 8 / 8 < 73728 := by omega
  simp (disch := omega) only [r200_0, r200_1, r200_2, r200_3, r200_4, r200_5, r200_8, r200_9, r200_12, r200_13, r200_14, r200_16, r200_17, r200_18, r200_19, r200_21, r200_22, r200_23, r200_26, r200_29, r200_30, r200_31, r200_32, r200_35, r200_36, r200_39, r200_40, r200_41, r200_43, r200_44, r200_45, r200_46, r200_48, r200_49, r200_50, r200_53, r200_56, ↓if_pos, ↓if_neg, irem_eq, idiv_eq, iadd_eq, Int.reduceAdd]
  rfl
/-- the next act that is one -/
def nxA (g : G) (b r : Int) : Prop := (r = 2048 ∧ ∀ e, b ≤ e → e < 1024 → ¬ sucha g e) ∨ (b ≤ r ∧ r < 1024 ∧ sucha g r ∧ ∀ e, b ≤ e → e < r → ¬ sucha g e)
theorem nxA.skip {b b' r : Int} (h : nxA g b' r) (hb : b ≤ b') (hn : ∀ e, b ≤ e → e < b' → e < 1024 → ¬ sucha g e) : nxA g b r := by
  rcases h with ⟨h1, h2⟩ | ⟨h1, h2, h3, h4⟩
  · refine Or.inl ⟨h1, fun e e0 e1 => ?_⟩
    rcases Int.lt_or_le e b' with h | h
    · exact hn e e0 h e1
    · exact h2 e h e1
  · refine Or.inr ⟨by omega, h2, h3, fun e e0 e1 => ?_⟩
    rcases Int.lt_or_le e b' with h | h
    · exact hn e e0 h (by omega)
    · exact h4 e h e1
theorem not_such_y {e : Int} (he : e / 64 = a / 64) (hx : e / 8 % 8 = a / 8 % 8) (hy : 2 ≤ a % 8) (hye : a % 8 ≤ e % 8) (hn : ¬ sucha g a) : ¬ sucha g e := by
  intro h
  apply hn
  have k1 : e / 256 = a / 256 := by omega
  have k2 : e / 64 % 4 = a / 64 % 4 := by omega
  obtain ⟨h1, h2⟩ := h
  rw [k1, hx] at h2
  refine ⟨by omega, ?_⟩
  by_cases q : a / 256 = 0 ∨ a / 256 = 4
  · rw [if_pos q] at h2; omega
  · rw [if_neg q] at h2 ⊢
    refine ⟨h2.1, ?_⟩
    have h3 := h2.2
    by_cases q1 : a / 256 = 1
    · rw [if_pos q1] at h3; omega
    · rw [if_neg q1] at h3 ⊢
      by_cases q2 : a / 256 = 2
      · rw [if_pos q2] at h3; omega
      · rw [if_neg q2] at h3 ⊢; omega
theorem not_such_x {e : Int} (hg : WG g) (hx : 2 ≤ e / 8 % 8) : ¬ sucha g e := by
  have hb := hg.nB2
  intro h
  have h2 := h.2
  by_cases q : e / 256 = 0 ∨ e / 256 = 4
  · rw [if_pos q] at h2; omega
  · rw [if_neg q] at h2; omega
def AFr (I J : MM) : Prop := ∀ a i, ¬ (a = 70 ∧ 9 ≤ i ∧ i ≤ 12) → J a i = I a i
theorem AFr.trans (h1 : AFr I J) (h2 : AFr J K) : AFr I K := fun a i q => (h2 a i q).trans (h1 a i q)
theorem AFr.mf (h : AFr I J) : MF I J := ⟨fun a i q => h a i (by omega), fun i q => h 70 i (by omega)⟩
theorem memS_afr (I : MM) (a : Int) : AFr I (memS I a) := by
  intro b i h
  simp only [memS, mset_at]
  rw [if_neg (by omega), if_neg (by omega), if_neg (by omega), if_neg (by omega)]
theorem nextAct_loop (hg : WG g) (x1 : Int) : ∀ (n : Nat) (b : Int) (J : MM), 1024 - b ≤ n → 0 ≤ b → b ≤ 1024 → RG J g → ∃ K r, runs (call (d + 3)) 201 4 [vR 70, vI x1, vI b] [] J = some (some (vI r), K) ∧ AFr J K ∧ nxA g b r := by
  intro n
  induction n with
  | zero =>
    intro b J hn b0 b1 hR
    refine ⟨J, 2048, ?_, fun _ _ _ => rfl, Or.inl ⟨rfl, fun e e0 e1 => by omega⟩⟩
    simp (disch := omega) only [r201_0, r201_1, r201_2, r201_3, r201_4, r201_5, r201_8, r201_11, r201_12, r201_13, r201_16, r201_17, r201_20, r201_23, r201_24, r201_25, r201_26, r201_29, r201_30, r201_33, r201_34, r201_35, r201_36, r201_39, r201_40, r201_43, r201_44, r201_47, r201_48, r201_49, r201_52, r201_53, r201_55, r201_56, r201_59, r201_60, r201_62, r201_63, r201_65, r201_66, r201_68, r201_69, r201_70, r201_73, r201_76, ↓if_pos, ↓if_neg]
  | succ n ih =>
    intro b J hn b0 b1 hR
    push_cast at hn
    by_cases hb : b < 1024
    · have hR2 : RG (memS J b) g := hR.cong (fun i => memS_afr J b 71 i (by omega))
      have hT := m_isThere (d := d) hR2 hg AF_memS (by omega) (by omega) (by omega) (by omega)
      have f11 : memS J b 70 11 = b / 8 % 8 := AF_memS.2.2.1
      have f12 : memS J b 70 12 = b % 8 := AF_memS.2.2.2
      by_cases hs : sucha g b
      · rw [if_pos hs] at hT
        refine ⟨memS J b, b, ?_, memS_afr J b, Or.inr ⟨by omega, hb, hs, fun e e0 e1 => by omega⟩⟩
        clear hs
        simp (disch := omega) only [r201_0, r201_1, r201_2, r201_3, r201_4, r201_5, r201_8, r201_11, r201_12, r201_13, r201_16, r201_17, r201_20, r201_23, r201_24, r201_25, r201_26, r201_29, r201_30, r201_33, r201_34, r201_35, r201_36, r201_39, r201_40, r201_43, r201_44, r201_47, r201_48, r201_49, r201_52, r201_53, r201_55, r201_56, r201_59, r201_60, r201_62, r201_63, r201_65, r201_66, r201_68, r201_69, r201_70, r201_73, r201_76, ↓if_pos, ↓if_neg, m_split, hT, Option.bind_some, pushR_s, pushR_n]
      · rw [if_neg hs] at hT
        by_cases hy : b % 8 < 2
        · obtain ⟨K, r, k1, k2, k3⟩ := ih (b + 1) (memS J b) (by omega) (by omega) (by omega) hR2
          refine ⟨K, r, Eq.trans ?_ k1, (memS_afr J b).trans k2, k3.skip (by omega) (fun e e0 e1 _ => by have : e = b := by omega
                                                                                                         rw [this]; exact hs)⟩
          clear hs
          rw [r201_4]
          simp (disch := omega) only [r201_0, r201_1, r201_2, r201_3, r201_5, r201_8, r201_11, r201_12, r201_13, r201_16, r201_17, r201_20, r201_23, r201_24, r201_25, r201_26, r201_29, r201_30, r201_33, r201_34, r201_35, r201_36, r201_39, r201_40, r201_43, r201_44, r201_47, r201_48, r201_49, r201_52, r201_53, r201_55, r201_56, r201_59, r201_60, r201_62, r201_63, r201_65, r201_66, r201_68, r201_69, r201_70, r201_73, r201_76, ↓if_pos, ↓if_neg, m_split, hT, f11, f12, iadd_eq, Option.bind_some, pushR_s, pushR_n]
        · by_cases hx : b / 8 % 8 < 1
          · obtain ⟨K, r, k1, k2, k3⟩ := ih (b - b % 8 + 8) (memS J b) (by omega) (by omega) (by omega) hR2
            refine ⟨K, r, Eq.trans ?_ k1, (memS_afr J b).trans k2, k3.skip (by omega) (fun e e0 e1 _ => not_such_y (by omega) (by omega) (by omega) (by omega) hs)⟩
            clear hs
            rw [r201_4]
            simp (disch := omega) only [r201_0, r201_1, r201_2, r201_3, r201_5, r201_8, r201_11, r201_12, r201_13, r201_16, r201_17, r201_20, r201_23, r201_24, r201_25, r201_26, r201_29, r201_30, r201_33, r201_34, r201_35, r201_36, r201_39, r201_40, r201_43, r201_44, r201_47, r201_48, r201_49, r201_52, r201_53, r201_55, r201_56, r201_59, r201_60, r201_62, r201_63, r201_65, r201_66, r201_68, r201_69, r201_70, r201_73, r201_76, ↓if_pos, ↓if_neg, m_split, hT, f11, f12, iadd_eq, isub_eq, Option.bind_some, pushR_s, pushR_n]
          · obtain ⟨K, r, k1, k2, k3⟩ := ih (b / 64 * 64 + 64) (memS J b) (by omega) (by omega) (by omega) hR2
            refine ⟨K, r, Eq.trans ?_ k1, (memS_afr J b).trans k2, k3.skip (by omega) (fun e e0 e1 _ => ?_)⟩
            · clear hs
              rw [r201_4]
              simp (disch := omega) only [r201_0, r201_1, r201_2, r201_3, r201_5, r201_8, r201_11, r201_12, r201_13, r201_16, r201_17, r201_20, r201_23, r201_24, r201_25, r201_26, r201_29, r201_30, r201_33, r201_34, r201_35, r201_36, r201_39, r201_40, r201_43, r201_44, r201_47, r201_48, r201_49, r201_52, r201_53, r201_55, r201_56, r201_59, r201_60, r201_62, r201_63, r201_65, r201_66, r201_68, r201_69, r201_70, r201_73, r201_76, ↓if_pos, ↓if_neg, m_split, hT, f11, f12, idiv_eq, imul_eq, iadd_eq, Option.bind_some, pushR_s, pushR_n]
            · rcases Int.lt_or_le (e / 8 % 8) 2 with h | h
              · exact not_such_y (a := b) (by omega) (by omega) (by omega) (by omega) hs
              · exact not_such_x hg h
    · refine ⟨J, 2048, ?_, fun _ _ _ => rfl, Or.inl ⟨rfl, fun e e0 e1 => by omega⟩⟩
      simp (disch := omega) only [r201_0, r201_1, r201_2, r201_3, r201_4, r201_5, r201_8, r201_11, r201_12, r201_13, r201_16, r201_17, r201_20, r201_23, r201_24, r201_25, r201_26, r201_29, r201_30, r201_33, r201_34, r201_35, r201_36, r201_39, r201_40, r201_43, r201_44, r201_47, r201_48, r201_49, r201_52, r201_53, r201_55, r201_56, r201_59, r201_60, r201_62, r201_63, r201_65, r201_66, r201_68, r201_69, r201_70, r201_73, r201_76, ↓if_pos, ↓if_neg]
theorem m_nextAct (hg : WG g) (hR : RG I g) (ha : -1 ≤ a ∧ a < 1024) : ∃ K r, call (d + 4) 201 [vR 70, vI a] I = some (some (vI r), K) ∧ AFr I K ∧ nxA g (a + 1) r := by
  obtain ⟨K, r, k1, k2, k3⟩ := nextAct_loop (d := d) hg a 1024 (a + 1) I (by omega) (by omega) (by omega) hR
  refine ⟨K, r, ?_, k2, k3⟩
  rw [en201, ← k1]
  simp (disch := omega) only [r201_0, r201_1, r201_2, r201_3, r201_5, r201_8, r201_11, r201_12, r201_13, r201_16, r201_17, r201_20, r201_23, r201_24, r201_25, r201_26, r201_29, r201_30, r201_33, r201_34, r201_35, r201_36, r201_39, r201_40, r201_43, r201_44, r201_47, r201_48, r201_49, r201_52, r201_53, r201_55, r201_56, r201_59, r201_60, r201_62, r201_63, r201_65, r201_66, r201_68, r201_69, r201_70, r201_73, r201_76, iadd_eq]
/-! begin and come -/
theorem begin_loop (x1 : Int) : ∀ (n : Nat) (k : Int) (J : MM), k + n = 73728 → 0 ≤ k → (∀ j, 0 ≤ j → j < k → J 81 j = -1) → ∃ K, runs (call d) 202 2 [vR 70, vI x1, vI k] [] J = runs (call d) 202 21 [vR 70, vI x1, vI 73728] [] K ∧ (∀ j, 0 ≤ j → j < 73728 → K 81 j = -1) ∧ (∀ a, a ≠ 81 → ∀ j, K a j = J a j) := by
  intro n
  induction n with
  | zero =>
    intro k J hk k0 h
    have : k = 73728 := by omega
    subst this
    refine ⟨J, ?_, h, fun _ _ _ => rfl⟩
    simp (disch := omega) only [r202_0, r202_1, r202_2, r202_3, r202_5, r202_8, r202_9, r202_12, r202_13, r202_14, r202_15, r202_18, r202_22, r202_25, r202_26, r202_27, r202_28, r202_29, r202_32, r202_33, r202_34, r202_35, r202_36, r202_37, r202_40, ↓if_pos, ↓if_neg]
  | succ n ih =>
    intro k J hk k0 h
    push_cast at hk
    obtain ⟨K, k1, k2, k3⟩ := ih (k + 1) (mset J 81 k (-1)) (by omega) (by omega) (fun j j0 j1 => by
      rw [mset_at]; by_cases hj : j = k
      · rw [if_pos ⟨rfl, hj⟩]
      · rw [if_neg (fun q => hj q.2)]; exact h j j0 (by omega))
    refine ⟨K, Eq.trans ?_ k1, k2, fun a ha j => by rw [k3 a ha j, mset_at, if_neg (fun q => ha q.1)]⟩
    rw [r202_2]
    simp (disch := omega) only [r202_0, r202_1, r202_3, r202_5, r202_8, r202_9, r202_12, r202_13, r202_14, r202_15, r202_18, r202_22, r202_25, r202_26, r202_27, r202_28, r202_29, r202_32, r202_33, r202_34, r202_35, r202_36, r202_37, r202_40, ↓if_pos, ↓if_neg, iadd_eq]
end
