/-! The rule: the whole of it, in both; fault. -/
section
variable {d : Nat} {I J K : MM} {r L : Int → Int} {a b v : Int} {s : ST}
theorem s_all (h : RB r) : ((pR r).2.1 = -1 → ∃ a' v, RUN r L (0, -1, [], [], 0, 1, 1) (a', -1, [v], [], 0, 0, 0) ∧ evU L (pR r).2.2 = [v]) ∧ ((pR r).2.1 ≠ -1 → BRc r L (0, -1, [], [], 0, 1, 1) (pR r).2.1) ∧ PB r (pR r) := by
  have h40 := h.1
  obtain ⟨b1, g1, g2⟩ := s_pV (L := L) h 8 (Nat.le_refl _) p0 0 [] [] 0 (p0_b h) rfl ⟨by omega, h40.1⟩ rfl (by decide) topOK_n
  rw [show (8 : Int) - ((8 : Nat) : Int) = 0 by omega] at g1 g2
  have e0 : evU L p0.2.2 = [] := rfl
  rw [e0] at g1
  unfold pR
  generalize pV r 8 p0 = q at *
  by_cases hq : q.2.1 = -1
  · obtain ⟨hlt, a', V', S', v, R, a2, s2, w2, ev2, l2, nx⟩ := g1 hq
    have hq1 := b1.1
    have e1 : (nA r q).1 = sk r q.1 := nA_sk hq
    have e2 : (nA r q).2 = q.2 := nA_2
    have ec : nC r q = chr r (sk r a') := by rw [nC_sk hq, s2]
    by_cases hc : nC r q = -1
    · rw [if_pos hc]
      refine ⟨fun _ => ⟨_, v, R.trans (u_end h a2 (by omega) (by omega) (by rw [← ec]; exact hc) w2), by rw [e2]; exact ev2⟩, fun z => absurd (by rw [e2]; exact hq) z, nA_b h b1⟩
    · rw [if_neg hc]
      have hbk : (brk 1 (nA r q)).2.1 = 10 * sk r q.1 + 1 := by
        unfold brk; rw [if_pos (by rw [e2]; exact hq)]; show 10 * (nA r q).1 + 1 = _; rw [e1]
      have hsb := sk_b (t := r) b1.1
      refine ⟨fun z => by rw [hbk] at z; omega, fun _ => ?_, brk_b (nA_b h b1) (by omega)⟩
      rw [hbk, ← s2]
      rcases nx with nx | ⟨n3, V3, s3, S3, w3, t3⟩
      · have h0 := rk_b (c := chr r (sk r a'))
        exact ⟨_, _, _, _, _, R.trans (u_else h a2 (by omega) (by omega) (by omega) (fun z => hc (by rw [ec]; exact z.1)))⟩
      · exact ⟨_, _, _, _, _, R.trans (u_op3 h a2 (by omega) (by omega) n3 w3 t3)⟩
  · rw [nC_br hq, if_pos rfl, nA_br hq]
    exact ⟨fun z => absurd z hq, g2, b1⟩
theorem m_reads (h : RB r) (hR : RMf (I 71) r) (hL : LM I L) : ∃ K, call (d + 4) 246 [vR 70] I = some (some (vI (if (pR r).2.1 = -1 then 1 else 0)), K) ∧ K 70 30 = (pR r).2.1 ∧ ((pR r).2.1 = -1 → K 70 36 = (evU L (pR r).2.2).headD 0) ∧ FrT I K := by
  obtain ⟨g1, g2, -⟩ := s_all (L := L) h
  have f0 : FrT I (mset (mset (mset (mset I 70 29 0) 70 30 (-1)) 70 32 0) 70 34 0) := (((FrT.set _ (by omega)).trans (FrT.set _ (by omega))).trans (FrT.set _ (by omega))).trans (FrT.set _ (by omega))
  have q0 : TQ r (mset (mset (mset (mset I 70 29 0) 70 30 (-1)) 70 32 0) 70 34 0) 0 (-1) [] [] := by
    refine ⟨hR, ?_, ?_, ⟨?_, trivial⟩, ?_, trivial⟩ <;> simp [mset_at]
  have hst : call (d + 4) 246 [vR 70] I = runs (call (d + 3)) 246 26 [vR 70, vI 0, vI 1, vI 1, vR 0] [] (mset (mset (mset (mset I 70 29 0) 70 30 (-1)) 70 32 0) 70 34 0) := by
    rw [en246]
    simp (disch := omega) only [r246_0, r246_1, r246_2, r246_5, r246_6, r246_7, r246_10, r246_11, r246_12, r246_15, r246_16, r246_17, r246_20, r246_21, r246_22, r246_23, r246_24, r246_25, r246_27, r246_30, r246_31, r246_34, r246_35, r246_38, r246_39, r246_42, r246_44, r246_45, r246_48, r246_50, r246_53, r246_56, r246_57, r246_58, r246_61, r246_64, r246_65, r246_66, r246_69, r246_71, r246_74, r246_75, r246_78, r246_79, r246_80, r246_83, r246_84, r246_85, r246_88, r246_89, r246_90, r246_93, r246_95, r246_98, r246_99, r246_102, r246_103, r246_104, r246_107, r246_109, r246_111, r246_114, r246_116, r246_118, r246_121, r246_122, r246_123, r246_126, r246_127, r246_128, r246_131, r246_132, r246_135, r246_136, r246_139, r246_141, r246_143, r246_146, r246_149, r246_152, r246_155, r246_156, r246_157, r246_158, r246_161, r246_162, r246_163, r246_166, r246_169, r246_171, r246_173, r246_176, r246_177, r246_179, r246_182, r246_183, r246_184, r246_187, r246_188, r246_189, r246_192, r246_195, r246_196, r246_199, r246_200, r246_203, r246_206, r246_207, r246_208, r246_209, r246_212, r246_213, r246_214, r246_217, r246_220, r246_221, r246_223, r246_224, r246_227, r246_228, r246_230, r246_232, r246_235, r246_236, r246_239, r246_240, r246_241, r246_244, r246_247, r246_249, r246_251, r246_254, r246_255, r246_258, r246_259, r246_260, r246_263, r246_264, r246_265, r246_268, r246_271, r246_272, r246_273, r246_276, r246_277, r246_278, r246_281, r246_282, r246_283, r246_286, r246_287, r246_288, r246_291, r246_292, r246_293, r246_296, r246_297, r246_298, r246_301, r246_302, r246_305, r246_306, r246_309, r246_312, r246_314, r246_317, r246_320, r246_321, r246_323, r246_326, r246_327, r246_330, r246_331, r246_334, r246_336, r246_339, r246_342, r246_344, r246_347, r246_348, r246_351, r246_352, r246_355, r246_358, r246_359, r246_362, r246_363, r246_366, r246_367, r246_368, r246_369, r246_372, r246_375, r246_376, r246_379, r246_380, r246_383, r246_384, r246_385, r246_386, r246_389, r246_390, r246_393, r246_394, r246_396, r246_397, r246_400, r246_401, r246_402, r246_403, r246_406, r246_409, r246_410, r246_411, r246_414, r246_415, r246_416, r246_419, r246_420, r246_423, r246_424, r246_427, r246_429, r246_430, r246_431, r246_432, r246_435, r246_436, r246_437, r246_440, r246_441, r246_442, r246_445, r246_447, r246_448, r246_451, r246_452, r246_455, r246_456, r246_457, r246_460, r246_461, r246_462, r246_465, r246_466, r246_468, r246_469, r246_472, r246_473, r246_474, r246_475, r246_478, r246_481, r246_482, r246_483, r246_486, r246_487, r246_490, r246_491, r246_494, r246_495, r246_496, r246_499, r246_500, r246_503, r246_504, r246_507, r246_508, r246_511, r246_512, r246_515, r246_516]
  generalize mset (mset (mset (mset I 70 29 0) 70 30 (-1)) 70 32 0) 70 34 0 = J at *
  by_cases hp : (pR r).2.1 = -1
  · obtain ⟨a', v, R, ev⟩ := g1 hp
    obtain ⟨K, u4, c1, q1, f1⟩ := R d J (vR 0) (f0.L hL) q0
    have q1' : TQ r K a' (-1) [v] [] := q1
    have e30 : K 70 30 = -1 := q1'.2.2.1
    have e0 : K 86 0 = v := q1'.2.2.2.1.2.1
    rw [if_pos hp]
    refine ⟨mset K 70 36 v, ?_, ?_, fun _ => ?_, (f0.trans f1).trans (FrT.set _ (by omega))⟩
    · rw [hst, c1]
      clear q0 q1 q1' g1 g2 R c1
      simp (disch := omega) only [r246_0, r246_1, r246_2, r246_5, r246_6, r246_7, r246_10, r246_11, r246_12, r246_15, r246_16, r246_17, r246_20, r246_21, r246_22, r246_23, r246_24, r246_25, r246_26, r246_27, r246_30, r246_31, r246_34, r246_35, r246_38, r246_39, r246_42, r246_44, r246_45, r246_48, r246_50, r246_53, r246_56, r246_57, r246_58, r246_61, r246_64, r246_65, r246_66, r246_69, r246_71, r246_74, r246_75, r246_78, r246_79, r246_80, r246_83, r246_84, r246_85, r246_88, r246_89, r246_90, r246_93, r246_95, r246_98, r246_99, r246_102, r246_103, r246_104, r246_107, r246_109, r246_111, r246_114, r246_116, r246_118, r246_121, r246_122, r246_123, r246_126, r246_127, r246_128, r246_131, r246_132, r246_135, r246_136, r246_139, r246_141, r246_143, r246_146, r246_149, r246_152, r246_155, r246_156, r246_157, r246_158, r246_161, r246_162, r246_163, r246_166, r246_169, r246_171, r246_173, r246_176, r246_177, r246_179, r246_182, r246_183, r246_184, r246_187, r246_188, r246_189, r246_192, r246_195, r246_196, r246_199, r246_200, r246_203, r246_206, r246_207, r246_208, r246_209, r246_212, r246_213, r246_214, r246_217, r246_220, r246_221, r246_223, r246_224, r246_227, r246_228, r246_230, r246_232, r246_235, r246_236, r246_239, r246_240, r246_241, r246_244, r246_247, r246_249, r246_251, r246_254, r246_255, r246_258, r246_259, r246_260, r246_263, r246_264, r246_265, r246_268, r246_271, r246_272, r246_273, r246_276, r246_277, r246_278, r246_281, r246_282, r246_283, r246_286, r246_287, r246_288, r246_291, r246_292, r246_293, r246_296, r246_297, r246_298, r246_301, r246_302, r246_305, r246_306, r246_309, r246_312, r246_314, r246_317, r246_320, r246_321, r246_323, r246_326, r246_327, r246_330, r246_331, r246_334, r246_336, r246_339, r246_342, r246_344, r246_347, r246_348, r246_351, r246_352, r246_355, r246_358, r246_359, r246_362, r246_363, r246_366, r246_367, r246_368, r246_369, r246_372, r246_375, r246_376, r246_379, r246_380, r246_383, r246_384, r246_385, r246_386, r246_389, r246_390, r246_393, r246_394, r246_396, r246_397, r246_400, r246_401, r246_402, r246_403, r246_406, r246_409, r246_410, r246_411, r246_414, r246_415, r246_416, r246_419, r246_420, r246_423, r246_424, r246_427, r246_429, r246_430, r246_431, r246_432, r246_435, r246_436, r246_437, r246_440, r246_441, r246_442, r246_445, r246_447, r246_448, r246_451, r246_452, r246_455, r246_456, r246_457, r246_460, r246_461, r246_462, r246_465, r246_466, r246_468, r246_469, r246_472, r246_473, r246_474, r246_475, r246_478, r246_481, r246_482, r246_483, r246_486, r246_487, r246_490, r246_491, r246_494, r246_495, r246_496, r246_499, r246_500, r246_503, r246_504, r246_507, r246_508, r246_511, r246_512, r246_515, r246_516, ↓if_pos, ↓if_neg, e30, e0, mset_at]
    · rw [mset_at, if_neg (by omega), hp]; exact e30
    · rw [mset_at, if_pos ⟨rfl, rfl⟩, ev]; rfl
  · obtain ⟨a', V', S', o', w', R⟩ := g2 hp
    obtain ⟨K, u4, c1, q1, f1⟩ := R d J (vR 0) (f0.L hL) q0
    have q1' : TQ r K a' (pR r).2.1 V' S' := q1
    have e30 : K 70 30 = (pR r).2.1 := q1'.2.2.1
    rw [if_neg hp]
    refine ⟨mset K 70 36 0, ?_, ?_, fun z => absurd z hp, (f0.trans f1).trans (FrT.set _ (by omega))⟩
    · rw [hst, c1]
      clear q0 q1 q1' g1 g2 R c1
      simp (disch := omega) only [r246_0, r246_1, r246_2, r246_5, r246_6, r246_7, r246_10, r246_11, r246_12, r246_15, r246_16, r246_17, r246_20, r246_21, r246_22, r246_23, r246_24, r246_25, r246_26, r246_27, r246_30, r246_31, r246_34, r246_35, r246_38, r246_39, r246_42, r246_44, r246_45, r246_48, r246_50, r246_53, r246_56, r246_57, r246_58, r246_61, r246_64, r246_65, r246_66, r246_69, r246_71, r246_74, r246_75, r246_78, r246_79, r246_80, r246_83, r246_84, r246_85, r246_88, r246_89, r246_90, r246_93, r246_95, r246_98, r246_99, r246_102, r246_103, r246_104, r246_107, r246_109, r246_111, r246_114, r246_116, r246_118, r246_121, r246_122, r246_123, r246_126, r246_127, r246_128, r246_131, r246_132, r246_135, r246_136, r246_139, r246_141, r246_143, r246_146, r246_149, r246_152, r246_155, r246_156, r246_157, r246_158, r246_161, r246_162, r246_163, r246_166, r246_169, r246_171, r246_173, r246_176, r246_177, r246_179, r246_182, r246_183, r246_184, r246_187, r246_188, r246_189, r246_192, r246_195, r246_196, r246_199, r246_200, r246_203, r246_206, r246_207, r246_208, r246_209, r246_212, r246_213, r246_214, r246_217, r246_220, r246_221, r246_223, r246_224, r246_227, r246_228, r246_230, r246_232, r246_235, r246_236, r246_239, r246_240, r246_241, r246_244, r246_247, r246_249, r246_251, r246_254, r246_255, r246_258, r246_259, r246_260, r246_263, r246_264, r246_265, r246_268, r246_271, r246_272, r246_273, r246_276, r246_277, r246_278, r246_281, r246_282, r246_283, r246_286, r246_287, r246_288, r246_291, r246_292, r246_293, r246_296, r246_297, r246_298, r246_301, r246_302, r246_305, r246_306, r246_309, r246_312, r246_314, r246_317, r246_320, r246_321, r246_323, r246_326, r246_327, r246_330, r246_331, r246_334, r246_336, r246_339, r246_342, r246_344, r246_347, r246_348, r246_351, r246_352, r246_355, r246_358, r246_359, r246_362, r246_363, r246_366, r246_367, r246_368, r246_369, r246_372, r246_375, r246_376, r246_379, r246_380, r246_383, r246_384, r246_385, r246_386, r246_389, r246_390, r246_393, r246_394, r246_396, r246_397, r246_400, r246_401, r246_402, r246_403, r246_406, r246_409, r246_410, r246_411, r246_414, r246_415, r246_416, r246_419, r246_420, r246_423, r246_424, r246_427, r246_429, r246_430, r246_431, r246_432, r246_435, r246_436, r246_437, r246_440, r246_441, r246_442, r246_445, r246_447, r246_448, r246_451, r246_452, r246_455, r246_456, r246_457, r246_460, r246_461, r246_462, r246_465, r246_466, r246_468, r246_469, r246_472, r246_473, r246_474, r246_475, r246_478, r246_481, r246_482, r246_483, r246_486, r246_487, r246_490, r246_491, r246_494, r246_495, r246_496, r246_499, r246_500, r246_503, r246_504, r246_507, r246_508, r246_511, r246_512, r246_515, r246_516, ↓if_pos, ↓if_neg, e30, mset_at]
    · rw [mset_at, if_neg (by omega)]; exact e30
theorem OK.rb (h : OK s) : RB (s 3 2) := ⟨h.1.2.2.1, h.1.2.2.2.1⟩
def aFault (s : ST) : Int := (pR (s 3 2)).2.1
def QFault (s : ST) (J : MM) : Prop := J 21 6 = 1 ∧ RDn J (s 3 2)
theorem XR.F21 (hX : XR I s) (f : FrF I J) : XR J s :=
  ⟨hX.B.cong (fun a _ _ i => f a i (by omega) (by omega) (by omega)), hX.T.cong (f _ _ (by omega) (by omega) (by omega)) (fun i => f _ _ (by omega) (by omega) (by omega)), hX.R.cong (f _ _ (by omega) (by omega) (by omega)) (fun i => f _ _ (by omega) (by omega) (by omega)), hX.P.cong (f _ _ (by omega) (by omega) (by omega)) (fun i => f _ _ (by omega) (by omega) (by omega)), hX.C.cong (fun i _ => f _ _ (by omega) (by omega) (by omega)), hX.F.cong (fun i => f _ _ (by omega) (by omega) (by omega)) (fun i => f _ _ (by omega) (by omega) (by omega)) (f _ _ (by omega) (by omega) (by omega)) (f _ _ (by omega) (by omega) (by omega)), hX.I0.cong (fun a _ _ i => f a i (by omega) (by omega) (by omega)), hX.I1.cong (fun a _ _ i => f a i (by omega) (by omega) (by omega)), hX.K.cong (fun i => f _ _ (by omega) (by omega) (by omega)) (fun i => f _ _ (by omega) (by omega) (by omega))⟩
theorem X_fault (hX : XR I s) (hO : OK s) (hC : RCh I (s 3 2)) : XQ (d + 68) 127 [] [21, 23, 24] I (aFault s) s (QFault s) := by
  obtain ⟨J, c1, -, e6, hD, f1⟩ := x_faultCode (d := d) hO.rb hX.R hC
  refine ⟨J, ?_, hX.F21 f1, fun a ha i => f1 a i (fun q => ha (by simp [q])) (fun q => ha (by simp [q])) (fun q => ha (by simp [q.1])), e6, hD⟩
  rw [en127]
  unfold aFault
  simp (disch := omega) only [r127_0, r127_1, r127_4, r127_7, c1, ↓if_pos, ↓if_neg, Option.bind_some, pushR_s]
theorem MR.T86 (hO : OK s) (hM : MR I s) (f : FrT I J) : MR J s :=
  hM.scr hO (fun i => f _ _ (by omega) (by omega) (by omega)) (fun i => f _ _ (by omega) (by omega) (by omega)) (fun i => f _ _ (by omega) (by omega) (by omega)) (fun i => f _ _ (by omega) (by omega) (by omega)) (fun i => f _ _ (by omega) (by omega) (by omega)) (fun i => f _ _ (by omega) (by omega) (by omega)) (fun i => f _ _ (by omega) (by omega) (by omega)) (f _ _ (by omega) (by omega) (by omega)) (f _ _ (by omega) (by omega) (by omega))
theorem M_fault (hM : MR I s) (hO : OK s) : MA (d + 5) 247 [] I (aFault s) s := by
  obtain ⟨K, c1, e30, -, f1⟩ := m_reads (d := d) (I := I) (L := fun c => I 88 (letI' c)) hO.rb hM.N.2.2.1 (fun _ _ => rfl)
  refine ⟨K, ?_, MR.T86 hO hM f1, fun a ha i => f1 a i (fun q => ha (by simp [q])) (fun q => ha (by simp [q])) (fun q => ha (by simp [q.1]))⟩
  rw [en247]
  unfold aFault
  simp (disch := omega) only [r247_0, r247_1, r247_4, r247_5, r247_6, r247_9, c1, e30, ↓if_pos, ↓if_neg, Option.bind_some, pushR_s]
end
