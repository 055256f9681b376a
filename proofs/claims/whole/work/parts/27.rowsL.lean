section PRINTED
variable {cal : Nat → List AV → MM → Option RES} {I : MM}
variable {v0 v1 v2 v3 v4 v5 v6 v7 v8 v9 v10 v11 v12 v13 v14 v15 v16 v17 v18 v19 v20 v21 v22 v23 v24 v25 v26 v27 v28 v29 v30 v31 v32 v33 v34 v35 v36 v37 v38 v39 v40 v41 v42 v43 v44 v45 v46 v47 v48 v49 v50 v51 v52 v53 v54 v55 v56 v57 v58 v59 : AV} {x0 x1 x2 x3 x4 x5 x6 x7 x8 x9 w u : Int} {a0 a1 a2 a3 a4 a5 a6 b0 : Nat}

set_option maxRecDepth 8000 in
theorem r273_18 : runs cal 273 18 [v0, v1, v2, vI w] [] I = runs cal 273 19 [v0, v1, v2, vI w] [vI w] I := runs_to (ins_of mI_273 (by rfl)) rfl rfl
set_option maxRecDepth 8000 in
theorem r273_19 : runs cal 273 19 [vR 100, v1, v2, v3] [vI x0] I = runs cal 273 20 [vR 100, v1, v2, v3] [vR 100, vI x0] I := runs_to (ins_of mI_273 (by rfl)) rfl rfl
set_option maxRecDepth 8000 in
theorem r273_20 : runs cal 273 20 [v0, v1, v2, v3] [vR 100, vI x1] I = runs cal 273 21 [v0, v1, v2, v3] [vI (I 100 (-1)), vI x1] I := st_alen (ins_of mI_273 (by rfl)) (alen_8 wid_273)
set_option maxRecDepth 8000 in
theorem r273_21 : runs cal 273 21 [v0, v1, v2, v3] [vI x0, vI x1] I = runs cal 273 22 [v0, v1, v2, v3] [vI (4), vI x0, vI x1] I := runs_to (ins_of mI_273 (by rfl)) rfl rfl
set_option maxRecDepth 8000 in
theorem r273_22 : runs cal 273 22 [v0, v1, v2, v3] [vI x0, vI x1, vI x2] I = runs cal 273 23 [v0, v1, v2, v3] [vI (isub x1 x0), vI x2] I := runs_to (ins_of mI_273 (by rfl)) rfl rfl
set_option maxRecDepth 8000 in
theorem r273_23 : runs cal 273 23 [v0, v1, v2, v3] [vI x0, vI x1] I = if x0 < x1 then runs cal 273 831 [v0, v1, v2, v3] [] I else runs cal 273 26 [v0, v1, v2, v3] [] I := st_cmp_gt (ins_of mI_273 (by rfl)) (by decide)
set_option maxRecDepth 8000 in
theorem r273_26 : runs cal 273 26 [vR 100, v1, v2, v3] [] I = runs cal 273 27 [vR 100, v1, v2, v3] [vR 100] I := runs_to (ins_of mI_273 (by rfl)) rfl rfl
set_option maxRecDepth 8000 in
theorem r273_27 : runs cal 273 27 [v0, v1, v2, vI w] [vR 100] I = runs cal 273 28 [v0, v1, v2, vI w] [vI w, vR 100] I := runs_to (ins_of mI_273 (by rfl)) rfl rfl
set_option maxRecDepth 8000 in
theorem r273_28 : runs cal 273 28 [v0, v1, v2, v3] [vI x0, vR 100] I = if 0 ≤ x0 ∧ x0 < I 100 (-1) then runs cal 273 29 [v0, v1, v2, v3] [vI (I 100 x0)] I else none := st_iald8 (ins_of mI_273 (by rfl)) wid_273
set_option maxRecDepth 8000 in
theorem r273_29 : runs cal 273 29 [v0, v1, v2, v3] [vI x0] I = runs cal 273 31 [v0, v1, v2, v3] [vI (31), vI x0] I := runs_to (ins_of mI_273 (by rfl)) rfl rfl
set_option maxRecDepth 8000 in
theorem r273_31 : runs cal 273 31 [v0, v1, v2, v3] [vI x0, vI x1] I = runs cal 273 32 [v0, v1, v2, v3] [vI (iand x1 x0)] I := runs_to (ins_of mI_273 (by rfl)) rfl rfl
set_option maxRecDepth 8000 in
theorem r273_32 : runs cal 273 32 [v0, v1, v2, v3] [vI (0)] I = runs cal 273 160 [v0, v1, v2, v3] [] I := st_sw (off := 128) (ins_of mI_273 (by rfl)) rfl rfl (by decide)
set_option maxRecDepth 8000 in
theorem r273_32a : runs cal 273 32 [v0, v1, v2, v3] [vI (1)] I = runs cal 273 223 [v0, v1, v2, v3] [] I := st_sw (off := 191) (ins_of mI_273 (by rfl)) rfl rfl (by decide)
set_option maxRecDepth 8000 in
theorem r273_32b : runs cal 273 32 [v0, v1, v2, v3] [vI (2)] I = runs cal 273 236 [v0, v1, v2, v3] [] I := st_sw (off := 204) (ins_of mI_273 (by rfl)) rfl rfl (by decide)
set_option maxRecDepth 8000 in
theorem r273_32c : runs cal 273 32 [v0, v1, v2, v3] [vI (3)] I = runs cal 273 249 [v0, v1, v2, v3] [] I := st_sw (off := 217) (ins_of mI_273 (by rfl)) rfl rfl (by decide)
set_option maxRecDepth 8000 in
theorem r273_32d : runs cal 273 32 [v0, v1, v2, v3] [vI (4)] I = runs cal 273 272 [v0, v1, v2, v3] [] I := st_sw (off := 240) (ins_of mI_273 (by rfl)) rfl rfl (by decide)
set_option maxRecDepth 8000 in
theorem r273_32e : runs cal 273 32 [v0, v1, v2, v3] [vI (5)] I = runs cal 273 295 [v0, v1, v2, v3] [] I := st_sw (off := 263) (ins_of mI_273 (by rfl)) rfl rfl (by decide)
set_option maxRecDepth 8000 in
theorem r273_32f : runs cal 273 32 [v0, v1, v2, v3] [vI (6)] I = runs cal 273 328 [v0, v1, v2, v3] [] I := st_sw (off := 296) (ins_of mI_273 (by rfl)) rfl rfl (by decide)
set_option maxRecDepth 8000 in
theorem r273_32g : runs cal 273 32 [v0, v1, v2, v3] [vI (7)] I = runs cal 273 361 [v0, v1, v2, v3] [] I := st_sw (off := 329) (ins_of mI_273 (by rfl)) rfl rfl (by decide)
set_option maxRecDepth 8000 in
theorem r273_32h : runs cal 273 32 [v0, v1, v2, v3] [vI (8)] I = runs cal 273 384 [v0, v1, v2, v3] [] I := st_sw (off := 352) (ins_of mI_273 (by rfl)) rfl rfl (by decide)
set_option maxRecDepth 8000 in
theorem r273_32i : runs cal 273 32 [v0, v1, v2, v3] [vI (9)] I = runs cal 273 407 [v0, v1, v2, v3] [] I := st_sw (off := 375) (ins_of mI_273 (by rfl)) rfl rfl (by decide)
set_option maxRecDepth 8000 in
theorem r273_32j : runs cal 273 32 [v0, v1, v2, v3] [vI (10)] I = runs cal 273 420 [v0, v1, v2, v3] [] I := st_sw (off := 388) (ins_of mI_273 (by rfl)) rfl rfl (by decide)
set_option maxRecDepth 8000 in
theorem r273_32k : runs cal 273 32 [v0, v1, v2, v3] [vI (11)] I = runs cal 273 433 [v0, v1, v2, v3] [] I := st_sw (off := 401) (ins_of mI_273 (by rfl)) rfl rfl (by decide)
set_option maxRecDepth 8000 in
theorem r273_32l : runs cal 273 32 [v0, v1, v2, v3] [vI (12)] I = runs cal 273 446 [v0, v1, v2, v3] [] I := st_sw (off := 414) (ins_of mI_273 (by rfl)) rfl rfl (by decide)
set_option maxRecDepth 8000 in
theorem r273_32m : runs cal 273 32 [v0, v1, v2, v3] [vI (13)] I = runs cal 273 469 [v0, v1, v2, v3] [] I := st_sw (off := 437) (ins_of mI_273 (by rfl)) rfl rfl (by decide)
set_option maxRecDepth 8000 in
theorem r273_32n : runs cal 273 32 [v0, v1, v2, v3] [vI (14)] I = runs cal 273 492 [v0, v1, v2, v3] [] I := st_sw (off := 460) (ins_of mI_273 (by rfl)) rfl rfl (by decide)
set_option maxRecDepth 8000 in
theorem r273_32o : runs cal 273 32 [v0, v1, v2, v3] [vI (15)] I = runs cal 273 515 [v0, v1, v2, v3] [] I := st_sw (off := 483) (ins_of mI_273 (by rfl)) rfl rfl (by decide)
set_option maxRecDepth 8000 in
theorem r273_32p : runs cal 273 32 [v0, v1, v2, v3] [vI (16)] I = runs cal 273 538 [v0, v1, v2, v3] [] I := st_sw (off := 506) (ins_of mI_273 (by rfl)) rfl rfl (by decide)
set_option maxRecDepth 8000 in
theorem r273_32q : runs cal 273 32 [v0, v1, v2, v3] [vI (17)] I = runs cal 273 561 [v0, v1, v2, v3] [] I := st_sw (off := 529) (ins_of mI_273 (by rfl)) rfl rfl (by decide)
set_option maxRecDepth 8000 in
theorem r273_32r : runs cal 273 32 [v0, v1, v2, v3] [vI (18)] I = runs cal 273 574 [v0, v1, v2, v3] [] I := st_sw (off := 542) (ins_of mI_273 (by rfl)) rfl rfl (by decide)
set_option maxRecDepth 8000 in
theorem r273_32s : runs cal 273 32 [v0, v1, v2, v3] [vI (19)] I = runs cal 273 587 [v0, v1, v2, v3] [] I := st_sw (off := 555) (ins_of mI_273 (by rfl)) rfl rfl (by decide)
set_option maxRecDepth 8000 in
theorem r273_32t : runs cal 273 32 [v0, v1, v2, v3] [vI (20)] I = runs cal 273 620 [v0, v1, v2, v3] [] I := st_sw (off := 588) (ins_of mI_273 (by rfl)) rfl rfl (by decide)
set_option maxRecDepth 8000 in
theorem r273_32u : runs cal 273 32 [v0, v1, v2, v3] [vI (21)] I = runs cal 273 663 [v0, v1, v2, v3] [] I := st_sw (off := 631) (ins_of mI_273 (by rfl)) rfl rfl (by decide)
set_option maxRecDepth 8000 in
theorem r273_32v : runs cal 273 32 [v0, v1, v2, v3] [vI (22)] I = runs cal 273 686 [v0, v1, v2, v3] [] I := st_sw (off := 654) (ins_of mI_273 (by rfl)) rfl rfl (by decide)
set_option maxRecDepth 8000 in
theorem r273_32w : runs cal 273 32 [v0, v1, v2, v3] [vI (23)] I = runs cal 273 719 [v0, v1, v2, v3] [] I := st_sw (off := 687) (ins_of mI_273 (by rfl)) rfl rfl (by decide)
set_option maxRecDepth 8000 in
theorem r273_32x : runs cal 273 32 [v0, v1, v2, v3] [vI (24)] I = runs cal 273 742 [v0, v1, v2, v3] [] I := st_sw (off := 710) (ins_of mI_273 (by rfl)) rfl rfl (by decide)
set_option maxRecDepth 8000 in
theorem r273_32y : runs cal 273 32 [v0, v1, v2, v3] [vI (25)] I = runs cal 273 765 [v0, v1, v2, v3] [] I := st_sw (off := 733) (ins_of mI_273 (by rfl)) rfl rfl (by decide)
set_option maxRecDepth 8000 in
theorem r273_32z : runs cal 273 32 [v0, v1, v2, v3] [vI (26)] I = runs cal 273 788 [v0, v1, v2, v3] [] I := st_sw (off := 756) (ins_of mI_273 (by rfl)) rfl rfl (by decide)
set_option maxRecDepth 8000 in
theorem r273_32A : runs cal 273 32 [v0, v1, v2, v3] [vI (27)] I = runs cal 273 811 [v0, v1, v2, v3] [] I := st_sw (off := 779) (ins_of mI_273 (by rfl)) rfl rfl (by decide)
set_option maxRecDepth 8000 in
theorem r273_32B (hd : x0 < 0 ∨ 27 < x0) : runs cal 273 32 [v0, v1, v2, v3] [vI x0] I = runs cal 273 825 [v0, v1, v2, v3] [] I := st_tswD (ins_of mI_273 (by rfl)) (by decide) hd (by decide)
set_option maxRecDepth 8000 in
theorem r273_160 : runs cal 273 160 [v0, vR 1, v2, v3] [] I = runs cal 273 161 [v0, vR 1, v2, v3] [vR 1] I := runs_to (ins_of mI_273 (by rfl)) rfl rfl
set_option maxRecDepth 8000 in
theorem r273_161 : runs cal 273 161 [vR 100, v1, v2, v3] [vR 1] I = runs cal 273 162 [vR 100, v1, v2, v3] [vR 100, vR 1] I := runs_to (ins_of mI_273 (by rfl)) rfl rfl
set_option maxRecDepth 8000 in
theorem r273_162 : runs cal 273 162 [v0, v1, v2, vI w] [vR 100, vR 1] I = runs cal 273 163 [v0, v1, v2, vI w] [vI w, vR 100, vR 1] I := runs_to (ins_of mI_273 (by rfl)) rfl rfl
set_option maxRecDepth 8000 in
theorem r273_163 : runs cal 273 163 [v0, v1, v2, v3] [vI x0, vR 100, vR 1] I = runs cal 273 164 [v0, v1, v2, v3] [vI (1), vI x0, vR 100, vR 1] I := runs_to (ins_of mI_273 (by rfl)) rfl rfl
set_option maxRecDepth 8000 in
theorem r273_164 : runs cal 273 164 [v0, v1, v2, v3] [vI x0, vI x1, vR 100, vR 1] I = runs cal 273 165 [v0, v1, v2, v3] [vI (iadd x1 x0), vR 100, vR 1] I := runs_to (ins_of mI_273 (by rfl)) rfl rfl
set_option maxRecDepth 8000 in
theorem r273_165 : runs cal 273 165 [v0, v1, v2, v3] [vI x0, vR 100, vR 1] I = if 0 ≤ x0 ∧ x0 < I 100 (-1) then runs cal 273 166 [v0, v1, v2, v3] [vI (I 100 x0), vR 1] I else none := st_iald8 (ins_of mI_273 (by rfl)) wid_273
set_option maxRecDepth 8000 in
theorem r273_166 : runs cal 273 166 [v0, v1, v2, v3] [vI x0, vR 1] I = runs cal 273 167 [v0, v1, v2, v3] [vL x0, vR 1] I := runs_to (ins_of mI_273 (by rfl)) rfl rfl
set_option maxRecDepth 8000 in
theorem r273_167 : runs cal 273 167 [v0, v1, v2, v3] [vL x0, vR 1] I = runs cal 273 169 [v0, v1, v2, v3] [vI (32), vL x0, vR 1] I := runs_to (ins_of mI_273 (by rfl)) rfl rfl
set_option maxRecDepth 8000 in
theorem r273_169 : runs cal 273 169 [v0, v1, v2, v3] [vI x0, vL x1, vR 1] I = runs cal 273 170 [v0, v1, v2, v3] [vL (lshl x1 x0), vR 1] I := runs_to (ins_of mI_273 (by rfl)) rfl rfl
set_option maxRecDepth 8000 in
theorem r273_170 : runs cal 273 170 [vR 100, v1, v2, v3] [vL x0, vR 1] I = runs cal 273 171 [vR 100, v1, v2, v3] [vR 100, vL x0, vR 1] I := runs_to (ins_of mI_273 (by rfl)) rfl rfl
set_option maxRecDepth 8000 in
theorem r273_171 : runs cal 273 171 [v0, v1, v2, vI w] [vR 100, vL x1, vR 1] I = runs cal 273 172 [v0, v1, v2, vI w] [vI w, vR 100, vL x1, vR 1] I := runs_to (ins_of mI_273 (by rfl)) rfl rfl
set_option maxRecDepth 8000 in
theorem r273_172 : runs cal 273 172 [v0, v1, v2, v3] [vI x0, vR 100, vL x2, vR 1] I = runs cal 273 173 [v0, v1, v2, v3] [vI (2), vI x0, vR 100, vL x2, vR 1] I := runs_to (ins_of mI_273 (by rfl)) rfl rfl
set_option maxRecDepth 8000 in
theorem r273_173 : runs cal 273 173 [v0, v1, v2, v3] [vI x0, vI x1, vR 100, vL x3, vR 1] I = runs cal 273 174 [v0, v1, v2, v3] [vI (iadd x1 x0), vR 100, vL x3, vR 1] I := runs_to (ins_of mI_273 (by rfl)) rfl rfl
set_option maxRecDepth 8000 in
theorem r273_174 : runs cal 273 174 [v0, v1, v2, v3] [vI x0, vR 100, vL x2, vR 1] I = if 0 ≤ x0 ∧ x0 < I 100 (-1) then runs cal 273 175 [v0, v1, v2, v3] [vI (I 100 x0), vL x2, vR 1] I else none := st_iald8 (ins_of mI_273 (by rfl)) wid_273
set_option maxRecDepth 8000 in
theorem r273_175 : runs cal 273 175 [v0, v1, v2, v3] [vI x0, vL x1, vR 1] I = runs cal 273 176 [v0, v1, v2, v3] [vL x0, vL x1, vR 1] I := runs_to (ins_of mI_273 (by rfl)) rfl rfl
set_option maxRecDepth 8000 in
theorem r273_176 : runs cal 273 176 [v0, v1, v2, v3] [vL x0, vL x1, vR 1] I = runs cal 273 179 [v0, v1, v2, v3] [vL (4294967295), vL x0, vL x1, vR 1] I := runs_to (ins_of mI_273 (by rfl)) rfl (by simp only [stepI, ldk2, mC_273]; rfl)
set_option maxRecDepth 8000 in
theorem r273_179 : runs cal 273 179 [v0, v1, v2, v3] [vL x0, vL x1, vL x2, vR 1] I = runs cal 273 180 [v0, v1, v2, v3] [vL (land x1 x0), vL x2, vR 1] I := runs_to (ins_of mI_273 (by rfl)) rfl rfl
set_option maxRecDepth 8000 in
theorem r273_180 : runs cal 273 180 [v0, v1, v2, v3] [vL x0, vL x1, vR 1] I = runs cal 273 181 [v0, v1, v2, v3] [vL (lor x1 x0), vR 1] I := runs_to (ins_of mI_273 (by rfl)) rfl rfl
set_option maxRecDepth 8000 in
theorem r273_181 : runs cal 273 181 [vR 100, v1, v2, v3] [vL x0, vR 1] I = runs cal 273 182 [vR 100, v1, v2, v3] [vR 100, vL x0, vR 1] I := runs_to (ins_of mI_273 (by rfl)) rfl rfl
set_option maxRecDepth 8000 in
theorem r273_182 : runs cal 273 182 [v0, v1, v2, vI w] [vR 100, vL x1, vR 1] I = runs cal 273 183 [v0, v1, v2, vI w] [vI w, vR 100, vL x1, vR 1] I := runs_to (ins_of mI_273 (by rfl)) rfl rfl
set_option maxRecDepth 8000 in
theorem r273_183 : runs cal 273 183 [v0, v1, v2, v3] [vI x0, vR 100, vL x2, vR 1] I = runs cal 273 184 [v0, v1, v2, v3] [vI (3), vI x0, vR 100, vL x2, vR 1] I := runs_to (ins_of mI_273 (by rfl)) rfl rfl
set_option maxRecDepth 8000 in
theorem r273_184 : runs cal 273 184 [v0, v1, v2, v3] [vI x0, vI x1, vR 100, vL x3, vR 1] I = runs cal 273 185 [v0, v1, v2, v3] [vI (iadd x1 x0), vR 100, vL x3, vR 1] I := runs_to (ins_of mI_273 (by rfl)) rfl rfl
set_option maxRecDepth 8000 in
theorem r273_185 : runs cal 273 185 [v0, v1, v2, v3] [vI x0, vR 100, vL x2, vR 1] I = if 0 ≤ x0 ∧ x0 < I 100 (-1) then runs cal 273 186 [v0, v1, v2, v3] [vI (I 100 x0), vL x2, vR 1] I else none := st_iald8 (ins_of mI_273 (by rfl)) wid_273
set_option maxRecDepth 8000 in
theorem r273_186 : runs cal 273 186 [v0, v1, v2, v3] [vI x0, vL x1, vR 1] I = (cal 109 [vR 1, vL x1, vI x0] I).bind (fun q => runs cal 273 189 [v0, v1, v2, v3] (pushR q.1 []) q.2) := st_call (st := false) (ins_of mI_273 (by rfl)) mC_273 mr_18_15 (by decide) mS_109 mN_109 rfl (Nat.le_of_ble_eq_true rfl) rfl rfl (Or.inr ⟨_, _, rfl, rcv mC_109 rfl wid_273 (by decide +kernel)⟩) (Or.inr wid_273)
set_option maxRecDepth 8000 in
theorem r273_189 : runs cal 273 189 [v0, v1, vR 70, v3] [vI x0] I = runs cal 273 190 [v0, v1, vR 70, v3] [vR 70, vI x0] I := runs_to (ins_of mI_273 (by rfl)) rfl rfl
set_option maxRecDepth 8000 in
theorem r273_190 : runs cal 273 190 [vR 100, v1, v2, v3] [vR 70, vI x1] I = runs cal 273 191 [vR 100, v1, v2, v3] [vR 100, vR 70, vI x1] I := runs_to (ins_of mI_273 (by rfl)) rfl rfl
set_option maxRecDepth 8000 in
theorem r273_191 : runs cal 273 191 [v0, v1, v2, vI w] [vR 100, vR 70, vI x2] I = runs cal 273 192 [v0, v1, v2, vI w] [vI w, vR 100, vR 70, vI x2] I := runs_to (ins_of mI_273 (by rfl)) rfl rfl
set_option maxRecDepth 8000 in
theorem r273_192 : runs cal 273 192 [v0, v1, v2, v3] [vI x0, vR 100, vR 70, vI x3] I = runs cal 273 193 [v0, v1, v2, v3] [vI (1), vI x0, vR 100, vR 70, vI x3] I := runs_to (ins_of mI_273 (by rfl)) rfl rfl
set_option maxRecDepth 8000 in
theorem r273_193 : runs cal 273 193 [v0, v1, v2, v3] [vI x0, vI x1, vR 100, vR 70, vI x4] I = runs cal 273 194 [v0, v1, v2, v3] [vI (iadd x1 x0), vR 100, vR 70, vI x4] I := runs_to (ins_of mI_273 (by rfl)) rfl rfl
set_option maxRecDepth 8000 in
theorem r273_194 : runs cal 273 194 [v0, v1, v2, v3] [vI x0, vR 100, vR 70, vI x3] I = if 0 ≤ x0 ∧ x0 < I 100 (-1) then runs cal 273 195 [v0, v1, v2, v3] [vI (I 100 x0), vR 70, vI x3] I else none := st_iald8 (ins_of mI_273 (by rfl)) wid_273
set_option maxRecDepth 8000 in
theorem r273_195 : runs cal 273 195 [v0, v1, v2, v3] [vI x0, vR 70, vI x2] I = runs cal 273 196 [v0, v1, v2, v3] [vL x0, vR 70, vI x2] I := runs_to (ins_of mI_273 (by rfl)) rfl rfl
set_option maxRecDepth 8000 in
theorem r273_196 : runs cal 273 196 [v0, v1, v2, v3] [vL x0, vR 70, vI x2] I = runs cal 273 198 [v0, v1, v2, v3] [vI (32), vL x0, vR 70, vI x2] I := runs_to (ins_of mI_273 (by rfl)) rfl rfl
set_option maxRecDepth 8000 in
theorem r273_198 : runs cal 273 198 [v0, v1, v2, v3] [vI x0, vL x1, vR 70, vI x3] I = runs cal 273 199 [v0, v1, v2, v3] [vL (lshl x1 x0), vR 70, vI x3] I := runs_to (ins_of mI_273 (by rfl)) rfl rfl
set_option maxRecDepth 8000 in
theorem r273_199 : runs cal 273 199 [vR 100, v1, v2, v3] [vL x0, vR 70, vI x2] I = runs cal 273 200 [vR 100, v1, v2, v3] [vR 100, vL x0, vR 70, vI x2] I := runs_to (ins_of mI_273 (by rfl)) rfl rfl
set_option maxRecDepth 8000 in
theorem r273_200 : runs cal 273 200 [v0, v1, v2, vI w] [vR 100, vL x1, vR 70, vI x3] I = runs cal 273 201 [v0, v1, v2, vI w] [vI w, vR 100, vL x1, vR 70, vI x3] I := runs_to (ins_of mI_273 (by rfl)) rfl rfl
set_option maxRecDepth 8000 in
theorem r273_201 : runs cal 273 201 [v0, v1, v2, v3] [vI x0, vR 100, vL x2, vR 70, vI x4] I = runs cal 273 202 [v0, v1, v2, v3] [vI (2), vI x0, vR 100, vL x2, vR 70, vI x4] I := runs_to (ins_of mI_273 (by rfl)) rfl rfl
set_option maxRecDepth 8000 in
theorem r273_202 : runs cal 273 202 [v0, v1, v2, v3] [vI x0, vI x1, vR 100, vL x3, vR 70, vI x5] I = runs cal 273 203 [v0, v1, v2, v3] [vI (iadd x1 x0), vR 100, vL x3, vR 70, vI x5] I := runs_to (ins_of mI_273 (by rfl)) rfl rfl
set_option maxRecDepth 8000 in
theorem r273_203 : runs cal 273 203 [v0, v1, v2, v3] [vI x0, vR 100, vL x2, vR 70, vI x4] I = if 0 ≤ x0 ∧ x0 < I 100 (-1) then runs cal 273 204 [v0, v1, v2, v3] [vI (I 100 x0), vL x2, vR 70, vI x4] I else none := st_iald8 (ins_of mI_273 (by rfl)) wid_273
set_option maxRecDepth 8000 in
theorem r273_204 : runs cal 273 204 [v0, v1, v2, v3] [vI x0, vL x1, vR 70, vI x3] I = runs cal 273 205 [v0, v1, v2, v3] [vL x0, vL x1, vR 70, vI x3] I := runs_to (ins_of mI_273 (by rfl)) rfl rfl
set_option maxRecDepth 8000 in
theorem r273_205 : runs cal 273 205 [v0, v1, v2, v3] [vL x0, vL x1, vR 70, vI x3] I = runs cal 273 208 [v0, v1, v2, v3] [vL (4294967295), vL x0, vL x1, vR 70, vI x3] I := runs_to (ins_of mI_273 (by rfl)) rfl (by simp only [stepI, ldk2, mC_273]; rfl)
set_option maxRecDepth 8000 in
theorem r273_208 : runs cal 273 208 [v0, v1, v2, v3] [vL x0, vL x1, vL x2, vR 70, vI x4] I = runs cal 273 209 [v0, v1, v2, v3] [vL (land x1 x0), vL x2, vR 70, vI x4] I := runs_to (ins_of mI_273 (by rfl)) rfl rfl
set_option maxRecDepth 8000 in
theorem r273_209 : runs cal 273 209 [v0, v1, v2, v3] [vL x0, vL x1, vR 70, vI x3] I = runs cal 273 210 [v0, v1, v2, v3] [vL (lor x1 x0), vR 70, vI x3] I := runs_to (ins_of mI_273 (by rfl)) rfl rfl
set_option maxRecDepth 8000 in
theorem r273_210 : runs cal 273 210 [vR 100, v1, v2, v3] [vL x0, vR 70, vI x2] I = runs cal 273 211 [vR 100, v1, v2, v3] [vR 100, vL x0, vR 70, vI x2] I := runs_to (ins_of mI_273 (by rfl)) rfl rfl
set_option maxRecDepth 8000 in
theorem r273_211 : runs cal 273 211 [v0, v1, v2, vI w] [vR 100, vL x1, vR 70, vI x3] I = runs cal 273 212 [v0, v1, v2, vI w] [vI w, vR 100, vL x1, vR 70, vI x3] I := runs_to (ins_of mI_273 (by rfl)) rfl rfl
set_option maxRecDepth 8000 in
theorem r273_212 : runs cal 273 212 [v0, v1, v2, v3] [vI x0, vR 100, vL x2, vR 70, vI x4] I = runs cal 273 213 [v0, v1, v2, v3] [vI (3), vI x0, vR 100, vL x2, vR 70, vI x4] I := runs_to (ins_of mI_273 (by rfl)) rfl rfl
set_option maxRecDepth 8000 in
theorem r273_213 : runs cal 273 213 [v0, v1, v2, v3] [vI x0, vI x1, vR 100, vL x3, vR 70, vI x5] I = runs cal 273 214 [v0, v1, v2, v3] [vI (iadd x1 x0), vR 100, vL x3, vR 70, vI x5] I := runs_to (ins_of mI_273 (by rfl)) rfl rfl
set_option maxRecDepth 8000 in
theorem r273_214 : runs cal 273 214 [v0, v1, v2, v3] [vI x0, vR 100, vL x2, vR 70, vI x4] I = if 0 ≤ x0 ∧ x0 < I 100 (-1) then runs cal 273 215 [v0, v1, v2, v3] [vI (I 100 x0), vL x2, vR 70, vI x4] I else none := st_iald8 (ins_of mI_273 (by rfl)) wid_273
set_option maxRecDepth 8000 in
theorem r273_215 : runs cal 273 215 [v0, v1, v2, v3] [vI x0, vL x1, vR 70, vI x3] I = (cal 214 [vR 70, vL x1, vI x0] I).bind (fun q => runs cal 273 218 [v0, v1, v2, v3] (pushR q.1 [vI x3]) q.2) := st_call (st := false) (ins_of mI_273 (by rfl)) mC_273 mr_18_19 (by decide) mS_214 mN_214 rfl (Nat.le_of_ble_eq_true rfl) rfl rfl (Or.inr ⟨_, _, rfl, rcv mC_214 rfl wid_273 (by decide +kernel)⟩) (Or.inr wid_273)
set_option maxRecDepth 8000 in
theorem r273_218 : runs cal 273 218 [v0, v1, v2, v3] [vI x0, vI x1] I = if x1 = x0 then runs cal 273 825 [v0, v1, v2, v3] [] I else runs cal 273 221 [v0, v1, v2, v3] [] I := st_cmp_eq (ins_of mI_273 (by rfl)) (by decide)
set_option maxRecDepth 8000 in
theorem r273_221 : runs cal 273 221 [v0, v1, v2, v3] [] I = runs cal 273 222 [v0, v1, v2, v3] [vI (0)] I := runs_to (ins_of mI_273 (by rfl)) rfl rfl
set_option maxRecDepth 8000 in
theorem r273_222 : runs cal 273 222 [v0, v1, v2, v3] [vI x0] I = if x0 = 0 ∨ x0 = 1 then some (some (vI x0), I) else none := st_retZ (ins_of mI_273 (by rfl)) mR_273 (Or.inl rfl)
set_option maxRecDepth 8000 in
theorem r273_223 : runs cal 273 223 [v0, vR 1, v2, v3] [] I = runs cal 273 224 [v0, vR 1, v2, v3] [vR 1] I := runs_to (ins_of mI_273 (by rfl)) rfl rfl
set_option maxRecDepth 8000 in
theorem r273_224 : runs cal 273 224 [v0, v1, v2, v3] [vR 1] I = (cal 110 [vR 1] I).bind (fun q => runs cal 273 227 [v0, v1, v2, v3] (pushR q.1 []) q.2) := st_call (st := false) (ins_of mI_273 (by rfl)) mC_273 mr_18_20 (by decide) mS_110 mN_110 rfl (Nat.le_of_ble_eq_true rfl) rfl rfl (Or.inr ⟨_, _, rfl, rcv mC_110 rfl wid_273 (by decide +kernel)⟩) (Or.inr wid_273)
set_option maxRecDepth 8000 in
theorem r273_227 : runs cal 273 227 [v0, v1, vR 70, v3] [vI x0] I = runs cal 273 228 [v0, v1, vR 70, v3] [vR 70, vI x0] I := runs_to (ins_of mI_273 (by rfl)) rfl rfl
set_option maxRecDepth 8000 in
theorem r273_228 : runs cal 273 228 [v0, v1, v2, v3] [vR 70, vI x1] I = (cal 215 [vR 70] I).bind (fun q => runs cal 273 231 [v0, v1, v2, v3] (pushR q.1 [vI x1]) q.2) := st_call (st := false) (ins_of mI_273 (by rfl)) mC_273 mr_18_24 (by decide) mS_215 mN_215 rfl (Nat.le_of_ble_eq_true rfl) rfl rfl (Or.inr ⟨_, _, rfl, rcv mC_215 rfl wid_273 (by decide +kernel)⟩) (Or.inr wid_273)
set_option maxRecDepth 8000 in
theorem r273_231 : runs cal 273 231 [v0, v1, v2, v3] [vI x0, vI x1] I = if x1 = x0 then runs cal 273 825 [v0, v1, v2, v3] [] I else runs cal 273 234 [v0, v1, v2, v3] [] I := st_cmp_eq (ins_of mI_273 (by rfl)) (by decide)
set_option maxRecDepth 8000 in
theorem r273_234 : runs cal 273 234 [v0, v1, v2, v3] [] I = runs cal 273 235 [v0, v1, v2, v3] [vI (0)] I := runs_to (ins_of mI_273 (by rfl)) rfl rfl
set_option maxRecDepth 8000 in
theorem r273_235 : runs cal 273 235 [v0, v1, v2, v3] [vI x0] I = if x0 = 0 ∨ x0 = 1 then some (some (vI x0), I) else none := st_retZ (ins_of mI_273 (by rfl)) mR_273 (Or.inl rfl)
set_option maxRecDepth 8000 in
theorem r273_236 : runs cal 273 236 [v0, vR 1, v2, v3] [] I = runs cal 273 237 [v0, vR 1, v2, v3] [vR 1] I := runs_to (ins_of mI_273 (by rfl)) rfl rfl
set_option maxRecDepth 8000 in
theorem r273_237 : runs cal 273 237 [v0, v1, v2, v3] [vR 1] I = (cal 111 [vR 1] I).bind (fun q => runs cal 273 240 [v0, v1, v2, v3] (pushR q.1 []) q.2) := st_call (st := false) (ins_of mI_273 (by rfl)) mC_273 mr_18_25 (by decide) mS_111 mN_111 rfl (Nat.le_of_ble_eq_true rfl) rfl rfl (Or.inr ⟨_, _, rfl, rcv mC_111 rfl wid_273 (by decide +kernel)⟩) (Or.inr wid_273)
set_option maxRecDepth 8000 in
theorem r273_240 : runs cal 273 240 [v0, v1, vR 70, v3] [vI x0] I = runs cal 273 241 [v0, v1, vR 70, v3] [vR 70, vI x0] I := runs_to (ins_of mI_273 (by rfl)) rfl rfl
set_option maxRecDepth 8000 in
theorem r273_241 : runs cal 273 241 [v0, v1, v2, v3] [vR 70, vI x1] I = (cal 228 [vR 70] I).bind (fun q => runs cal 273 244 [v0, v1, v2, v3] (pushR q.1 [vI x1]) q.2) := st_call (st := false) (ins_of mI_273 (by rfl)) mC_273 mr_18_28 (by decide) mS_228 mN_228 rfl (Nat.le_of_ble_eq_true rfl) rfl rfl (Or.inr ⟨_, _, rfl, rcv mC_228 rfl wid_273 (by decide +kernel)⟩) (Or.inr wid_273)
set_option maxRecDepth 8000 in
theorem r273_244 : runs cal 273 244 [v0, v1, v2, v3] [vI x0, vI x1] I = if x1 = x0 then runs cal 273 825 [v0, v1, v2, v3] [] I else runs cal 273 247 [v0, v1, v2, v3] [] I := st_cmp_eq (ins_of mI_273 (by rfl)) (by decide)
set_option maxRecDepth 8000 in
theorem r273_247 : runs cal 273 247 [v0, v1, v2, v3] [] I = runs cal 273 248 [v0, v1, v2, v3] [vI (0)] I := runs_to (ins_of mI_273 (by rfl)) rfl rfl
set_option maxRecDepth 8000 in
theorem r273_248 : runs cal 273 248 [v0, v1, v2, v3] [vI x0] I = if x0 = 0 ∨ x0 = 1 then some (some (vI x0), I) else none := st_retZ (ins_of mI_273 (by rfl)) mR_273 (Or.inl rfl)
set_option maxRecDepth 8000 in
theorem r273_249 : runs cal 273 249 [v0, vR 1, v2, v3] [] I = runs cal 273 250 [v0, vR 1, v2, v3] [vR 1] I := runs_to (ins_of mI_273 (by rfl)) rfl rfl
set_option maxRecDepth 8000 in
theorem r273_250 : runs cal 273 250 [vR 100, v1, v2, v3] [vR 1] I = runs cal 273 251 [vR 100, v1, v2, v3] [vR 100, vR 1] I := runs_to (ins_of mI_273 (by rfl)) rfl rfl
set_option maxRecDepth 8000 in
theorem r273_251 : runs cal 273 251 [v0, v1, v2, vI w] [vR 100, vR 1] I = runs cal 273 252 [v0, v1, v2, vI w] [vI w, vR 100, vR 1] I := runs_to (ins_of mI_273 (by rfl)) rfl rfl
set_option maxRecDepth 8000 in
theorem r273_252 : runs cal 273 252 [v0, v1, v2, v3] [vI x0, vR 100, vR 1] I = runs cal 273 253 [v0, v1, v2, v3] [vI (1), vI x0, vR 100, vR 1] I := runs_to (ins_of mI_273 (by rfl)) rfl rfl
set_option maxRecDepth 8000 in
theorem r273_253 : runs cal 273 253 [v0, v1, v2, v3] [vI x0, vI x1, vR 100, vR 1] I = runs cal 273 254 [v0, v1, v2, v3] [vI (iadd x1 x0), vR 100, vR 1] I := runs_to (ins_of mI_273 (by rfl)) rfl rfl
set_option maxRecDepth 8000 in
theorem r273_254 : runs cal 273 254 [v0, v1, v2, v3] [vI x0, vR 100, vR 1] I = if 0 ≤ x0 ∧ x0 < I 100 (-1) then runs cal 273 255 [v0, v1, v2, v3] [vI (I 100 x0), vR 1] I else none := st_iald8 (ins_of mI_273 (by rfl)) wid_273
set_option maxRecDepth 8000 in
theorem r273_255 : runs cal 273 255 [v0, v1, v2, v3] [vI x0, vR 1] I = (cal 112 [vR 1, vI x0] I).bind (fun q => runs cal 273 258 [v0, v1, v2, v3] (pushR q.1 []) q.2) := st_call (st := false) (ins_of mI_273 (by rfl)) mC_273 mr_18_29 (by decide) mS_112 mN_112 rfl (Nat.le_of_ble_eq_true rfl) rfl rfl (Or.inr ⟨_, _, rfl, rcv mC_112 rfl wid_273 (by decide +kernel)⟩) (Or.inr wid_273)
set_option maxRecDepth 8000 in
theorem r273_258 : runs cal 273 258 [v0, v1, vR 70, v3] [vI x0] I = runs cal 273 259 [v0, v1, vR 70, v3] [vR 70, vI x0] I := runs_to (ins_of mI_273 (by rfl)) rfl rfl
set_option maxRecDepth 8000 in
theorem r273_259 : runs cal 273 259 [vR 100, v1, v2, v3] [vR 70, vI x1] I = runs cal 273 260 [vR 100, v1, v2, v3] [vR 100, vR 70, vI x1] I := runs_to (ins_of mI_273 (by rfl)) rfl rfl
set_option maxRecDepth 8000 in
theorem r273_260 : runs cal 273 260 [v0, v1, v2, vI w] [vR 100, vR 70, vI x2] I = runs cal 273 261 [v0, v1, v2, vI w] [vI w, vR 100, vR 70, vI x2] I := runs_to (ins_of mI_273 (by rfl)) rfl rfl
set_option maxRecDepth 8000 in
theorem r273_261 : runs cal 273 261 [v0, v1, v2, v3] [vI x0, vR 100, vR 70, vI x3] I = runs cal 273 262 [v0, v1, v2, v3] [vI (1), vI x0, vR 100, vR 70, vI x3] I := runs_to (ins_of mI_273 (by rfl)) rfl rfl
set_option maxRecDepth 8000 in
theorem r273_262 : runs cal 273 262 [v0, v1, v2, v3] [vI x0, vI x1, vR 100, vR 70, vI x4] I = runs cal 273 263 [v0, v1, v2, v3] [vI (iadd x1 x0), vR 100, vR 70, vI x4] I := runs_to (ins_of mI_273 (by rfl)) rfl rfl
set_option maxRecDepth 8000 in
theorem r273_263 : runs cal 273 263 [v0, v1, v2, v3] [vI x0, vR 100, vR 70, vI x3] I = if 0 ≤ x0 ∧ x0 < I 100 (-1) then runs cal 273 264 [v0, v1, v2, v3] [vI (I 100 x0), vR 70, vI x3] I else none := st_iald8 (ins_of mI_273 (by rfl)) wid_273
set_option maxRecDepth 8000 in
theorem r273_264 : runs cal 273 264 [v0, v1, v2, v3] [vI x0, vR 70, vI x2] I = (cal 230 [vR 70, vI x0] I).bind (fun q => runs cal 273 267 [v0, v1, v2, v3] (pushR q.1 [vI x2]) q.2) := st_call (st := false) (ins_of mI_273 (by rfl)) mC_273 mr_18_33 (by decide) mS_230 mN_230 rfl (Nat.le_of_ble_eq_true rfl) rfl rfl (Or.inr ⟨_, _, rfl, rcv mC_230 rfl wid_273 (by decide +kernel)⟩) (Or.inr wid_273)
set_option maxRecDepth 8000 in
theorem r273_267 : runs cal 273 267 [v0, v1, v2, v3] [vI x0, vI x1] I = if x1 = x0 then runs cal 273 825 [v0, v1, v2, v3] [] I else runs cal 273 270 [v0, v1, v2, v3] [] I := st_cmp_eq (ins_of mI_273 (by rfl)) (by decide)
set_option maxRecDepth 8000 in
theorem r273_270 : runs cal 273 270 [v0, v1, v2, v3] [] I = runs cal 273 271 [v0, v1, v2, v3] [vI (0)] I := runs_to (ins_of mI_273 (by rfl)) rfl rfl
set_option maxRecDepth 8000 in
theorem r273_271 : runs cal 273 271 [v0, v1, v2, v3] [vI x0] I = if x0 = 0 ∨ x0 = 1 then some (some (vI x0), I) else none := st_retZ (ins_of mI_273 (by rfl)) mR_273 (Or.inl rfl)
set_option maxRecDepth 8000 in
theorem r273_272 : runs cal 273 272 [v0, vR 1, v2, v3] [] I = runs cal 273 273 [v0, vR 1, v2, v3] [vR 1] I := runs_to (ins_of mI_273 (by rfl)) rfl rfl
set_option maxRecDepth 8000 in
theorem r273_273 : runs cal 273 273 [vR 100, v1, v2, v3] [vR 1] I = runs cal 273 274 [vR 100, v1, v2, v3] [vR 100, vR 1] I := runs_to (ins_of mI_273 (by rfl)) rfl rfl
set_option maxRecDepth 8000 in
theorem r273_274 : runs cal 273 274 [v0, v1, v2, vI w] [vR 100, vR 1] I = runs cal 273 275 [v0, v1, v2, vI w] [vI w, vR 100, vR 1] I := runs_to (ins_of mI_273 (by rfl)) rfl rfl
set_option maxRecDepth 8000 in
theorem r273_275 : runs cal 273 275 [v0, v1, v2, v3] [vI x0, vR 100, vR 1] I = runs cal 273 276 [v0, v1, v2, v3] [vI (1), vI x0, vR 100, vR 1] I := runs_to (ins_of mI_273 (by rfl)) rfl rfl
set_option maxRecDepth 8000 in
theorem r273_276 : runs cal 273 276 [v0, v1, v2, v3] [vI x0, vI x1, vR 100, vR 1] I = runs cal 273 277 [v0, v1, v2, v3] [vI (iadd x1 x0), vR 100, vR 1] I := runs_to (ins_of mI_273 (by rfl)) rfl rfl
set_option maxRecDepth 8000 in
theorem r273_277 : runs cal 273 277 [v0, v1, v2, v3] [vI x0, vR 100, vR 1] I = if 0 ≤ x0 ∧ x0 < I 100 (-1) then runs cal 273 278 [v0, v1, v2, v3] [vI (I 100 x0), vR 1] I else none := st_iald8 (ins_of mI_273 (by rfl)) wid_273
set_option maxRecDepth 8000 in
theorem r273_278 : runs cal 273 278 [v0, v1, v2, v3] [vI x0, vR 1] I = (cal 113 [vR 1, vI x0] I).bind (fun q => runs cal 273 281 [v0, v1, v2, v3] (pushR q.1 []) q.2) := st_call (st := false) (ins_of mI_273 (by rfl)) mC_273 mr_18_34 (by decide) mS_113 mN_113 rfl (Nat.le_of_ble_eq_true rfl) rfl rfl (Or.inr ⟨_, _, rfl, rcv mC_113 rfl wid_273 (by decide +kernel)⟩) (Or.inr wid_273)
set_option maxRecDepth 8000 in
theorem r273_281 : runs cal 273 281 [v0, v1, vR 70, v3] [vI x0] I = runs cal 273 282 [v0, v1, vR 70, v3] [vR 70, vI x0] I := runs_to (ins_of mI_273 (by rfl)) rfl rfl
set_option maxRecDepth 8000 in
theorem r273_282 : runs cal 273 282 [vR 100, v1, v2, v3] [vR 70, vI x1] I = runs cal 273 283 [vR 100, v1, v2, v3] [vR 100, vR 70, vI x1] I := runs_to (ins_of mI_273 (by rfl)) rfl rfl
set_option maxRecDepth 8000 in
theorem r273_283 : runs cal 273 283 [v0, v1, v2, vI w] [vR 100, vR 70, vI x2] I = runs cal 273 284 [v0, v1, v2, vI w] [vI w, vR 100, vR 70, vI x2] I := runs_to (ins_of mI_273 (by rfl)) rfl rfl
set_option maxRecDepth 8000 in
theorem r273_284 : runs cal 273 284 [v0, v1, v2, v3] [vI x0, vR 100, vR 70, vI x3] I = runs cal 273 285 [v0, v1, v2, v3] [vI (1), vI x0, vR 100, vR 70, vI x3] I := runs_to (ins_of mI_273 (by rfl)) rfl rfl
set_option maxRecDepth 8000 in
theorem r273_285 : runs cal 273 285 [v0, v1, v2, v3] [vI x0, vI x1, vR 100, vR 70, vI x4] I = runs cal 273 286 [v0, v1, v2, v3] [vI (iadd x1 x0), vR 100, vR 70, vI x4] I := runs_to (ins_of mI_273 (by rfl)) rfl rfl
set_option maxRecDepth 8000 in
theorem r273_286 : runs cal 273 286 [v0, v1, v2, v3] [vI x0, vR 100, vR 70, vI x3] I = if 0 ≤ x0 ∧ x0 < I 100 (-1) then runs cal 273 287 [v0, v1, v2, v3] [vI (I 100 x0), vR 70, vI x3] I else none := st_iald8 (ins_of mI_273 (by rfl)) wid_273
set_option maxRecDepth 8000 in
theorem r273_287 : runs cal 273 287 [v0, v1, v2, v3] [vI x0, vR 70, vI x2] I = (cal 231 [vR 70, vI x0] I).bind (fun q => runs cal 273 290 [v0, v1, v2, v3] (pushR q.1 [vI x2]) q.2) := st_call (st := false) (ins_of mI_273 (by rfl)) mC_273 mr_18_37 (by decide) mS_231 mN_231 rfl (Nat.le_of_ble_eq_true rfl) rfl rfl (Or.inr ⟨_, _, rfl, rcv mC_231 rfl wid_273 (by decide +kernel)⟩) (Or.inr wid_273)
set_option maxRecDepth 8000 in
theorem r273_290 : runs cal 273 290 [v0, v1, v2, v3] [vI x0, vI x1] I = if x1 = x0 then runs cal 273 825 [v0, v1, v2, v3] [] I else runs cal 273 293 [v0, v1, v2, v3] [] I := st_cmp_eq (ins_of mI_273 (by rfl)) (by decide)
set_option maxRecDepth 8000 in
theorem r273_293 : runs cal 273 293 [v0, v1, v2, v3] [] I = runs cal 273 294 [v0, v1, v2, v3] [vI (0)] I := runs_to (ins_of mI_273 (by rfl)) rfl rfl
set_option maxRecDepth 8000 in
theorem r273_294 : runs cal 273 294 [v0, v1, v2, v3] [vI x0] I = if x0 = 0 ∨ x0 = 1 then some (some (vI x0), I) else none := st_retZ (ins_of mI_273 (by rfl)) mR_273 (Or.inl rfl)
set_option maxRecDepth 8000 in
theorem r273_295 : runs cal 273 295 [v0, vR 1, v2, v3] [] I = runs cal 273 296 [v0, vR 1, v2, v3] [vR 1] I := runs_to (ins_of mI_273 (by rfl)) rfl rfl
set_option maxRecDepth 8000 in
theorem r273_296 : runs cal 273 296 [vR 100, v1, v2, v3] [vR 1] I = runs cal 273 297 [vR 100, v1, v2, v3] [vR 100, vR 1] I := runs_to (ins_of mI_273 (by rfl)) rfl rfl
set_option maxRecDepth 8000 in
theorem r273_297 : runs cal 273 297 [v0, v1, v2, vI w] [vR 100, vR 1] I = runs cal 273 298 [v0, v1, v2, vI w] [vI w, vR 100, vR 1] I := runs_to (ins_of mI_273 (by rfl)) rfl rfl
set_option maxRecDepth 8000 in
theorem r273_298 : runs cal 273 298 [v0, v1, v2, v3] [vI x0, vR 100, vR 1] I = runs cal 273 299 [v0, v1, v2, v3] [vI (1), vI x0, vR 100, vR 1] I := runs_to (ins_of mI_273 (by rfl)) rfl rfl
set_option maxRecDepth 8000 in
theorem r273_299 : runs cal 273 299 [v0, v1, v2, v3] [vI x0, vI x1, vR 100, vR 1] I = runs cal 273 300 [v0, v1, v2, v3] [vI (iadd x1 x0), vR 100, vR 1] I := runs_to (ins_of mI_273 (by rfl)) rfl rfl
set_option maxRecDepth 8000 in
theorem r273_300 : runs cal 273 300 [v0, v1, v2, v3] [vI x0, vR 100, vR 1] I = if 0 ≤ x0 ∧ x0 < I 100 (-1) then runs cal 273 301 [v0, v1, v2, v3] [vI (I 100 x0), vR 1] I else none := st_iald8 (ins_of mI_273 (by rfl)) wid_273
set_option maxRecDepth 8000 in
theorem r273_301 : runs cal 273 301 [vR 100, v1, v2, v3] [vI x0, vR 1] I = runs cal 273 302 [vR 100, v1, v2, v3] [vR 100, vI x0, vR 1] I := runs_to (ins_of mI_273 (by rfl)) rfl rfl
set_option maxRecDepth 8000 in
theorem r273_302 : runs cal 273 302 [v0, v1, v2, vI w] [vR 100, vI x1, vR 1] I = runs cal 273 303 [v0, v1, v2, vI w] [vI w, vR 100, vI x1, vR 1] I := runs_to (ins_of mI_273 (by rfl)) rfl rfl
set_option maxRecDepth 8000 in
theorem r273_303 : runs cal 273 303 [v0, v1, v2, v3] [vI x0, vR 100, vI x2, vR 1] I = runs cal 273 304 [v0, v1, v2, v3] [vI (2), vI x0, vR 100, vI x2, vR 1] I := runs_to (ins_of mI_273 (by rfl)) rfl rfl
set_option maxRecDepth 8000 in
theorem r273_304 : runs cal 273 304 [v0, v1, v2, v3] [vI x0, vI x1, vR 100, vI x3, vR 1] I = runs cal 273 305 [v0, v1, v2, v3] [vI (iadd x1 x0), vR 100, vI x3, vR 1] I := runs_to (ins_of mI_273 (by rfl)) rfl rfl
set_option maxRecDepth 8000 in
theorem r273_305 : runs cal 273 305 [v0, v1, v2, v3] [vI x0, vR 100, vI x2, vR 1] I = if 0 ≤ x0 ∧ x0 < I 100 (-1) then runs cal 273 306 [v0, v1, v2, v3] [vI (I 100 x0), vI x2, vR 1] I else none := st_iald8 (ins_of mI_273 (by rfl)) wid_273
set_option maxRecDepth 8000 in
theorem r273_306 : runs cal 273 306 [v0, v1, v2, v3] [vI x0, vI x1, vR 1] I = (cal 114 [vR 1, vI x1, vI x0] I).bind (fun q => runs cal 273 309 [v0, v1, v2, v3] (pushR q.1 []) q.2) := st_call (st := false) (ins_of mI_273 (by rfl)) mC_273 mr_18_38 (by decide) mS_114 mN_114 rfl (Nat.le_of_ble_eq_true rfl) rfl rfl (Or.inr ⟨_, _, rfl, rcv mC_114 rfl wid_273 (by decide +kernel)⟩) (Or.inr wid_273)
set_option maxRecDepth 8000 in
theorem r273_309 : runs cal 273 309 [v0, v1, vR 70, v3] [vI x0] I = runs cal 273 310 [v0, v1, vR 70, v3] [vR 70, vI x0] I := runs_to (ins_of mI_273 (by rfl)) rfl rfl
set_option maxRecDepth 8000 in
theorem r273_310 : runs cal 273 310 [vR 100, v1, v2, v3] [vR 70, vI x1] I = runs cal 273 311 [vR 100, v1, v2, v3] [vR 100, vR 70, vI x1] I := runs_to (ins_of mI_273 (by rfl)) rfl rfl
set_option maxRecDepth 8000 in
theorem r273_311 : runs cal 273 311 [v0, v1, v2, vI w] [vR 100, vR 70, vI x2] I = runs cal 273 312 [v0, v1, v2, vI w] [vI w, vR 100, vR 70, vI x2] I := runs_to (ins_of mI_273 (by rfl)) rfl rfl
set_option maxRecDepth 8000 in
theorem r273_312 : runs cal 273 312 [v0, v1, v2, v3] [vI x0, vR 100, vR 70, vI x3] I = runs cal 273 313 [v0, v1, v2, v3] [vI (1), vI x0, vR 100, vR 70, vI x3] I := runs_to (ins_of mI_273 (by rfl)) rfl rfl
set_option maxRecDepth 8000 in
theorem r273_313 : runs cal 273 313 [v0, v1, v2, v3] [vI x0, vI x1, vR 100, vR 70, vI x4] I = runs cal 273 314 [v0, v1, v2, v3] [vI (iadd x1 x0), vR 100, vR 70, vI x4] I := runs_to (ins_of mI_273 (by rfl)) rfl rfl
set_option maxRecDepth 8000 in
theorem r273_314 : runs cal 273 314 [v0, v1, v2, v3] [vI x0, vR 100, vR 70, vI x3] I = if 0 ≤ x0 ∧ x0 < I 100 (-1) then runs cal 273 315 [v0, v1, v2, v3] [vI (I 100 x0), vR 70, vI x3] I else none := st_iald8 (ins_of mI_273 (by rfl)) wid_273
set_option maxRecDepth 8000 in
theorem r273_315 : runs cal 273 315 [vR 100, v1, v2, v3] [vI x0, vR 70, vI x2] I = runs cal 273 316 [vR 100, v1, v2, v3] [vR 100, vI x0, vR 70, vI x2] I := runs_to (ins_of mI_273 (by rfl)) rfl rfl
set_option maxRecDepth 8000 in
theorem r273_316 : runs cal 273 316 [v0, v1, v2, vI w] [vR 100, vI x1, vR 70, vI x3] I = runs cal 273 317 [v0, v1, v2, vI w] [vI w, vR 100, vI x1, vR 70, vI x3] I := runs_to (ins_of mI_273 (by rfl)) rfl rfl
set_option maxRecDepth 8000 in
theorem r273_317 : runs cal 273 317 [v0, v1, v2, v3] [vI x0, vR 100, vI x2, vR 70, vI x4] I = runs cal 273 318 [v0, v1, v2, v3] [vI (2), vI x0, vR 100, vI x2, vR 70, vI x4] I := runs_to (ins_of mI_273 (by rfl)) rfl rfl
set_option maxRecDepth 8000 in
theorem r273_318 : runs cal 273 318 [v0, v1, v2, v3] [vI x0, vI x1, vR 100, vI x3, vR 70, vI x5] I = runs cal 273 319 [v0, v1, v2, v3] [vI (iadd x1 x0), vR 100, vI x3, vR 70, vI x5] I := runs_to (ins_of mI_273 (by rfl)) rfl rfl
set_option maxRecDepth 8000 in
theorem r273_319 : runs cal 273 319 [v0, v1, v2, v3] [vI x0, vR 100, vI x2, vR 70, vI x4] I = if 0 ≤ x0 ∧ x0 < I 100 (-1) then runs cal 273 320 [v0, v1, v2, v3] [vI (I 100 x0), vI x2, vR 70, vI x4] I else none := st_iald8 (ins_of mI_273 (by rfl)) wid_273
set_option maxRecDepth 8000 in
theorem r273_320 : runs cal 273 320 [v0, v1, v2, v3] [vI x0, vI x1, vR 70, vI x3] I = (cal 232 [vR 70, vI x1, vI x0] I).bind (fun q => runs cal 273 323 [v0, v1, v2, v3] (pushR q.1 [vI x3]) q.2) := st_call (st := false) (ins_of mI_273 (by rfl)) mC_273 mr_18_42 (by decide) mS_232 mN_232 rfl (Nat.le_of_ble_eq_true rfl) rfl rfl (Or.inr ⟨_, _, rfl, rcv mC_232 rfl wid_273 (by decide +kernel)⟩) (Or.inr wid_273)
set_option maxRecDepth 8000 in
theorem r273_323 : runs cal 273 323 [v0, v1, v2, v3] [vI x0, vI x1] I = if x1 = x0 then runs cal 273 825 [v0, v1, v2, v3] [] I else runs cal 273 326 [v0, v1, v2, v3] [] I := st_cmp_eq (ins_of mI_273 (by rfl)) (by decide)
set_option maxRecDepth 8000 in
theorem r273_326 : runs cal 273 326 [v0, v1, v2, v3] [] I = runs cal 273 327 [v0, v1, v2, v3] [vI (0)] I := runs_to (ins_of mI_273 (by rfl)) rfl rfl
set_option maxRecDepth 8000 in
theorem r273_327 : runs cal 273 327 [v0, v1, v2, v3] [vI x0] I = if x0 = 0 ∨ x0 = 1 then some (some (vI x0), I) else none := st_retZ (ins_of mI_273 (by rfl)) mR_273 (Or.inl rfl)
set_option maxRecDepth 8000 in
theorem r273_328 : runs cal 273 328 [v0, vR 1, v2, v3] [] I = runs cal 273 329 [v0, vR 1, v2, v3] [vR 1] I := runs_to (ins_of mI_273 (by rfl)) rfl rfl
set_option maxRecDepth 8000 in
theorem r273_329 : runs cal 273 329 [vR 100, v1, v2, v3] [vR 1] I = runs cal 273 330 [vR 100, v1, v2, v3] [vR 100, vR 1] I := runs_to (ins_of mI_273 (by rfl)) rfl rfl
set_option maxRecDepth 8000 in
theorem r273_330 : runs cal 273 330 [v0, v1, v2, vI w] [vR 100, vR 1] I = runs cal 273 331 [v0, v1, v2, vI w] [vI w, vR 100, vR 1] I := runs_to (ins_of mI_273 (by rfl)) rfl rfl
set_option maxRecDepth 8000 in
theorem r273_331 : runs cal 273 331 [v0, v1, v2, v3] [vI x0, vR 100, vR 1] I = runs cal 273 332 [v0, v1, v2, v3] [vI (1), vI x0, vR 100, vR 1] I := runs_to (ins_of mI_273 (by rfl)) rfl rfl
set_option maxRecDepth 8000 in
theorem r273_332 : runs cal 273 332 [v0, v1, v2, v3] [vI x0, vI x1, vR 100, vR 1] I = runs cal 273 333 [v0, v1, v2, v3] [vI (iadd x1 x0), vR 100, vR 1] I := runs_to (ins_of mI_273 (by rfl)) rfl rfl
set_option maxRecDepth 8000 in
theorem r273_333 : runs cal 273 333 [v0, v1, v2, v3] [vI x0, vR 100, vR 1] I = if 0 ≤ x0 ∧ x0 < I 100 (-1) then runs cal 273 334 [v0, v1, v2, v3] [vI (I 100 x0), vR 1] I else none := st_iald8 (ins_of mI_273 (by rfl)) wid_273
set_option maxRecDepth 8000 in
theorem r273_334 : runs cal 273 334 [vR 100, v1, v2, v3] [vI x0, vR 1] I = runs cal 273 335 [vR 100, v1, v2, v3] [vR 100, vI x0, vR 1] I := runs_to (ins_of mI_273 (by rfl)) rfl rfl
set_option maxRecDepth 8000 in
theorem r273_335 : runs cal 273 335 [v0, v1, v2, vI w] [vR 100, vI x1, vR 1] I = runs cal 273 336 [v0, v1, v2, vI w] [vI w, vR 100, vI x1, vR 1] I := runs_to (ins_of mI_273 (by rfl)) rfl rfl
set_option maxRecDepth 8000 in
theorem r273_336 : runs cal 273 336 [v0, v1, v2, v3] [vI x0, vR 100, vI x2, vR 1] I = runs cal 273 337 [v0, v1, v2, v3] [vI (2), vI x0, vR 100, vI x2, vR 1] I := runs_to (ins_of mI_273 (by rfl)) rfl rfl
set_option maxRecDepth 8000 in
theorem r273_337 : runs cal 273 337 [v0, v1, v2, v3] [vI x0, vI x1, vR 100, vI x3, vR 1] I = runs cal 273 338 [v0, v1, v2, v3] [vI (iadd x1 x0), vR 100, vI x3, vR 1] I := runs_to (ins_of mI_273 (by rfl)) rfl rfl
set_option maxRecDepth 8000 in
theorem r273_338 : runs cal 273 338 [v0, v1, v2, v3] [vI x0, vR 100, vI x2, vR 1] I = if 0 ≤ x0 ∧ x0 < I 100 (-1) then runs cal 273 339 [v0, v1, v2, v3] [vI (I 100 x0), vI x2, vR 1] I else none := st_iald8 (ins_of mI_273 (by rfl)) wid_273
set_option maxRecDepth 8000 in
theorem r273_339 : runs cal 273 339 [v0, v1, v2, v3] [vI x0, vI x1, vR 1] I = (cal 115 [vR 1, vI x1, vI x0] I).bind (fun q => runs cal 273 342 [v0, v1, v2, v3] (pushR q.1 []) q.2) := st_call (st := false) (ins_of mI_273 (by rfl)) mC_273 mr_18_43 (by decide) mS_115 mN_115 rfl (Nat.le_of_ble_eq_true rfl) rfl rfl (Or.inr ⟨_, _, rfl, rcv mC_115 rfl wid_273 (by decide +kernel)⟩) (Or.inr wid_273)
set_option maxRecDepth 8000 in
theorem r273_342 : runs cal 273 342 [v0, v1, vR 70, v3] [vI x0] I = runs cal 273 343 [v0, v1, vR 70, v3] [vR 70, vI x0] I := runs_to (ins_of mI_273 (by rfl)) rfl rfl
set_option maxRecDepth 8000 in
theorem r273_343 : runs cal 273 343 [vR 100, v1, v2, v3] [vR 70, vI x1] I = runs cal 273 344 [vR 100, v1, v2, v3] [vR 100, vR 70, vI x1] I := runs_to (ins_of mI_273 (by rfl)) rfl rfl
set_option maxRecDepth 8000 in
theorem r273_344 : runs cal 273 344 [v0, v1, v2, vI w] [vR 100, vR 70, vI x2] I = runs cal 273 345 [v0, v1, v2, vI w] [vI w, vR 100, vR 70, vI x2] I := runs_to (ins_of mI_273 (by rfl)) rfl rfl
set_option maxRecDepth 8000 in
theorem r273_345 : runs cal 273 345 [v0, v1, v2, v3] [vI x0, vR 100, vR 70, vI x3] I = runs cal 273 346 [v0, v1, v2, v3] [vI (1), vI x0, vR 100, vR 70, vI x3] I := runs_to (ins_of mI_273 (by rfl)) rfl rfl
set_option maxRecDepth 8000 in
theorem r273_346 : runs cal 273 346 [v0, v1, v2, v3] [vI x0, vI x1, vR 100, vR 70, vI x4] I = runs cal 273 347 [v0, v1, v2, v3] [vI (iadd x1 x0), vR 100, vR 70, vI x4] I := runs_to (ins_of mI_273 (by rfl)) rfl rfl
set_option maxRecDepth 8000 in
theorem r273_347 : runs cal 273 347 [v0, v1, v2, v3] [vI x0, vR 100, vR 70, vI x3] I = if 0 ≤ x0 ∧ x0 < I 100 (-1) then runs cal 273 348 [v0, v1, v2, v3] [vI (I 100 x0), vR 70, vI x3] I else none := st_iald8 (ins_of mI_273 (by rfl)) wid_273
set_option maxRecDepth 8000 in
theorem r273_348 : runs cal 273 348 [vR 100, v1, v2, v3] [vI x0, vR 70, vI x2] I = runs cal 273 349 [vR 100, v1, v2, v3] [vR 100, vI x0, vR 70, vI x2] I := runs_to (ins_of mI_273 (by rfl)) rfl rfl
set_option maxRecDepth 8000 in
theorem r273_349 : runs cal 273 349 [v0, v1, v2, vI w] [vR 100, vI x1, vR 70, vI x3] I = runs cal 273 350 [v0, v1, v2, vI w] [vI w, vR 100, vI x1, vR 70, vI x3] I := runs_to (ins_of mI_273 (by rfl)) rfl rfl
set_option maxRecDepth 8000 in
theorem r273_350 : runs cal 273 350 [v0, v1, v2, v3] [vI x0, vR 100, vI x2, vR 70, vI x4] I = runs cal 273 351 [v0, v1, v2, v3] [vI (2), vI x0, vR 100, vI x2, vR 70, vI x4] I := runs_to (ins_of mI_273 (by rfl)) rfl rfl
set_option maxRecDepth 8000 in
theorem r273_351 : runs cal 273 351 [v0, v1, v2, v3] [vI x0, vI x1, vR 100, vI x3, vR 70, vI x5] I = runs cal 273 352 [v0, v1, v2, v3] [vI (iadd x1 x0), vR 100, vI x3, vR 70, vI x5] I := runs_to (ins_of mI_273 (by rfl)) rfl rfl
set_option maxRecDepth 8000 in
theorem r273_352 : runs cal 273 352 [v0, v1, v2, v3] [vI x0, vR 100, vI x2, vR 70, vI x4] I = if 0 ≤ x0 ∧ x0 < I 100 (-1) then runs cal 273 353 [v0, v1, v2, v3] [vI (I 100 x0), vI x2, vR 70, vI x4] I else none := st_iald8 (ins_of mI_273 (by rfl)) wid_273
set_option maxRecDepth 8000 in
theorem r273_353 : runs cal 273 353 [v0, v1, v2, v3] [vI x0, vI x1, vR 70, vI x3] I = (cal 233 [vR 70, vI x1, vI x0] I).bind (fun q => runs cal 273 356 [v0, v1, v2, v3] (pushR q.1 [vI x3]) q.2) := st_call (st := false) (ins_of mI_273 (by rfl)) mC_273 mr_18_46 (by decide) mS_233 mN_233 rfl (Nat.le_of_ble_eq_true rfl) rfl rfl (Or.inr ⟨_, _, rfl, rcv mC_233 rfl wid_273 (by decide +kernel)⟩) (Or.inr wid_273)
set_option maxRecDepth 8000 in
theorem r273_356 : runs cal 273 356 [v0, v1, v2, v3] [vI x0, vI x1] I = if x1 = x0 then runs cal 273 825 [v0, v1, v2, v3] [] I else runs cal 273 359 [v0, v1, v2, v3] [] I := st_cmp_eq (ins_of mI_273 (by rfl)) (by decide)
set_option maxRecDepth 8000 in
theorem r273_359 : runs cal 273 359 [v0, v1, v2, v3] [] I = runs cal 273 360 [v0, v1, v2, v3] [vI (0)] I := runs_to (ins_of mI_273 (by rfl)) rfl rfl
set_option maxRecDepth 8000 in
theorem r273_360 : runs cal 273 360 [v0, v1, v2, v3] [vI x0] I = if x0 = 0 ∨ x0 = 1 then some (some (vI x0), I) else none := st_retZ (ins_of mI_273 (by rfl)) mR_273 (Or.inl rfl)
set_option maxRecDepth 8000 in
theorem r273_361 : runs cal 273 361 [v0, vR 1, v2, v3] [] I = runs cal 273 362 [v0, vR 1, v2, v3] [vR 1] I := runs_to (ins_of mI_273 (by rfl)) rfl rfl
set_option maxRecDepth 8000 in
theorem r273_362 : runs cal 273 362 [vR 100, v1, v2, v3] [vR 1] I = runs cal 273 363 [vR 100, v1, v2, v3] [vR 100, vR 1] I := runs_to (ins_of mI_273 (by rfl)) rfl rfl
set_option maxRecDepth 8000 in
theorem r273_363 : runs cal 273 363 [v0, v1, v2, vI w] [vR 100, vR 1] I = runs cal 273 364 [v0, v1, v2, vI w] [vI w, vR 100, vR 1] I := runs_to (ins_of mI_273 (by rfl)) rfl rfl
set_option maxRecDepth 8000 in
theorem r273_364 : runs cal 273 364 [v0, v1, v2, v3] [vI x0, vR 100, vR 1] I = runs cal 273 365 [v0, v1, v2, v3] [vI (1), vI x0, vR 100, vR 1] I := runs_to (ins_of mI_273 (by rfl)) rfl rfl
set_option maxRecDepth 8000 in
theorem r273_365 : runs cal 273 365 [v0, v1, v2, v3] [vI x0, vI x1, vR 100, vR 1] I = runs cal 273 366 [v0, v1, v2, v3] [vI (iadd x1 x0), vR 100, vR 1] I := runs_to (ins_of mI_273 (by rfl)) rfl rfl
set_option maxRecDepth 8000 in
theorem r273_366 : runs cal 273 366 [v0, v1, v2, v3] [vI x0, vR 100, vR 1] I = if 0 ≤ x0 ∧ x0 < I 100 (-1) then runs cal 273 367 [v0, v1, v2, v3] [vI (I 100 x0), vR 1] I else none := st_iald8 (ins_of mI_273 (by rfl)) wid_273
set_option maxRecDepth 8000 in
theorem r273_367 : runs cal 273 367 [v0, v1, v2, v3] [vI x0, vR 1] I = (cal 116 [vR 1, vI x0] I).bind (fun q => runs cal 273 370 [v0, v1, v2, v3] (pushR q.1 []) q.2) := st_call (st := false) (ins_of mI_273 (by rfl)) mC_273 mr_18_47 (by decide) mS_116 mN_116 rfl (Nat.le_of_ble_eq_true rfl) rfl rfl (Or.inr ⟨_, _, rfl, rcv mC_116 rfl wid_273 (by decide +kernel)⟩) (Or.inr wid_273)
set_option maxRecDepth 8000 in
theorem r273_370 : runs cal 273 370 [v0, v1, vR 70, v3] [vI x0] I = runs cal 273 371 [v0, v1, vR 70, v3] [vR 70, vI x0] I := runs_to (ins_of mI_273 (by rfl)) rfl rfl
set_option maxRecDepth 8000 in
theorem r273_371 : runs cal 273 371 [vR 100, v1, v2, v3] [vR 70, vI x1] I = runs cal 273 372 [vR 100, v1, v2, v3] [vR 100, vR 70, vI x1] I := runs_to (ins_of mI_273 (by rfl)) rfl rfl
set_option maxRecDepth 8000 in
theorem r273_372 : runs cal 273 372 [v0, v1, v2, vI w] [vR 100, vR 70, vI x2] I = runs cal 273 373 [v0, v1, v2, vI w] [vI w, vR 100, vR 70, vI x2] I := runs_to (ins_of mI_273 (by rfl)) rfl rfl
set_option maxRecDepth 8000 in
theorem r273_373 : runs cal 273 373 [v0, v1, v2, v3] [vI x0, vR 100, vR 70, vI x3] I = runs cal 273 374 [v0, v1, v2, v3] [vI (1), vI x0, vR 100, vR 70, vI x3] I := runs_to (ins_of mI_273 (by rfl)) rfl rfl
set_option maxRecDepth 8000 in
theorem r273_374 : runs cal 273 374 [v0, v1, v2, v3] [vI x0, vI x1, vR 100, vR 70, vI x4] I = runs cal 273 375 [v0, v1, v2, v3] [vI (iadd x1 x0), vR 100, vR 70, vI x4] I := runs_to (ins_of mI_273 (by rfl)) rfl rfl
set_option maxRecDepth 8000 in
theorem r273_375 : runs cal 273 375 [v0, v1, v2, v3] [vI x0, vR 100, vR 70, vI x3] I = if 0 ≤ x0 ∧ x0 < I 100 (-1) then runs cal 273 376 [v0, v1, v2, v3] [vI (I 100 x0), vR 70, vI x3] I else none := st_iald8 (ins_of mI_273 (by rfl)) wid_273
set_option maxRecDepth 8000 in
theorem r273_376 : runs cal 273 376 [v0, v1, v2, v3] [vI x0, vR 70, vI x2] I = (cal 194 [vR 70, vI x0] I).bind (fun q => runs cal 273 379 [v0, v1, v2, v3] (pushR q.1 [vI x2]) q.2) := st_call (st := false) (ins_of mI_273 (by rfl)) mC_273 mr_18_50 (by decide) mS_194 mN_194 rfl (Nat.le_of_ble_eq_true rfl) rfl rfl (Or.inr ⟨_, _, rfl, rcv mC_194 rfl wid_273 (by decide +kernel)⟩) (Or.inr wid_273)
set_option maxRecDepth 8000 in
theorem r273_379 : runs cal 273 379 [v0, v1, v2, v3] [vI x0, vI x1] I = if x1 = x0 then runs cal 273 825 [v0, v1, v2, v3] [] I else runs cal 273 382 [v0, v1, v2, v3] [] I := st_cmp_eq (ins_of mI_273 (by rfl)) (by decide)
set_option maxRecDepth 8000 in
theorem r273_382 : runs cal 273 382 [v0, v1, v2, v3] [] I = runs cal 273 383 [v0, v1, v2, v3] [vI (0)] I := runs_to (ins_of mI_273 (by rfl)) rfl rfl
set_option maxRecDepth 8000 in
theorem r273_383 : runs cal 273 383 [v0, v1, v2, v3] [vI x0] I = if x0 = 0 ∨ x0 = 1 then some (some (vI x0), I) else none := st_retZ (ins_of mI_273 (by rfl)) mR_273 (Or.inl rfl)
set_option maxRecDepth 8000 in
theorem r273_384 : runs cal 273 384 [v0, vR 1, v2, v3] [] I = runs cal 273 385 [v0, vR 1, v2, v3] [vR 1] I := runs_to (ins_of mI_273 (by rfl)) rfl rfl
set_option maxRecDepth 8000 in
theorem r273_385 : runs cal 273 385 [vR 100, v1, v2, v3] [vR 1] I = runs cal 273 386 [vR 100, v1, v2, v3] [vR 100, vR 1] I := runs_to (ins_of mI_273 (by rfl)) rfl rfl
set_option maxRecDepth 8000 in
theorem r273_386 : runs cal 273 386 [v0, v1, v2, vI w] [vR 100, vR 1] I = runs cal 273 387 [v0, v1, v2, vI w] [vI w, vR 100, vR 1] I := runs_to (ins_of mI_273 (by rfl)) rfl rfl
set_option maxRecDepth 8000 in
theorem r273_387 : runs cal 273 387 [v0, v1, v2, v3] [vI x0, vR 100, vR 1] I = runs cal 273 388 [v0, v1, v2, v3] [vI (1), vI x0, vR 100, vR 1] I := runs_to (ins_of mI_273 (by rfl)) rfl rfl
set_option maxRecDepth 8000 in
theorem r273_388 : runs cal 273 388 [v0, v1, v2, v3] [vI x0, vI x1, vR 100, vR 1] I = runs cal 273 389 [v0, v1, v2, v3] [vI (iadd x1 x0), vR 100, vR 1] I := runs_to (ins_of mI_273 (by rfl)) rfl rfl
set_option maxRecDepth 8000 in
theorem r273_389 : runs cal 273 389 [v0, v1, v2, v3] [vI x0, vR 100, vR 1] I = if 0 ≤ x0 ∧ x0 < I 100 (-1) then runs cal 273 390 [v0, v1, v2, v3] [vI (I 100 x0), vR 1] I else none := st_iald8 (ins_of mI_273 (by rfl)) wid_273
set_option maxRecDepth 8000 in
theorem r273_390 : runs cal 273 390 [v0, v1, v2, v3] [vI x0, vR 1] I = (cal 117 [vR 1, vI x0] I).bind (fun q => runs cal 273 393 [v0, v1, v2, v3] (pushR q.1 []) q.2) := st_call (st := false) (ins_of mI_273 (by rfl)) mC_273 mr_18_51 (by decide) mS_117 mN_117 rfl (Nat.le_of_ble_eq_true rfl) rfl rfl (Or.inr ⟨_, _, rfl, rcv mC_117 rfl wid_273 (by decide +kernel)⟩) (Or.inr wid_273)
set_option maxRecDepth 8000 in
theorem r273_393 : runs cal 273 393 [v0, v1, vR 70, v3] [vI x0] I = runs cal 273 394 [v0, v1, vR 70, v3] [vR 70, vI x0] I := runs_to (ins_of mI_273 (by rfl)) rfl rfl
set_option maxRecDepth 8000 in
theorem r273_394 : runs cal 273 394 [vR 100, v1, v2, v3] [vR 70, vI x1] I = runs cal 273 395 [vR 100, v1, v2, v3] [vR 100, vR 70, vI x1] I := runs_to (ins_of mI_273 (by rfl)) rfl rfl
set_option maxRecDepth 8000 in
theorem r273_395 : runs cal 273 395 [v0, v1, v2, vI w] [vR 100, vR 70, vI x2] I = runs cal 273 396 [v0, v1, v2, vI w] [vI w, vR 100, vR 70, vI x2] I := runs_to (ins_of mI_273 (by rfl)) rfl rfl
set_option maxRecDepth 8000 in
theorem r273_396 : runs cal 273 396 [v0, v1, v2, v3] [vI x0, vR 100, vR 70, vI x3] I = runs cal 273 397 [v0, v1, v2, v3] [vI (1), vI x0, vR 100, vR 70, vI x3] I := runs_to (ins_of mI_273 (by rfl)) rfl rfl
set_option maxRecDepth 8000 in
theorem r273_397 : runs cal 273 397 [v0, v1, v2, v3] [vI x0, vI x1, vR 100, vR 70, vI x4] I = runs cal 273 398 [v0, v1, v2, v3] [vI (iadd x1 x0), vR 100, vR 70, vI x4] I := runs_to (ins_of mI_273 (by rfl)) rfl rfl
set_option maxRecDepth 8000 in
theorem r273_398 : runs cal 273 398 [v0, v1, v2, v3] [vI x0, vR 100, vR 70, vI x3] I = if 0 ≤ x0 ∧ x0 < I 100 (-1) then runs cal 273 399 [v0, v1, v2, v3] [vI (I 100 x0), vR 70, vI x3] I else none := st_iald8 (ins_of mI_273 (by rfl)) wid_273
set_option maxRecDepth 8000 in
theorem r273_399 : runs cal 273 399 [v0, v1, v2, v3] [vI x0, vR 70, vI x2] I = (cal 195 [vR 70, vI x0] I).bind (fun q => runs cal 273 402 [v0, v1, v2, v3] (pushR q.1 [vI x2]) q.2) := st_call (st := false) (ins_of mI_273 (by rfl)) mC_273 mr_18_54 (by decide) mS_195 mN_195 rfl (Nat.le_of_ble_eq_true rfl) rfl rfl (Or.inr ⟨_, _, rfl, rcv mC_195 rfl wid_273 (by decide +kernel)⟩) (Or.inr wid_273)
set_option maxRecDepth 8000 in
theorem r273_402 : runs cal 273 402 [v0, v1, v2, v3] [vI x0, vI x1] I = if x1 = x0 then runs cal 273 825 [v0, v1, v2, v3] [] I else runs cal 273 405 [v0, v1, v2, v3] [] I := st_cmp_eq (ins_of mI_273 (by rfl)) (by decide)
set_option maxRecDepth 8000 in
theorem r273_405 : runs cal 273 405 [v0, v1, v2, v3] [] I = runs cal 273 406 [v0, v1, v2, v3] [vI (0)] I := runs_to (ins_of mI_273 (by rfl)) rfl rfl
set_option maxRecDepth 8000 in
theorem r273_406 : runs cal 273 406 [v0, v1, v2, v3] [vI x0] I = if x0 = 0 ∨ x0 = 1 then some (some (vI x0), I) else none := st_retZ (ins_of mI_273 (by rfl)) mR_273 (Or.inl rfl)
set_option maxRecDepth 8000 in
theorem r273_407 : runs cal 273 407 [v0, vR 1, v2, v3] [] I = runs cal 273 408 [v0, vR 1, v2, v3] [vR 1] I := runs_to (ins_of mI_273 (by rfl)) rfl rfl
set_option maxRecDepth 8000 in
theorem r273_408 : runs cal 273 408 [v0, v1, v2, v3] [vR 1] I = (cal 118 [vR 1] I).bind (fun q => runs cal 273 411 [v0, v1, v2, v3] (pushR q.1 []) q.2) := st_call (st := false) (ins_of mI_273 (by rfl)) mC_273 mr_18_55 (by decide) mS_118 mN_118 rfl (Nat.le_of_ble_eq_true rfl) rfl rfl (Or.inr ⟨_, _, rfl, rcv mC_118 rfl wid_273 (by decide +kernel)⟩) (Or.inr wid_273)
set_option maxRecDepth 8000 in
theorem r273_411 : runs cal 273 411 [v0, v1, vR 70, v3] [vI x0] I = runs cal 273 412 [v0, v1, vR 70, v3] [vR 70, vI x0] I := runs_to (ins_of mI_273 (by rfl)) rfl rfl
set_option maxRecDepth 8000 in
theorem r273_412 : runs cal 273 412 [v0, v1, v2, v3] [vR 70, vI x1] I = (cal 196 [vR 70] I).bind (fun q => runs cal 273 415 [v0, v1, v2, v3] (pushR q.1 [vI x1]) q.2) := st_call (st := false) (ins_of mI_273 (by rfl)) mC_273 mr_18_58 (by decide) mS_196 mN_196 rfl (Nat.le_of_ble_eq_true rfl) rfl rfl (Or.inr ⟨_, _, rfl, rcv mC_196 rfl wid_273 (by decide +kernel)⟩) (Or.inr wid_273)
set_option maxRecDepth 8000 in
theorem r273_415 : runs cal 273 415 [v0, v1, v2, v3] [vI x0, vI x1] I = if x1 = x0 then runs cal 273 825 [v0, v1, v2, v3] [] I else runs cal 273 418 [v0, v1, v2, v3] [] I := st_cmp_eq (ins_of mI_273 (by rfl)) (by decide)
set_option maxRecDepth 8000 in
theorem r273_418 : runs cal 273 418 [v0, v1, v2, v3] [] I = runs cal 273 419 [v0, v1, v2, v3] [vI (0)] I := runs_to (ins_of mI_273 (by rfl)) rfl rfl
set_option maxRecDepth 8000 in
theorem r273_419 : runs cal 273 419 [v0, v1, v2, v3] [vI x0] I = if x0 = 0 ∨ x0 = 1 then some (some (vI x0), I) else none := st_retZ (ins_of mI_273 (by rfl)) mR_273 (Or.inl rfl)
set_option maxRecDepth 8000 in
theorem r273_420 : runs cal 273 420 [v0, vR 1, v2, v3] [] I = runs cal 273 421 [v0, vR 1, v2, v3] [vR 1] I := runs_to (ins_of mI_273 (by rfl)) rfl rfl
set_option maxRecDepth 8000 in
theorem r273_421 : runs cal 273 421 [v0, v1, v2, v3] [vR 1] I = (cal 119 [vR 1] I).bind (fun q => runs cal 273 424 [v0, v1, v2, v3] (pushR q.1 []) q.2) := st_call (st := false) (ins_of mI_273 (by rfl)) mC_273 mr_18_59 (by decide) mS_119 mN_119 rfl (Nat.le_of_ble_eq_true rfl) rfl rfl (Or.inr ⟨_, _, rfl, rcv mC_119 rfl wid_273 (by decide +kernel)⟩) (Or.inr wid_273)
set_option maxRecDepth 8000 in
theorem r273_424 : runs cal 273 424 [v0, v1, vR 70, v3] [vI x0] I = runs cal 273 425 [v0, v1, vR 70, v3] [vR 70, vI x0] I := runs_to (ins_of mI_273 (by rfl)) rfl rfl
set_option maxRecDepth 8000 in
theorem r273_425 : runs cal 273 425 [v0, v1, v2, v3] [vR 70, vI x1] I = (cal 197 [vR 70] I).bind (fun q => runs cal 273 428 [v0, v1, v2, v3] (pushR q.1 [vI x1]) q.2) := st_call (st := false) (ins_of mI_273 (by rfl)) mC_273 mr_18_62 (by decide) mS_197 mN_197 rfl (Nat.le_of_ble_eq_true rfl) rfl rfl (Or.inr ⟨_, _, rfl, rcv mC_197 rfl wid_273 (by decide +kernel)⟩) (Or.inr wid_273)
set_option maxRecDepth 8000 in
theorem r273_428 : runs cal 273 428 [v0, v1, v2, v3] [vI x0, vI x1] I = if x1 = x0 then runs cal 273 825 [v0, v1, v2, v3] [] I else runs cal 273 431 [v0, v1, v2, v3] [] I := st_cmp_eq (ins_of mI_273 (by rfl)) (by decide)
set_option maxRecDepth 8000 in
theorem r273_431 : runs cal 273 431 [v0, v1, v2, v3] [] I = runs cal 273 432 [v0, v1, v2, v3] [vI (0)] I := runs_to (ins_of mI_273 (by rfl)) rfl rfl
set_option maxRecDepth 8000 in
theorem r273_432 : runs cal 273 432 [v0, v1, v2, v3] [vI x0] I = if x0 = 0 ∨ x0 = 1 then some (some (vI x0), I) else none := st_retZ (ins_of mI_273 (by rfl)) mR_273 (Or.inl rfl)
set_option maxRecDepth 8000 in
theorem r273_433 : runs cal 273 433 [v0, vR 1, v2, v3] [] I = runs cal 273 434 [v0, vR 1, v2, v3] [vR 1] I := runs_to (ins_of mI_273 (by rfl)) rfl rfl
set_option maxRecDepth 8000 in
theorem r273_434 : runs cal 273 434 [v0, v1, v2, v3] [vR 1] I = (cal 120 [vR 1] I).bind (fun q => runs cal 273 437 [v0, v1, v2, v3] (pushR q.1 []) q.2) := st_call (st := false) (ins_of mI_273 (by rfl)) mC_273 mr_18_63 (by decide) mS_120 mN_120 rfl (Nat.le_of_ble_eq_true rfl) rfl rfl (Or.inr ⟨_, _, rfl, rcv mC_120 rfl wid_273 (by decide +kernel)⟩) (Or.inr wid_273)
set_option maxRecDepth 8000 in
theorem r273_437 : runs cal 273 437 [v0, v1, vR 70, v3] [vI x0] I = runs cal 273 438 [v0, v1, vR 70, v3] [vR 70, vI x0] I := runs_to (ins_of mI_273 (by rfl)) rfl rfl
set_option maxRecDepth 8000 in
theorem r273_438 : runs cal 273 438 [v0, v1, v2, v3] [vR 70, vI x1] I = (cal 206 [vR 70] I).bind (fun q => runs cal 273 441 [v0, v1, v2, v3] (pushR q.1 [vI x1]) q.2) := st_call (st := false) (ins_of mI_273 (by rfl)) mC_273 mr_18_66 (by decide) mS_206 mN_206 rfl (Nat.le_of_ble_eq_true rfl) rfl rfl (Or.inr ⟨_, _, rfl, rcv mC_206 rfl wid_273 (by decide +kernel)⟩) (Or.inr wid_273)
set_option maxRecDepth 8000 in
theorem r273_441 : runs cal 273 441 [v0, v1, v2, v3] [vI x0, vI x1] I = if x1 = x0 then runs cal 273 825 [v0, v1, v2, v3] [] I else runs cal 273 444 [v0, v1, v2, v3] [] I := st_cmp_eq (ins_of mI_273 (by rfl)) (by decide)
set_option maxRecDepth 8000 in
theorem r273_444 : runs cal 273 444 [v0, v1, v2, v3] [] I = runs cal 273 445 [v0, v1, v2, v3] [vI (0)] I := runs_to (ins_of mI_273 (by rfl)) rfl rfl
set_option maxRecDepth 8000 in
theorem r273_445 : runs cal 273 445 [v0, v1, v2, v3] [vI x0] I = if x0 = 0 ∨ x0 = 1 then some (some (vI x0), I) else none := st_retZ (ins_of mI_273 (by rfl)) mR_273 (Or.inl rfl)
set_option maxRecDepth 8000 in
theorem r273_446 : runs cal 273 446 [v0, vR 1, v2, v3] [] I = runs cal 273 447 [v0, vR 1, v2, v3] [vR 1] I := runs_to (ins_of mI_273 (by rfl)) rfl rfl
set_option maxRecDepth 8000 in
theorem r273_447 : runs cal 273 447 [vR 100, v1, v2, v3] [vR 1] I = runs cal 273 448 [vR 100, v1, v2, v3] [vR 100, vR 1] I := runs_to (ins_of mI_273 (by rfl)) rfl rfl
set_option maxRecDepth 8000 in
theorem r273_448 : runs cal 273 448 [v0, v1, v2, vI w] [vR 100, vR 1] I = runs cal 273 449 [v0, v1, v2, vI w] [vI w, vR 100, vR 1] I := runs_to (ins_of mI_273 (by rfl)) rfl rfl
set_option maxRecDepth 8000 in
theorem r273_449 : runs cal 273 449 [v0, v1, v2, v3] [vI x0, vR 100, vR 1] I = runs cal 273 450 [v0, v1, v2, v3] [vI (1), vI x0, vR 100, vR 1] I := runs_to (ins_of mI_273 (by rfl)) rfl rfl
set_option maxRecDepth 8000 in
theorem r273_450 : runs cal 273 450 [v0, v1, v2, v3] [vI x0, vI x1, vR 100, vR 1] I = runs cal 273 451 [v0, v1, v2, v3] [vI (iadd x1 x0), vR 100, vR 1] I := runs_to (ins_of mI_273 (by rfl)) rfl rfl
set_option maxRecDepth 8000 in
theorem r273_451 : runs cal 273 451 [v0, v1, v2, v3] [vI x0, vR 100, vR 1] I = if 0 ≤ x0 ∧ x0 < I 100 (-1) then runs cal 273 452 [v0, v1, v2, v3] [vI (I 100 x0), vR 1] I else none := st_iald8 (ins_of mI_273 (by rfl)) wid_273
set_option maxRecDepth 8000 in
theorem r273_452 : runs cal 273 452 [v0, v1, v2, v3] [vI x0, vR 1] I = (cal 121 [vR 1, vI x0] I).bind (fun q => runs cal 273 455 [v0, v1, v2, v3] (pushR q.1 []) q.2) := st_call (st := false) (ins_of mI_273 (by rfl)) mC_273 mr_18_67 (by decide) mS_121 mN_121 rfl (Nat.le_of_ble_eq_true rfl) rfl rfl (Or.inr ⟨_, _, rfl, rcv mC_121 rfl wid_273 (by decide +kernel)⟩) (Or.inr wid_273)
set_option maxRecDepth 8000 in
theorem r273_455 : runs cal 273 455 [v0, v1, vR 70, v3] [vI x0] I = runs cal 273 456 [v0, v1, vR 70, v3] [vR 70, vI x0] I := runs_to (ins_of mI_273 (by rfl)) rfl rfl
set_option maxRecDepth 8000 in
theorem r273_456 : runs cal 273 456 [vR 100, v1, v2, v3] [vR 70, vI x1] I = runs cal 273 457 [vR 100, v1, v2, v3] [vR 100, vR 70, vI x1] I := runs_to (ins_of mI_273 (by rfl)) rfl rfl
set_option maxRecDepth 8000 in
theorem r273_457 : runs cal 273 457 [v0, v1, v2, vI w] [vR 100, vR 70, vI x2] I = runs cal 273 458 [v0, v1, v2, vI w] [vI w, vR 100, vR 70, vI x2] I := runs_to (ins_of mI_273 (by rfl)) rfl rfl
set_option maxRecDepth 8000 in
theorem r273_458 : runs cal 273 458 [v0, v1, v2, v3] [vI x0, vR 100, vR 70, vI x3] I = runs cal 273 459 [v0, v1, v2, v3] [vI (1), vI x0, vR 100, vR 70, vI x3] I := runs_to (ins_of mI_273 (by rfl)) rfl rfl
set_option maxRecDepth 8000 in
theorem r273_459 : runs cal 273 459 [v0, v1, v2, v3] [vI x0, vI x1, vR 100, vR 70, vI x4] I = runs cal 273 460 [v0, v1, v2, v3] [vI (iadd x1 x0), vR 100, vR 70, vI x4] I := runs_to (ins_of mI_273 (by rfl)) rfl rfl
set_option maxRecDepth 8000 in
theorem r273_460 : runs cal 273 460 [v0, v1, v2, v3] [vI x0, vR 100, vR 70, vI x3] I = if 0 ≤ x0 ∧ x0 < I 100 (-1) then runs cal 273 461 [v0, v1, v2, v3] [vI (I 100 x0), vR 70, vI x3] I else none := st_iald8 (ins_of mI_273 (by rfl)) wid_273
set_option maxRecDepth 8000 in
theorem r273_461 : runs cal 273 461 [v0, v1, v2, v3] [vI x0, vR 70, vI x2] I = (cal 209 [vR 70, vI x0] I).bind (fun q => runs cal 273 464 [v0, v1, v2, v3] (pushR q.1 [vI x2]) q.2) := st_call (st := false) (ins_of mI_273 (by rfl)) mC_273 mr_18_70 (by decide) mS_209 mN_209 rfl (Nat.le_of_ble_eq_true rfl) rfl rfl (Or.inr ⟨_, _, rfl, rcv mC_209 rfl wid_273 (by decide +kernel)⟩) (Or.inr wid_273)
set_option maxRecDepth 8000 in
theorem r273_464 : runs cal 273 464 [v0, v1, v2, v3] [vI x0, vI x1] I = if x1 = x0 then runs cal 273 825 [v0, v1, v2, v3] [] I else runs cal 273 467 [v0, v1, v2, v3] [] I := st_cmp_eq (ins_of mI_273 (by rfl)) (by decide)
set_option maxRecDepth 8000 in
theorem r273_467 : runs cal 273 467 [v0, v1, v2, v3] [] I = runs cal 273 468 [v0, v1, v2, v3] [vI (0)] I := runs_to (ins_of mI_273 (by rfl)) rfl rfl
set_option maxRecDepth 8000 in
theorem r273_468 : runs cal 273 468 [v0, v1, v2, v3] [vI x0] I = if x0 = 0 ∨ x0 = 1 then some (some (vI x0), I) else none := st_retZ (ins_of mI_273 (by rfl)) mR_273 (Or.inl rfl)
set_option maxRecDepth 8000 in
theorem r273_469 : runs cal 273 469 [v0, vR 1, v2, v3] [] I = runs cal 273 470 [v0, vR 1, v2, v3] [vR 1] I := runs_to (ins_of mI_273 (by rfl)) rfl rfl
set_option maxRecDepth 8000 in
theorem r273_470 : runs cal 273 470 [vR 100, v1, v2, v3] [vR 1] I = runs cal 273 471 [vR 100, v1, v2, v3] [vR 100, vR 1] I := runs_to (ins_of mI_273 (by rfl)) rfl rfl
set_option maxRecDepth 8000 in
theorem r273_471 : runs cal 273 471 [v0, v1, v2, vI w] [vR 100, vR 1] I = runs cal 273 472 [v0, v1, v2, vI w] [vI w, vR 100, vR 1] I := runs_to (ins_of mI_273 (by rfl)) rfl rfl
set_option maxRecDepth 8000 in
theorem r273_472 : runs cal 273 472 [v0, v1, v2, v3] [vI x0, vR 100, vR 1] I = runs cal 273 473 [v0, v1, v2, v3] [vI (1), vI x0, vR 100, vR 1] I := runs_to (ins_of mI_273 (by rfl)) rfl rfl
set_option maxRecDepth 8000 in
theorem r273_473 : runs cal 273 473 [v0, v1, v2, v3] [vI x0, vI x1, vR 100, vR 1] I = runs cal 273 474 [v0, v1, v2, v3] [vI (iadd x1 x0), vR 100, vR 1] I := runs_to (ins_of mI_273 (by rfl)) rfl rfl
set_option maxRecDepth 8000 in
theorem r273_474 : runs cal 273 474 [v0, v1, v2, v3] [vI x0, vR 100, vR 1] I = if 0 ≤ x0 ∧ x0 < I 100 (-1) then runs cal 273 475 [v0, v1, v2, v3] [vI (I 100 x0), vR 1] I else none := st_iald8 (ins_of mI_273 (by rfl)) wid_273
set_option maxRecDepth 8000 in
theorem r273_475 : runs cal 273 475 [v0, v1, v2, v3] [vI x0, vR 1] I = (cal 122 [vR 1, vI x0] I).bind (fun q => runs cal 273 478 [v0, v1, v2, v3] (pushR q.1 []) q.2) := st_call (st := false) (ins_of mI_273 (by rfl)) mC_273 mr_18_71 (by decide) mS_122 mN_122 rfl (Nat.le_of_ble_eq_true rfl) rfl rfl (Or.inr ⟨_, _, rfl, rcv mC_122 rfl wid_273 (by decide +kernel)⟩) (Or.inr wid_273)
set_option maxRecDepth 8000 in
theorem r273_478 : runs cal 273 478 [v0, v1, vR 70, v3] [vI x0] I = runs cal 273 479 [v0, v1, vR 70, v3] [vR 70, vI x0] I := runs_to (ins_of mI_273 (by rfl)) rfl rfl
set_option maxRecDepth 8000 in
theorem r273_479 : runs cal 273 479 [vR 100, v1, v2, v3] [vR 70, vI x1] I = runs cal 273 480 [vR 100, v1, v2, v3] [vR 100, vR 70, vI x1] I := runs_to (ins_of mI_273 (by rfl)) rfl rfl
set_option maxRecDepth 8000 in
theorem r273_480 : runs cal 273 480 [v0, v1, v2, vI w] [vR 100, vR 70, vI x2] I = runs cal 273 481 [v0, v1, v2, vI w] [vI w, vR 100, vR 70, vI x2] I := runs_to (ins_of mI_273 (by rfl)) rfl rfl
set_option maxRecDepth 8000 in
theorem r273_481 : runs cal 273 481 [v0, v1, v2, v3] [vI x0, vR 100, vR 70, vI x3] I = runs cal 273 482 [v0, v1, v2, v3] [vI (1), vI x0, vR 100, vR 70, vI x3] I := runs_to (ins_of mI_273 (by rfl)) rfl rfl
set_option maxRecDepth 8000 in
theorem r273_482 : runs cal 273 482 [v0, v1, v2, v3] [vI x0, vI x1, vR 100, vR 70, vI x4] I = runs cal 273 483 [v0, v1, v2, v3] [vI (iadd x1 x0), vR 100, vR 70, vI x4] I := runs_to (ins_of mI_273 (by rfl)) rfl rfl
set_option maxRecDepth 8000 in
theorem r273_483 : runs cal 273 483 [v0, v1, v2, v3] [vI x0, vR 100, vR 70, vI x3] I = if 0 ≤ x0 ∧ x0 < I 100 (-1) then runs cal 273 484 [v0, v1, v2, v3] [vI (I 100 x0), vR 70, vI x3] I else none := st_iald8 (ins_of mI_273 (by rfl)) wid_273
set_option maxRecDepth 8000 in
theorem r273_484 : runs cal 273 484 [v0, v1, v2, v3] [vI x0, vR 70, vI x2] I = (cal 211 [vR 70, vI x0] I).bind (fun q => runs cal 273 487 [v0, v1, v2, v3] (pushR q.1 [vI x2]) q.2) := st_call (st := false) (ins_of mI_273 (by rfl)) mC_273 mr_18_74 (by decide) mS_211 mN_211 rfl (Nat.le_of_ble_eq_true rfl) rfl rfl (Or.inr ⟨_, _, rfl, rcv mC_211 rfl wid_273 (by decide +kernel)⟩) (Or.inr wid_273)
set_option maxRecDepth 8000 in
theorem r273_487 : runs cal 273 487 [v0, v1, v2, v3] [vI x0, vI x1] I = if x1 = x0 then runs cal 273 825 [v0, v1, v2, v3] [] I else runs cal 273 490 [v0, v1, v2, v3] [] I := st_cmp_eq (ins_of mI_273 (by rfl)) (by decide)
set_option maxRecDepth 8000 in
theorem r273_490 : runs cal 273 490 [v0, v1, v2, v3] [] I = runs cal 273 491 [v0, v1, v2, v3] [vI (0)] I := runs_to (ins_of mI_273 (by rfl)) rfl rfl
set_option maxRecDepth 8000 in
theorem r273_491 : runs cal 273 491 [v0, v1, v2, v3] [vI x0] I = if x0 = 0 ∨ x0 = 1 then some (some (vI x0), I) else none := st_retZ (ins_of mI_273 (by rfl)) mR_273 (Or.inl rfl)
set_option maxRecDepth 8000 in
theorem r273_492 : runs cal 273 492 [v0, vR 1, v2, v3] [] I = runs cal 273 493 [v0, vR 1, v2, v3] [vR 1] I := runs_to (ins_of mI_273 (by rfl)) rfl rfl
set_option maxRecDepth 8000 in
theorem r273_493 : runs cal 273 493 [vR 100, v1, v2, v3] [vR 1] I = runs cal 273 494 [vR 100, v1, v2, v3] [vR 100, vR 1] I := runs_to (ins_of mI_273 (by rfl)) rfl rfl
set_option maxRecDepth 8000 in
theorem r273_494 : runs cal 273 494 [v0, v1, v2, vI w] [vR 100, vR 1] I = runs cal 273 495 [v0, v1, v2, vI w] [vI w, vR 100, vR 1] I := runs_to (ins_of mI_273 (by rfl)) rfl rfl
set_option maxRecDepth 8000 in
theorem r273_495 : runs cal 273 495 [v0, v1, v2, v3] [vI x0, vR 100, vR 1] I = runs cal 273 496 [v0, v1, v2, v3] [vI (1), vI x0, vR 100, vR 1] I := runs_to (ins_of mI_273 (by rfl)) rfl rfl
set_option maxRecDepth 8000 in
theorem r273_496 : runs cal 273 496 [v0, v1, v2, v3] [vI x0, vI x1, vR 100, vR 1] I = runs cal 273 497 [v0, v1, v2, v3] [vI (iadd x1 x0), vR 100, vR 1] I := runs_to (ins_of mI_273 (by rfl)) rfl rfl
set_option maxRecDepth 8000 in
theorem r273_497 : runs cal 273 497 [v0, v1, v2, v3] [vI x0, vR 100, vR 1] I = if 0 ≤ x0 ∧ x0 < I 100 (-1) then runs cal 273 498 [v0, v1, v2, v3] [vI (I 100 x0), vR 1] I else none := st_iald8 (ins_of mI_273 (by rfl)) wid_273
set_option maxRecDepth 8000 in
theorem r273_498 : runs cal 273 498 [v0, v1, v2, v3] [vI x0, vR 1] I = (cal 123 [vR 1, vI x0] I).bind (fun q => runs cal 273 501 [v0, v1, v2, v3] (pushR q.1 []) q.2) := st_call (st := false) (ins_of mI_273 (by rfl)) mC_273 mr_18_75 (by decide) mS_123 mN_123 rfl (Nat.le_of_ble_eq_true rfl) rfl rfl (Or.inr ⟨_, _, rfl, rcv mC_123 rfl wid_273 (by decide +kernel)⟩) (Or.inr wid_273)
set_option maxRecDepth 8000 in
theorem r273_501 : runs cal 273 501 [v0, v1, vR 70, v3] [vI x0] I = runs cal 273 502 [v0, v1, vR 70, v3] [vR 70, vI x0] I := runs_to (ins_of mI_273 (by rfl)) rfl rfl
set_option maxRecDepth 8000 in
theorem r273_502 : runs cal 273 502 [vR 100, v1, v2, v3] [vR 70, vI x1] I = runs cal 273 503 [vR 100, v1, v2, v3] [vR 100, vR 70, vI x1] I := runs_to (ins_of mI_273 (by rfl)) rfl rfl
set_option maxRecDepth 8000 in
theorem r273_503 : runs cal 273 503 [v0, v1, v2, vI w] [vR 100, vR 70, vI x2] I = runs cal 273 504 [v0, v1, v2, vI w] [vI w, vR 100, vR 70, vI x2] I := runs_to (ins_of mI_273 (by rfl)) rfl rfl
set_option maxRecDepth 8000 in
theorem r273_504 : runs cal 273 504 [v0, v1, v2, v3] [vI x0, vR 100, vR 70, vI x3] I = runs cal 273 505 [v0, v1, v2, v3] [vI (1), vI x0, vR 100, vR 70, vI x3] I := runs_to (ins_of mI_273 (by rfl)) rfl rfl
set_option maxRecDepth 8000 in
theorem r273_505 : runs cal 273 505 [v0, v1, v2, v3] [vI x0, vI x1, vR 100, vR 70, vI x4] I = runs cal 273 506 [v0, v1, v2, v3] [vI (iadd x1 x0), vR 100, vR 70, vI x4] I := runs_to (ins_of mI_273 (by rfl)) rfl rfl
set_option maxRecDepth 8000 in
theorem r273_506 : runs cal 273 506 [v0, v1, v2, v3] [vI x0, vR 100, vR 70, vI x3] I = if 0 ≤ x0 ∧ x0 < I 100 (-1) then runs cal 273 507 [v0, v1, v2, v3] [vI (I 100 x0), vR 70, vI x3] I else none := st_iald8 (ins_of mI_273 (by rfl)) wid_273
set_option maxRecDepth 8000 in
theorem r273_507 : runs cal 273 507 [v0, v1, v2, v3] [vI x0, vR 70, vI x2] I = (cal 212 [vR 70, vI x0] I).bind (fun q => runs cal 273 510 [v0, v1, v2, v3] (pushR q.1 [vI x2]) q.2) := st_call (st := false) (ins_of mI_273 (by rfl)) mC_273 mr_18_78 (by decide) mS_212 mN_212 rfl (Nat.le_of_ble_eq_true rfl) rfl rfl (Or.inr ⟨_, _, rfl, rcv mC_212 rfl wid_273 (by decide +kernel)⟩) (Or.inr wid_273)
set_option maxRecDepth 8000 in
theorem r273_510 : runs cal 273 510 [v0, v1, v2, v3] [vI x0, vI x1] I = if x1 = x0 then runs cal 273 825 [v0, v1, v2, v3] [] I else runs cal 273 513 [v0, v1, v2, v3] [] I := st_cmp_eq (ins_of mI_273 (by rfl)) (by decide)
set_option maxRecDepth 8000 in
theorem r273_513 : runs cal 273 513 [v0, v1, v2, v3] [] I = runs cal 273 514 [v0, v1, v2, v3] [vI (0)] I := runs_to (ins_of mI_273 (by rfl)) rfl rfl
set_option maxRecDepth 8000 in
theorem r273_514 : runs cal 273 514 [v0, v1, v2, v3] [vI x0] I = if x0 = 0 ∨ x0 = 1 then some (some (vI x0), I) else none := st_retZ (ins_of mI_273 (by rfl)) mR_273 (Or.inl rfl)
set_option maxRecDepth 8000 in
theorem r273_515 : runs cal 273 515 [v0, vR 1, v2, v3] [] I = runs cal 273 516 [v0, vR 1, v2, v3] [vR 1] I := runs_to (ins_of mI_273 (by rfl)) rfl rfl
set_option maxRecDepth 8000 in
theorem r273_516 : runs cal 273 516 [vR 100, v1, v2, v3] [vR 1] I = runs cal 273 517 [vR 100, v1, v2, v3] [vR 100, vR 1] I := runs_to (ins_of mI_273 (by rfl)) rfl rfl
set_option maxRecDepth 8000 in
theorem r273_517 : runs cal 273 517 [v0, v1, v2, vI w] [vR 100, vR 1] I = runs cal 273 518 [v0, v1, v2, vI w] [vI w, vR 100, vR 1] I := runs_to (ins_of mI_273 (by rfl)) rfl rfl
set_option maxRecDepth 8000 in
theorem r273_518 : runs cal 273 518 [v0, v1, v2, v3] [vI x0, vR 100, vR 1] I = runs cal 273 519 [v0, v1, v2, v3] [vI (1), vI x0, vR 100, vR 1] I := runs_to (ins_of mI_273 (by rfl)) rfl rfl
set_option maxRecDepth 8000 in
theorem r273_519 : runs cal 273 519 [v0, v1, v2, v3] [vI x0, vI x1, vR 100, vR 1] I = runs cal 273 520 [v0, v1, v2, v3] [vI (iadd x1 x0), vR 100, vR 1] I := runs_to (ins_of mI_273 (by rfl)) rfl rfl
set_option maxRecDepth 8000 in
theorem r273_520 : runs cal 273 520 [v0, v1, v2, v3] [vI x0, vR 100, vR 1] I = if 0 ≤ x0 ∧ x0 < I 100 (-1) then runs cal 273 521 [v0, v1, v2, v3] [vI (I 100 x0), vR 1] I else none := st_iald8 (ins_of mI_273 (by rfl)) wid_273
set_option maxRecDepth 8000 in
theorem r273_521 : runs cal 273 521 [v0, v1, v2, v3] [vI x0, vR 1] I = (cal 124 [vR 1, vI x0] I).bind (fun q => runs cal 273 524 [v0, v1, v2, v3] (pushR q.1 []) q.2) := st_call (st := false) (ins_of mI_273 (by rfl)) mC_273 mr_18_79 (by decide) mS_124 mN_124 rfl (Nat.le_of_ble_eq_true rfl) rfl rfl (Or.inr ⟨_, _, rfl, rcv mC_124 rfl wid_273 (by decide +kernel)⟩) (Or.inr wid_273)
set_option maxRecDepth 8000 in
theorem r273_524 : runs cal 273 524 [v0, v1, vR 70, v3] [vI x0] I = runs cal 273 525 [v0, v1, vR 70, v3] [vR 70, vI x0] I := runs_to (ins_of mI_273 (by rfl)) rfl rfl
set_option maxRecDepth 8000 in
theorem r273_525 : runs cal 273 525 [vR 100, v1, v2, v3] [vR 70, vI x1] I = runs cal 273 526 [vR 100, v1, v2, v3] [vR 100, vR 70, vI x1] I := runs_to (ins_of mI_273 (by rfl)) rfl rfl
set_option maxRecDepth 8000 in
theorem r273_526 : runs cal 273 526 [v0, v1, v2, vI w] [vR 100, vR 70, vI x2] I = runs cal 273 527 [v0, v1, v2, vI w] [vI w, vR 100, vR 70, vI x2] I := runs_to (ins_of mI_273 (by rfl)) rfl rfl
set_option maxRecDepth 8000 in
theorem r273_527 : runs cal 273 527 [v0, v1, v2, v3] [vI x0, vR 100, vR 70, vI x3] I = runs cal 273 528 [v0, v1, v2, v3] [vI (1), vI x0, vR 100, vR 70, vI x3] I := runs_to (ins_of mI_273 (by rfl)) rfl rfl
set_option maxRecDepth 8000 in
theorem r273_528 : runs cal 273 528 [v0, v1, v2, v3] [vI x0, vI x1, vR 100, vR 70, vI x4] I = runs cal 273 529 [v0, v1, v2, v3] [vI (iadd x1 x0), vR 100, vR 70, vI x4] I := runs_to (ins_of mI_273 (by rfl)) rfl rfl
set_option maxRecDepth 8000 in
theorem r273_529 : runs cal 273 529 [v0, v1, v2, v3] [vI x0, vR 100, vR 70, vI x3] I = if 0 ≤ x0 ∧ x0 < I 100 (-1) then runs cal 273 530 [v0, v1, v2, v3] [vI (I 100 x0), vR 70, vI x3] I else none := st_iald8 (ins_of mI_273 (by rfl)) wid_273
set_option maxRecDepth 8000 in
theorem r273_530 : runs cal 273 530 [v0, v1, v2, v3] [vI x0, vR 70, vI x2] I = (cal 198 [vR 70, vI x0] I).bind (fun q => runs cal 273 533 [v0, v1, v2, v3] (pushR q.1 [vI x2]) q.2) := st_call (st := false) (ins_of mI_273 (by rfl)) mC_273 mr_18_82 (by decide) mS_198 mN_198 rfl (Nat.le_of_ble_eq_true rfl) rfl rfl (Or.inr ⟨_, _, rfl, rcv mC_198 rfl wid_273 (by decide +kernel)⟩) (Or.inr wid_273)
set_option maxRecDepth 8000 in
theorem r273_533 : runs cal 273 533 [v0, v1, v2, v3] [vI x0, vI x1] I = if x1 = x0 then runs cal 273 825 [v0, v1, v2, v3] [] I else runs cal 273 536 [v0, v1, v2, v3] [] I := st_cmp_eq (ins_of mI_273 (by rfl)) (by decide)
set_option maxRecDepth 8000 in
theorem r273_536 : runs cal 273 536 [v0, v1, v2, v3] [] I = runs cal 273 537 [v0, v1, v2, v3] [vI (0)] I := runs_to (ins_of mI_273 (by rfl)) rfl rfl
set_option maxRecDepth 8000 in
theorem r273_537 : runs cal 273 537 [v0, v1, v2, v3] [vI x0] I = if x0 = 0 ∨ x0 = 1 then some (some (vI x0), I) else none := st_retZ (ins_of mI_273 (by rfl)) mR_273 (Or.inl rfl)
set_option maxRecDepth 8000 in
theorem r273_538 : runs cal 273 538 [v0, vR 1, v2, v3] [] I = runs cal 273 539 [v0, vR 1, v2, v3] [vR 1] I := runs_to (ins_of mI_273 (by rfl)) rfl rfl
set_option maxRecDepth 8000 in
theorem r273_539 : runs cal 273 539 [vR 100, v1, v2, v3] [vR 1] I = runs cal 273 540 [vR 100, v1, v2, v3] [vR 100, vR 1] I := runs_to (ins_of mI_273 (by rfl)) rfl rfl
set_option maxRecDepth 8000 in
theorem r273_540 : runs cal 273 540 [v0, v1, v2, vI w] [vR 100, vR 1] I = runs cal 273 541 [v0, v1, v2, vI w] [vI w, vR 100, vR 1] I := runs_to (ins_of mI_273 (by rfl)) rfl rfl
set_option maxRecDepth 8000 in
theorem r273_541 : runs cal 273 541 [v0, v1, v2, v3] [vI x0, vR 100, vR 1] I = runs cal 273 542 [v0, v1, v2, v3] [vI (1), vI x0, vR 100, vR 1] I := runs_to (ins_of mI_273 (by rfl)) rfl rfl
set_option maxRecDepth 8000 in
theorem r273_542 : runs cal 273 542 [v0, v1, v2, v3] [vI x0, vI x1, vR 100, vR 1] I = runs cal 273 543 [v0, v1, v2, v3] [vI (iadd x1 x0), vR 100, vR 1] I := runs_to (ins_of mI_273 (by rfl)) rfl rfl
set_option maxRecDepth 8000 in
theorem r273_543 : runs cal 273 543 [v0, v1, v2, v3] [vI x0, vR 100, vR 1] I = if 0 ≤ x0 ∧ x0 < I 100 (-1) then runs cal 273 544 [v0, v1, v2, v3] [vI (I 100 x0), vR 1] I else none := st_iald8 (ins_of mI_273 (by rfl)) wid_273
set_option maxRecDepth 8000 in
theorem r273_544 : runs cal 273 544 [v0, v1, v2, v3] [vI x0, vR 1] I = (cal 125 [vR 1, vI x0] I).bind (fun q => runs cal 273 547 [v0, v1, v2, v3] (pushR q.1 []) q.2) := st_call (st := false) (ins_of mI_273 (by rfl)) mC_273 mr_18_83 (by decide) mS_125 mN_125 rfl (Nat.le_of_ble_eq_true rfl) rfl rfl (Or.inr ⟨_, _, rfl, rcv mC_125 rfl wid_273 (by decide +kernel)⟩) (Or.inr wid_273)
set_option maxRecDepth 8000 in
theorem r273_547 : runs cal 273 547 [v0, v1, vR 70, v3] [vI x0] I = runs cal 273 548 [v0, v1, vR 70, v3] [vR 70, vI x0] I := runs_to (ins_of mI_273 (by rfl)) rfl rfl
set_option maxRecDepth 8000 in
theorem r273_548 : runs cal 273 548 [vR 100, v1, v2, v3] [vR 70, vI x1] I = runs cal 273 549 [vR 100, v1, v2, v3] [vR 100, vR 70, vI x1] I := runs_to (ins_of mI_273 (by rfl)) rfl rfl
set_option maxRecDepth 8000 in
theorem r273_549 : runs cal 273 549 [v0, v1, v2, vI w] [vR 100, vR 70, vI x2] I = runs cal 273 550 [v0, v1, v2, vI w] [vI w, vR 100, vR 70, vI x2] I := runs_to (ins_of mI_273 (by rfl)) rfl rfl
set_option maxRecDepth 8000 in
theorem r273_550 : runs cal 273 550 [v0, v1, v2, v3] [vI x0, vR 100, vR 70, vI x3] I = runs cal 273 551 [v0, v1, v2, v3] [vI (1), vI x0, vR 100, vR 70, vI x3] I := runs_to (ins_of mI_273 (by rfl)) rfl rfl
set_option maxRecDepth 8000 in
theorem r273_551 : runs cal 273 551 [v0, v1, v2, v3] [vI x0, vI x1, vR 100, vR 70, vI x4] I = runs cal 273 552 [v0, v1, v2, v3] [vI (iadd x1 x0), vR 100, vR 70, vI x4] I := runs_to (ins_of mI_273 (by rfl)) rfl rfl
set_option maxRecDepth 8000 in
theorem r273_552 : runs cal 273 552 [v0, v1, v2, v3] [vI x0, vR 100, vR 70, vI x3] I = if 0 ≤ x0 ∧ x0 < I 100 (-1) then runs cal 273 553 [v0, v1, v2, v3] [vI (I 100 x0), vR 70, vI x3] I else none := st_iald8 (ins_of mI_273 (by rfl)) wid_273
set_option maxRecDepth 8000 in
theorem r273_553 : runs cal 273 553 [v0, v1, v2, v3] [vI x0, vR 70, vI x2] I = (cal 234 [vR 70, vI x0] I).bind (fun q => runs cal 273 556 [v0, v1, v2, v3] (pushR q.1 [vI x2]) q.2) := st_call (st := false) (ins_of mI_273 (by rfl)) mC_273 mr_18_86 (by decide) mS_234 mN_234 rfl (Nat.le_of_ble_eq_true rfl) rfl rfl (Or.inr ⟨_, _, rfl, rcv mC_234 rfl wid_273 (by decide +kernel)⟩) (Or.inr wid_273)
set_option maxRecDepth 8000 in
theorem r273_556 : runs cal 273 556 [v0, v1, v2, v3] [vI x0, vI x1] I = if x1 = x0 then runs cal 273 825 [v0, v1, v2, v3] [] I else runs cal 273 559 [v0, v1, v2, v3] [] I := st_cmp_eq (ins_of mI_273 (by rfl)) (by decide)
set_option maxRecDepth 8000 in
theorem r273_559 : runs cal 273 559 [v0, v1, v2, v3] [] I = runs cal 273 560 [v0, v1, v2, v3] [vI (0)] I := runs_to (ins_of mI_273 (by rfl)) rfl rfl
set_option maxRecDepth 8000 in
theorem r273_560 : runs cal 273 560 [v0, v1, v2, v3] [vI x0] I = if x0 = 0 ∨ x0 = 1 then some (some (vI x0), I) else none := st_retZ (ins_of mI_273 (by rfl)) mR_273 (Or.inl rfl)
set_option maxRecDepth 8000 in
theorem r273_561 : runs cal 273 561 [v0, vR 1, v2, v3] [] I = runs cal 273 562 [v0, vR 1, v2, v3] [vR 1] I := runs_to (ins_of mI_273 (by rfl)) rfl rfl
set_option maxRecDepth 8000 in
theorem r273_562 : runs cal 273 562 [v0, v1, v2, v3] [vR 1] I = (cal 126 [vR 1] I).bind (fun q => runs cal 273 565 [v0, v1, v2, v3] (pushR q.1 []) q.2) := st_call (st := false) (ins_of mI_273 (by rfl)) mC_273 mr_18_87 (by decide) mS_126 mN_126 rfl (Nat.le_of_ble_eq_true rfl) rfl rfl (Or.inr ⟨_, _, rfl, rcv mC_126 rfl wid_273 (by decide +kernel)⟩) (Or.inr wid_273)
set_option maxRecDepth 8000 in
theorem r273_565 : runs cal 273 565 [v0, v1, vR 70, v3] [vI x0] I = runs cal 273 566 [v0, v1, vR 70, v3] [vR 70, vI x0] I := runs_to (ins_of mI_273 (by rfl)) rfl rfl
set_option maxRecDepth 8000 in
theorem r273_566 : runs cal 273 566 [v0, v1, v2, v3] [vR 70, vI x1] I = (cal 235 [vR 70] I).bind (fun q => runs cal 273 569 [v0, v1, v2, v3] (pushR q.1 [vI x1]) q.2) := st_call (st := false) (ins_of mI_273 (by rfl)) mC_273 mr_18_90 (by decide) mS_235 mN_235 rfl (Nat.le_of_ble_eq_true rfl) rfl rfl (Or.inr ⟨_, _, rfl, rcv mC_235 rfl wid_273 (by decide +kernel)⟩) (Or.inr wid_273)
set_option maxRecDepth 8000 in
theorem r273_569 : runs cal 273 569 [v0, v1, v2, v3] [vI x0, vI x1] I = if x1 = x0 then runs cal 273 825 [v0, v1, v2, v3] [] I else runs cal 273 572 [v0, v1, v2, v3] [] I := st_cmp_eq (ins_of mI_273 (by rfl)) (by decide)
set_option maxRecDepth 8000 in
theorem r273_572 : runs cal 273 572 [v0, v1, v2, v3] [] I = runs cal 273 573 [v0, v1, v2, v3] [vI (0)] I := runs_to (ins_of mI_273 (by rfl)) rfl rfl
set_option maxRecDepth 8000 in
theorem r273_573 : runs cal 273 573 [v0, v1, v2, v3] [vI x0] I = if x0 = 0 ∨ x0 = 1 then some (some (vI x0), I) else none := st_retZ (ins_of mI_273 (by rfl)) mR_273 (Or.inl rfl)
set_option maxRecDepth 8000 in
theorem r273_574 : runs cal 273 574 [v0, vR 1, v2, v3] [] I = runs cal 273 575 [v0, vR 1, v2, v3] [vR 1] I := runs_to (ins_of mI_273 (by rfl)) rfl rfl
set_option maxRecDepth 8000 in
theorem r273_575 : runs cal 273 575 [v0, v1, v2, v3] [vR 1] I = (cal 127 [vR 1] I).bind (fun q => runs cal 273 578 [v0, v1, v2, v3] (pushR q.1 []) q.2) := st_call (st := false) (ins_of mI_273 (by rfl)) mC_273 mr_18_91 (by decide) mS_127 mN_127 rfl (Nat.le_of_ble_eq_true rfl) rfl rfl (Or.inr ⟨_, _, rfl, rcv mC_127 rfl wid_273 (by decide +kernel)⟩) (Or.inr wid_273)
set_option maxRecDepth 8000 in
theorem r273_578 : runs cal 273 578 [v0, v1, vR 70, v3] [vI x0] I = runs cal 273 579 [v0, v1, vR 70, v3] [vR 70, vI x0] I := runs_to (ins_of mI_273 (by rfl)) rfl rfl
set_option maxRecDepth 8000 in
theorem r273_579 : runs cal 273 579 [v0, v1, v2, v3] [vR 70, vI x1] I = (cal 247 [vR 70] I).bind (fun q => runs cal 273 582 [v0, v1, v2, v3] (pushR q.1 [vI x1]) q.2) := st_call (st := false) (ins_of mI_273 (by rfl)) mC_273 mr_18_94 (by decide) mS_247 mN_247 rfl (Nat.le_of_ble_eq_true rfl) rfl rfl (Or.inr ⟨_, _, rfl, rcv mC_247 rfl wid_273 (by decide +kernel)⟩) (Or.inr wid_273)
set_option maxRecDepth 8000 in
theorem r273_582 : runs cal 273 582 [v0, v1, v2, v3] [vI x0, vI x1] I = if x1 = x0 then runs cal 273 825 [v0, v1, v2, v3] [] I else runs cal 273 585 [v0, v1, v2, v3] [] I := st_cmp_eq (ins_of mI_273 (by rfl)) (by decide)
set_option maxRecDepth 8000 in
theorem r273_585 : runs cal 273 585 [v0, v1, v2, v3] [] I = runs cal 273 586 [v0, v1, v2, v3] [vI (0)] I := runs_to (ins_of mI_273 (by rfl)) rfl rfl
set_option maxRecDepth 8000 in
theorem r273_586 : runs cal 273 586 [v0, v1, v2, v3] [vI x0] I = if x0 = 0 ∨ x0 = 1 then some (some (vI x0), I) else none := st_retZ (ins_of mI_273 (by rfl)) mR_273 (Or.inl rfl)
set_option maxRecDepth 8000 in
theorem r273_587 : runs cal 273 587 [v0, vR 1, v2, v3] [] I = runs cal 273 588 [v0, vR 1, v2, v3] [vR 1] I := runs_to (ins_of mI_273 (by rfl)) rfl rfl
set_option maxRecDepth 8000 in
theorem r273_588 : runs cal 273 588 [vR 100, v1, v2, v3] [vR 1] I = runs cal 273 589 [vR 100, v1, v2, v3] [vR 100, vR 1] I := runs_to (ins_of mI_273 (by rfl)) rfl rfl
set_option maxRecDepth 8000 in
theorem r273_589 : runs cal 273 589 [v0, v1, v2, vI w] [vR 100, vR 1] I = runs cal 273 590 [v0, v1, v2, vI w] [vI w, vR 100, vR 1] I := runs_to (ins_of mI_273 (by rfl)) rfl rfl
set_option maxRecDepth 8000 in
theorem r273_590 : runs cal 273 590 [v0, v1, v2, v3] [vI x0, vR 100, vR 1] I = runs cal 273 591 [v0, v1, v2, v3] [vI (1), vI x0, vR 100, vR 1] I := runs_to (ins_of mI_273 (by rfl)) rfl rfl
set_option maxRecDepth 8000 in
theorem r273_591 : runs cal 273 591 [v0, v1, v2, v3] [vI x0, vI x1, vR 100, vR 1] I = runs cal 273 592 [v0, v1, v2, v3] [vI (iadd x1 x0), vR 100, vR 1] I := runs_to (ins_of mI_273 (by rfl)) rfl rfl
set_option maxRecDepth 8000 in
theorem r273_592 : runs cal 273 592 [v0, v1, v2, v3] [vI x0, vR 100, vR 1] I = if 0 ≤ x0 ∧ x0 < I 100 (-1) then runs cal 273 593 [v0, v1, v2, v3] [vI (I 100 x0), vR 1] I else none := st_iald8 (ins_of mI_273 (by rfl)) wid_273
set_option maxRecDepth 8000 in
theorem r273_593 : runs cal 273 593 [vR 100, v1, v2, v3] [vI x0, vR 1] I = runs cal 273 594 [vR 100, v1, v2, v3] [vR 100, vI x0, vR 1] I := runs_to (ins_of mI_273 (by rfl)) rfl rfl
set_option maxRecDepth 8000 in
theorem r273_594 : runs cal 273 594 [v0, v1, v2, vI w] [vR 100, vI x1, vR 1] I = runs cal 273 595 [v0, v1, v2, vI w] [vI w, vR 100, vI x1, vR 1] I := runs_to (ins_of mI_273 (by rfl)) rfl rfl
set_option maxRecDepth 8000 in
theorem r273_595 : runs cal 273 595 [v0, v1, v2, v3] [vI x0, vR 100, vI x2, vR 1] I = runs cal 273 596 [v0, v1, v2, v3] [vI (2), vI x0, vR 100, vI x2, vR 1] I := runs_to (ins_of mI_273 (by rfl)) rfl rfl
set_option maxRecDepth 8000 in
theorem r273_596 : runs cal 273 596 [v0, v1, v2, v3] [vI x0, vI x1, vR 100, vI x3, vR 1] I = runs cal 273 597 [v0, v1, v2, v3] [vI (iadd x1 x0), vR 100, vI x3, vR 1] I := runs_to (ins_of mI_273 (by rfl)) rfl rfl
set_option maxRecDepth 8000 in
theorem r273_597 : runs cal 273 597 [v0, v1, v2, v3] [vI x0, vR 100, vI x2, vR 1] I = if 0 ≤ x0 ∧ x0 < I 100 (-1) then runs cal 273 598 [v0, v1, v2, v3] [vI (I 100 x0), vI x2, vR 1] I else none := st_iald8 (ins_of mI_273 (by rfl)) wid_273
set_option maxRecDepth 8000 in
theorem r273_598 : runs cal 273 598 [v0, v1, v2, v3] [vI x0, vI x1, vR 1] I = (cal 128 [vR 1, vI x1, vI x0] I).bind (fun q => runs cal 273 601 [v0, v1, v2, v3] (pushR q.1 []) q.2) := st_call (st := false) (ins_of mI_273 (by rfl)) mC_273 mr_18_95 (by decide) mS_128 mN_128 rfl (Nat.le_of_ble_eq_true rfl) rfl rfl (Or.inr ⟨_, _, rfl, rcv mC_128 rfl wid_273 (by decide +kernel)⟩) (Or.inr wid_273)
set_option maxRecDepth 8000 in
theorem r273_601 : runs cal 273 601 [v0, v1, vR 70, v3] [vI x0] I = runs cal 273 602 [v0, v1, vR 70, v3] [vR 70, vI x0] I := runs_to (ins_of mI_273 (by rfl)) rfl rfl
set_option maxRecDepth 8000 in
theorem r273_602 : runs cal 273 602 [vR 100, v1, v2, v3] [vR 70, vI x1] I = runs cal 273 603 [vR 100, v1, v2, v3] [vR 100, vR 70, vI x1] I := runs_to (ins_of mI_273 (by rfl)) rfl rfl
set_option maxRecDepth 8000 in
theorem r273_603 : runs cal 273 603 [v0, v1, v2, vI w] [vR 100, vR 70, vI x2] I = runs cal 273 604 [v0, v1, v2, vI w] [vI w, vR 100, vR 70, vI x2] I := runs_to (ins_of mI_273 (by rfl)) rfl rfl
set_option maxRecDepth 8000 in
theorem r273_604 : runs cal 273 604 [v0, v1, v2, v3] [vI x0, vR 100, vR 70, vI x3] I = runs cal 273 605 [v0, v1, v2, v3] [vI (1), vI x0, vR 100, vR 70, vI x3] I := runs_to (ins_of mI_273 (by rfl)) rfl rfl
set_option maxRecDepth 8000 in
theorem r273_605 : runs cal 273 605 [v0, v1, v2, v3] [vI x0, vI x1, vR 100, vR 70, vI x4] I = runs cal 273 606 [v0, v1, v2, v3] [vI (iadd x1 x0), vR 100, vR 70, vI x4] I := runs_to (ins_of mI_273 (by rfl)) rfl rfl
set_option maxRecDepth 8000 in
theorem r273_606 : runs cal 273 606 [v0, v1, v2, v3] [vI x0, vR 100, vR 70, vI x3] I = if 0 ≤ x0 ∧ x0 < I 100 (-1) then runs cal 273 607 [v0, v1, v2, v3] [vI (I 100 x0), vR 70, vI x3] I else none := st_iald8 (ins_of mI_273 (by rfl)) wid_273
set_option maxRecDepth 8000 in
theorem r273_607 : runs cal 273 607 [vR 100, v1, v2, v3] [vI x0, vR 70, vI x2] I = runs cal 273 608 [vR 100, v1, v2, v3] [vR 100, vI x0, vR 70, vI x2] I := runs_to (ins_of mI_273 (by rfl)) rfl rfl
set_option maxRecDepth 8000 in
theorem r273_608 : runs cal 273 608 [v0, v1, v2, vI w] [vR 100, vI x1, vR 70, vI x3] I = runs cal 273 609 [v0, v1, v2, vI w] [vI w, vR 100, vI x1, vR 70, vI x3] I := runs_to (ins_of mI_273 (by rfl)) rfl rfl
set_option maxRecDepth 8000 in
theorem r273_609 : runs cal 273 609 [v0, v1, v2, v3] [vI x0, vR 100, vI x2, vR 70, vI x4] I = runs cal 273 610 [v0, v1, v2, v3] [vI (2), vI x0, vR 100, vI x2, vR 70, vI x4] I := runs_to (ins_of mI_273 (by rfl)) rfl rfl
set_option maxRecDepth 8000 in
theorem r273_610 : runs cal 273 610 [v0, v1, v2, v3] [vI x0, vI x1, vR 100, vI x3, vR 70, vI x5] I = runs cal 273 611 [v0, v1, v2, v3] [vI (iadd x1 x0), vR 100, vI x3, vR 70, vI x5] I := runs_to (ins_of mI_273 (by rfl)) rfl rfl
set_option maxRecDepth 8000 in
theorem r273_611 : runs cal 273 611 [v0, v1, v2, v3] [vI x0, vR 100, vI x2, vR 70, vI x4] I = if 0 ≤ x0 ∧ x0 < I 100 (-1) then runs cal 273 612 [v0, v1, v2, v3] [vI (I 100 x0), vI x2, vR 70, vI x4] I else none := st_iald8 (ins_of mI_273 (by rfl)) wid_273
set_option maxRecDepth 8000 in
theorem r273_612 : runs cal 273 612 [v0, v1, v2, v3] [vI x0, vI x1, vR 70, vI x3] I = (cal 254 [vR 70, vI x1, vI x0] I).bind (fun q => runs cal 273 615 [v0, v1, v2, v3] (pushR q.1 [vI x3]) q.2) := st_call (st := false) (ins_of mI_273 (by rfl)) mC_273 mr_18_98 (by decide) mS_254 mN_254 rfl (Nat.le_of_ble_eq_true rfl) rfl rfl (Or.inr ⟨_, _, rfl, rcv mC_254 rfl wid_273 (by decide +kernel)⟩) (Or.inr wid_273)
set_option maxRecDepth 8000 in
theorem r273_615 : runs cal 273 615 [v0, v1, v2, v3] [vI x0, vI x1] I = if x1 = x0 then runs cal 273 825 [v0, v1, v2, v3] [] I else runs cal 273 618 [v0, v1, v2, v3] [] I := st_cmp_eq (ins_of mI_273 (by rfl)) (by decide)
set_option maxRecDepth 8000 in
theorem r273_618 : runs cal 273 618 [v0, v1, v2, v3] [] I = runs cal 273 619 [v0, v1, v2, v3] [vI (0)] I := runs_to (ins_of mI_273 (by rfl)) rfl rfl
set_option maxRecDepth 8000 in
theorem r273_619 : runs cal 273 619 [v0, v1, v2, v3] [vI x0] I = if x0 = 0 ∨ x0 = 1 then some (some (vI x0), I) else none := st_retZ (ins_of mI_273 (by rfl)) mR_273 (Or.inl rfl)
set_option maxRecDepth 8000 in
theorem r273_620 : runs cal 273 620 [v0, vR 1, v2, v3] [] I = runs cal 273 621 [v0, vR 1, v2, v3] [vR 1] I := runs_to (ins_of mI_273 (by rfl)) rfl rfl
set_option maxRecDepth 8000 in
theorem r273_621 : runs cal 273 621 [vR 100, v1, v2, v3] [vR 1] I = runs cal 273 622 [vR 100, v1, v2, v3] [vR 100, vR 1] I := runs_to (ins_of mI_273 (by rfl)) rfl rfl
set_option maxRecDepth 8000 in
theorem r273_622 : runs cal 273 622 [v0, v1, v2, vI w] [vR 100, vR 1] I = runs cal 273 623 [v0, v1, v2, vI w] [vI w, vR 100, vR 1] I := runs_to (ins_of mI_273 (by rfl)) rfl rfl
set_option maxRecDepth 8000 in
theorem r273_623 : runs cal 273 623 [v0, v1, v2, v3] [vI x0, vR 100, vR 1] I = runs cal 273 624 [v0, v1, v2, v3] [vI (1), vI x0, vR 100, vR 1] I := runs_to (ins_of mI_273 (by rfl)) rfl rfl
set_option maxRecDepth 8000 in
theorem r273_624 : runs cal 273 624 [v0, v1, v2, v3] [vI x0, vI x1, vR 100, vR 1] I = runs cal 273 625 [v0, v1, v2, v3] [vI (iadd x1 x0), vR 100, vR 1] I := runs_to (ins_of mI_273 (by rfl)) rfl rfl
set_option maxRecDepth 8000 in
theorem r273_625 : runs cal 273 625 [v0, v1, v2, v3] [vI x0, vR 100, vR 1] I = if 0 ≤ x0 ∧ x0 < I 100 (-1) then runs cal 273 626 [v0, v1, v2, v3] [vI (I 100 x0), vR 1] I else none := st_iald8 (ins_of mI_273 (by rfl)) wid_273
set_option maxRecDepth 8000 in
theorem r273_626 : runs cal 273 626 [vR 100, v1, v2, v3] [vI x0, vR 1] I = runs cal 273 627 [vR 100, v1, v2, v3] [vR 100, vI x0, vR 1] I := runs_to (ins_of mI_273 (by rfl)) rfl rfl
set_option maxRecDepth 8000 in
theorem r273_627 : runs cal 273 627 [v0, v1, v2, vI w] [vR 100, vI x1, vR 1] I = runs cal 273 628 [v0, v1, v2, vI w] [vI w, vR 100, vI x1, vR 1] I := runs_to (ins_of mI_273 (by rfl)) rfl rfl
set_option maxRecDepth 8000 in
theorem r273_628 : runs cal 273 628 [v0, v1, v2, v3] [vI x0, vR 100, vI x2, vR 1] I = runs cal 273 629 [v0, v1, v2, v3] [vI (2), vI x0, vR 100, vI x2, vR 1] I := runs_to (ins_of mI_273 (by rfl)) rfl rfl
set_option maxRecDepth 8000 in
theorem r273_629 : runs cal 273 629 [v0, v1, v2, v3] [vI x0, vI x1, vR 100, vI x3, vR 1] I = runs cal 273 630 [v0, v1, v2, v3] [vI (iadd x1 x0), vR 100, vI x3, vR 1] I := runs_to (ins_of mI_273 (by rfl)) rfl rfl
set_option maxRecDepth 8000 in
theorem r273_630 : runs cal 273 630 [v0, v1, v2, v3] [vI x0, vR 100, vI x2, vR 1] I = if 0 ≤ x0 ∧ x0 < I 100 (-1) then runs cal 273 631 [v0, v1, v2, v3] [vI (I 100 x0), vI x2, vR 1] I else none := st_iald8 (ins_of mI_273 (by rfl)) wid_273
set_option maxRecDepth 8000 in
theorem r273_631 : runs cal 273 631 [vR 100, v1, v2, v3] [vI x0, vI x1, vR 1] I = runs cal 273 632 [vR 100, v1, v2, v3] [vR 100, vI x0, vI x1, vR 1] I := runs_to (ins_of mI_273 (by rfl)) rfl rfl
set_option maxRecDepth 8000 in
theorem r273_632 : runs cal 273 632 [v0, v1, v2, vI w] [vR 100, vI x1, vI x2, vR 1] I = runs cal 273 633 [v0, v1, v2, vI w] [vI w, vR 100, vI x1, vI x2, vR 1] I := runs_to (ins_of mI_273 (by rfl)) rfl rfl
set_option maxRecDepth 8000 in
theorem r273_633 : runs cal 273 633 [v0, v1, v2, v3] [vI x0, vR 100, vI x2, vI x3, vR 1] I = runs cal 273 634 [v0, v1, v2, v3] [vI (3), vI x0, vR 100, vI x2, vI x3, vR 1] I := runs_to (ins_of mI_273 (by rfl)) rfl rfl
set_option maxRecDepth 8000 in
theorem r273_634 : runs cal 273 634 [v0, v1, v2, v3] [vI x0, vI x1, vR 100, vI x3, vI x4, vR 1] I = runs cal 273 635 [v0, v1, v2, v3] [vI (iadd x1 x0), vR 100, vI x3, vI x4, vR 1] I := runs_to (ins_of mI_273 (by rfl)) rfl rfl
set_option maxRecDepth 8000 in
theorem r273_635 : runs cal 273 635 [v0, v1, v2, v3] [vI x0, vR 100, vI x2, vI x3, vR 1] I = if 0 ≤ x0 ∧ x0 < I 100 (-1) then runs cal 273 636 [v0, v1, v2, v3] [vI (I 100 x0), vI x2, vI x3, vR 1] I else none := st_iald8 (ins_of mI_273 (by rfl)) wid_273
set_option maxRecDepth 8000 in
theorem r273_636 : runs cal 273 636 [v0, v1, v2, v3] [vI x0, vI x1, vI x2, vR 1] I = (cal 129 [vR 1, vI x2, vI x1, vI x0] I).bind (fun q => runs cal 273 639 [v0, v1, v2, v3] (pushR q.1 []) q.2) := st_call (st := false) (ins_of mI_273 (by rfl)) mC_273 mr_18_99 (by decide) mS_129 mN_129 rfl (Nat.le_of_ble_eq_true rfl) rfl rfl (Or.inr ⟨_, _, rfl, rcv mC_129 rfl wid_273 (by decide +kernel)⟩) (Or.inr wid_273)
set_option maxRecDepth 8000 in
theorem r273_639 : runs cal 273 639 [v0, v1, vR 70, v3] [vI x0] I = runs cal 273 640 [v0, v1, vR 70, v3] [vR 70, vI x0] I := runs_to (ins_of mI_273 (by rfl)) rfl rfl
set_option maxRecDepth 8000 in
theorem r273_640 : runs cal 273 640 [vR 100, v1, v2, v3] [vR 70, vI x1] I = runs cal 273 641 [vR 100, v1, v2, v3] [vR 100, vR 70, vI x1] I := runs_to (ins_of mI_273 (by rfl)) rfl rfl
set_option maxRecDepth 8000 in
theorem r273_641 : runs cal 273 641 [v0, v1, v2, vI w] [vR 100, vR 70, vI x2] I = runs cal 273 642 [v0, v1, v2, vI w] [vI w, vR 100, vR 70, vI x2] I := runs_to (ins_of mI_273 (by rfl)) rfl rfl
set_option maxRecDepth 8000 in
theorem r273_642 : runs cal 273 642 [v0, v1, v2, v3] [vI x0, vR 100, vR 70, vI x3] I = runs cal 273 643 [v0, v1, v2, v3] [vI (1), vI x0, vR 100, vR 70, vI x3] I := runs_to (ins_of mI_273 (by rfl)) rfl rfl
set_option maxRecDepth 8000 in
theorem r273_643 : runs cal 273 643 [v0, v1, v2, v3] [vI x0, vI x1, vR 100, vR 70, vI x4] I = runs cal 273 644 [v0, v1, v2, v3] [vI (iadd x1 x0), vR 100, vR 70, vI x4] I := runs_to (ins_of mI_273 (by rfl)) rfl rfl
set_option maxRecDepth 8000 in
theorem r273_644 : runs cal 273 644 [v0, v1, v2, v3] [vI x0, vR 100, vR 70, vI x3] I = if 0 ≤ x0 ∧ x0 < I 100 (-1) then runs cal 273 645 [v0, v1, v2, v3] [vI (I 100 x0), vR 70, vI x3] I else none := st_iald8 (ins_of mI_273 (by rfl)) wid_273
set_option maxRecDepth 8000 in
theorem r273_645 : runs cal 273 645 [vR 100, v1, v2, v3] [vI x0, vR 70, vI x2] I = runs cal 273 646 [vR 100, v1, v2, v3] [vR 100, vI x0, vR 70, vI x2] I := runs_to (ins_of mI_273 (by rfl)) rfl rfl
set_option maxRecDepth 8000 in
theorem r273_646 : runs cal 273 646 [v0, v1, v2, vI w] [vR 100, vI x1, vR 70, vI x3] I = runs cal 273 647 [v0, v1, v2, vI w] [vI w, vR 100, vI x1, vR 70, vI x3] I := runs_to (ins_of mI_273 (by rfl)) rfl rfl
set_option maxRecDepth 8000 in
theorem r273_647 : runs cal 273 647 [v0, v1, v2, v3] [vI x0, vR 100, vI x2, vR 70, vI x4] I = runs cal 273 648 [v0, v1, v2, v3] [vI (2), vI x0, vR 100, vI x2, vR 70, vI x4] I := runs_to (ins_of mI_273 (by rfl)) rfl rfl
set_option maxRecDepth 8000 in
theorem r273_648 : runs cal 273 648 [v0, v1, v2, v3] [vI x0, vI x1, vR 100, vI x3, vR 70, vI x5] I = runs cal 273 649 [v0, v1, v2, v3] [vI (iadd x1 x0), vR 100, vI x3, vR 70, vI x5] I := runs_to (ins_of mI_273 (by rfl)) rfl rfl
set_option maxRecDepth 8000 in
theorem r273_649 : runs cal 273 649 [v0, v1, v2, v3] [vI x0, vR 100, vI x2, vR 70, vI x4] I = if 0 ≤ x0 ∧ x0 < I 100 (-1) then runs cal 273 650 [v0, v1, v2, v3] [vI (I 100 x0), vI x2, vR 70, vI x4] I else none := st_iald8 (ins_of mI_273 (by rfl)) wid_273
set_option maxRecDepth 8000 in
theorem r273_650 : runs cal 273 650 [vR 100, v1, v2, v3] [vI x0, vI x1, vR 70, vI x3] I = runs cal 273 651 [vR 100, v1, v2, v3] [vR 100, vI x0, vI x1, vR 70, vI x3] I := runs_to (ins_of mI_273 (by rfl)) rfl rfl
set_option maxRecDepth 8000 in
theorem r273_651 : runs cal 273 651 [v0, v1, v2, vI w] [vR 100, vI x1, vI x2, vR 70, vI x4] I = runs cal 273 652 [v0, v1, v2, vI w] [vI w, vR 100, vI x1, vI x2, vR 70, vI x4] I := runs_to (ins_of mI_273 (by rfl)) rfl rfl
set_option maxRecDepth 8000 in
theorem r273_652 : runs cal 273 652 [v0, v1, v2, v3] [vI x0, vR 100, vI x2, vI x3, vR 70, vI x5] I = runs cal 273 653 [v0, v1, v2, v3] [vI (3), vI x0, vR 100, vI x2, vI x3, vR 70, vI x5] I := runs_to (ins_of mI_273 (by rfl)) rfl rfl
set_option maxRecDepth 8000 in
theorem r273_653 : runs cal 273 653 [v0, v1, v2, v3] [vI x0, vI x1, vR 100, vI x3, vI x4, vR 70, vI x6] I = runs cal 273 654 [v0, v1, v2, v3] [vI (iadd x1 x0), vR 100, vI x3, vI x4, vR 70, vI x6] I := runs_to (ins_of mI_273 (by rfl)) rfl rfl
set_option maxRecDepth 8000 in
theorem r273_654 : runs cal 273 654 [v0, v1, v2, v3] [vI x0, vR 100, vI x2, vI x3, vR 70, vI x5] I = if 0 ≤ x0 ∧ x0 < I 100 (-1) then runs cal 273 655 [v0, v1, v2, v3] [vI (I 100 x0), vI x2, vI x3, vR 70, vI x5] I else none := st_iald8 (ins_of mI_273 (by rfl)) wid_273
set_option maxRecDepth 8000 in
theorem r273_655 : runs cal 273 655 [v0, v1, v2, v3] [vI x0, vI x1, vI x2, vR 70, vI x4] I = (cal 255 [vR 70, vI x2, vI x1, vI x0] I).bind (fun q => runs cal 273 658 [v0, v1, v2, v3] (pushR q.1 [vI x4]) q.2) := st_call (st := false) (ins_of mI_273 (by rfl)) mC_273 mr_18_103 (by decide) mS_255 mN_255 rfl (Nat.le_of_ble_eq_true rfl) rfl rfl (Or.inr ⟨_, _, rfl, rcv mC_255 rfl wid_273 (by decide +kernel)⟩) (Or.inr wid_273)
set_option maxRecDepth 8000 in
theorem r273_658 : runs cal 273 658 [v0, v1, v2, v3] [vI x0, vI x1] I = if x1 = x0 then runs cal 273 825 [v0, v1, v2, v3] [] I else runs cal 273 661 [v0, v1, v2, v3] [] I := st_cmp_eq (ins_of mI_273 (by rfl)) (by decide)
set_option maxRecDepth 8000 in
theorem r273_661 : runs cal 273 661 [v0, v1, v2, v3] [] I = runs cal 273 662 [v0, v1, v2, v3] [vI (0)] I := runs_to (ins_of mI_273 (by rfl)) rfl rfl
set_option maxRecDepth 8000 in
theorem r273_662 : runs cal 273 662 [v0, v1, v2, v3] [vI x0] I = if x0 = 0 ∨ x0 = 1 then some (some (vI x0), I) else none := st_retZ (ins_of mI_273 (by rfl)) mR_273 (Or.inl rfl)
set_option maxRecDepth 8000 in
theorem r273_663 : runs cal 273 663 [v0, vR 1, v2, v3] [] I = runs cal 273 664 [v0, vR 1, v2, v3] [vR 1] I := runs_to (ins_of mI_273 (by rfl)) rfl rfl
set_option maxRecDepth 8000 in
theorem r273_664 : runs cal 273 664 [vR 100, v1, v2, v3] [vR 1] I = runs cal 273 665 [vR 100, v1, v2, v3] [vR 100, vR 1] I := runs_to (ins_of mI_273 (by rfl)) rfl rfl
set_option maxRecDepth 8000 in
theorem r273_665 : runs cal 273 665 [v0, v1, v2, vI w] [vR 100, vR 1] I = runs cal 273 666 [v0, v1, v2, vI w] [vI w, vR 100, vR 1] I := runs_to (ins_of mI_273 (by rfl)) rfl rfl
set_option maxRecDepth 8000 in
theorem r273_666 : runs cal 273 666 [v0, v1, v2, v3] [vI x0, vR 100, vR 1] I = runs cal 273 667 [v0, v1, v2, v3] [vI (1), vI x0, vR 100, vR 1] I := runs_to (ins_of mI_273 (by rfl)) rfl rfl
set_option maxRecDepth 8000 in
theorem r273_667 : runs cal 273 667 [v0, v1, v2, v3] [vI x0, vI x1, vR 100, vR 1] I = runs cal 273 668 [v0, v1, v2, v3] [vI (iadd x1 x0), vR 100, vR 1] I := runs_to (ins_of mI_273 (by rfl)) rfl rfl
set_option maxRecDepth 8000 in
theorem r273_668 : runs cal 273 668 [v0, v1, v2, v3] [vI x0, vR 100, vR 1] I = if 0 ≤ x0 ∧ x0 < I 100 (-1) then runs cal 273 669 [v0, v1, v2, v3] [vI (I 100 x0), vR 1] I else none := st_iald8 (ins_of mI_273 (by rfl)) wid_273
set_option maxRecDepth 8000 in
theorem r273_669 : runs cal 273 669 [v0, v1, v2, v3] [vI x0, vR 1] I = (cal 130 [vR 1, vI x0] I).bind (fun q => runs cal 273 672 [v0, v1, v2, v3] (pushR q.1 []) q.2) := st_call (st := false) (ins_of mI_273 (by rfl)) mC_273 mr_18_104 (by decide) mS_130 mN_130 rfl (Nat.le_of_ble_eq_true rfl) rfl rfl (Or.inr ⟨_, _, rfl, rcv mC_130 rfl wid_273 (by decide +kernel)⟩) (Or.inr wid_273)
set_option maxRecDepth 8000 in
theorem r273_672 : runs cal 273 672 [v0, v1, vR 70, v3] [vI x0] I = runs cal 273 673 [v0, v1, vR 70, v3] [vR 70, vI x0] I := runs_to (ins_of mI_273 (by rfl)) rfl rfl
set_option maxRecDepth 8000 in
theorem r273_673 : runs cal 273 673 [vR 100, v1, v2, v3] [vR 70, vI x1] I = runs cal 273 674 [vR 100, v1, v2, v3] [vR 100, vR 70, vI x1] I := runs_to (ins_of mI_273 (by rfl)) rfl rfl
set_option maxRecDepth 8000 in
theorem r273_674 : runs cal 273 674 [v0, v1, v2, vI w] [vR 100, vR 70, vI x2] I = runs cal 273 675 [v0, v1, v2, vI w] [vI w, vR 100, vR 70, vI x2] I := runs_to (ins_of mI_273 (by rfl)) rfl rfl
set_option maxRecDepth 8000 in
theorem r273_675 : runs cal 273 675 [v0, v1, v2, v3] [vI x0, vR 100, vR 70, vI x3] I = runs cal 273 676 [v0, v1, v2, v3] [vI (1), vI x0, vR 100, vR 70, vI x3] I := runs_to (ins_of mI_273 (by rfl)) rfl rfl
set_option maxRecDepth 8000 in
theorem r273_676 : runs cal 273 676 [v0, v1, v2, v3] [vI x0, vI x1, vR 100, vR 70, vI x4] I = runs cal 273 677 [v0, v1, v2, v3] [vI (iadd x1 x0), vR 100, vR 70, vI x4] I := runs_to (ins_of mI_273 (by rfl)) rfl rfl
set_option maxRecDepth 8000 in
theorem r273_677 : runs cal 273 677 [v0, v1, v2, v3] [vI x0, vR 100, vR 70, vI x3] I = if 0 ≤ x0 ∧ x0 < I 100 (-1) then runs cal 273 678 [v0, v1, v2, v3] [vI (I 100 x0), vR 70, vI x3] I else none := st_iald8 (ins_of mI_273 (by rfl)) wid_273
set_option maxRecDepth 8000 in
theorem r273_678 : runs cal 273 678 [v0, v1, v2, v3] [vI x0, vR 70, vI x2] I = (cal 256 [vR 70, vI x0] I).bind (fun q => runs cal 273 681 [v0, v1, v2, v3] (pushR q.1 [vI x2]) q.2) := st_call (st := false) (ins_of mI_273 (by rfl)) mC_273 mr_18_107 (by decide) mS_256 mN_256 rfl (Nat.le_of_ble_eq_true rfl) rfl rfl (Or.inr ⟨_, _, rfl, rcv mC_256 rfl wid_273 (by decide +kernel)⟩) (Or.inr wid_273)
set_option maxRecDepth 8000 in
theorem r273_681 : runs cal 273 681 [v0, v1, v2, v3] [vI x0, vI x1] I = if x1 = x0 then runs cal 273 825 [v0, v1, v2, v3] [] I else runs cal 273 684 [v0, v1, v2, v3] [] I := st_cmp_eq (ins_of mI_273 (by rfl)) (by decide)
set_option maxRecDepth 8000 in
theorem r273_684 : runs cal 273 684 [v0, v1, v2, v3] [] I = runs cal 273 685 [v0, v1, v2, v3] [vI (0)] I := runs_to (ins_of mI_273 (by rfl)) rfl rfl
set_option maxRecDepth 8000 in
theorem r273_685 : runs cal 273 685 [v0, v1, v2, v3] [vI x0] I = if x0 = 0 ∨ x0 = 1 then some (some (vI x0), I) else none := st_retZ (ins_of mI_273 (by rfl)) mR_273 (Or.inl rfl)
set_option maxRecDepth 8000 in
theorem r273_686 : runs cal 273 686 [v0, vR 1, v2, v3] [] I = runs cal 273 687 [v0, vR 1, v2, v3] [vR 1] I := runs_to (ins_of mI_273 (by rfl)) rfl rfl
set_option maxRecDepth 8000 in
theorem r273_687 : runs cal 273 687 [vR 100, v1, v2, v3] [vR 1] I = runs cal 273 688 [vR 100, v1, v2, v3] [vR 100, vR 1] I := runs_to (ins_of mI_273 (by rfl)) rfl rfl
set_option maxRecDepth 8000 in
theorem r273_688 : runs cal 273 688 [v0, v1, v2, vI w] [vR 100, vR 1] I = runs cal 273 689 [v0, v1, v2, vI w] [vI w, vR 100, vR 1] I := runs_to (ins_of mI_273 (by rfl)) rfl rfl
set_option maxRecDepth 8000 in
theorem r273_689 : runs cal 273 689 [v0, v1, v2, v3] [vI x0, vR 100, vR 1] I = runs cal 273 690 [v0, v1, v2, v3] [vI (1), vI x0, vR 100, vR 1] I := runs_to (ins_of mI_273 (by rfl)) rfl rfl
set_option maxRecDepth 8000 in
theorem r273_690 : runs cal 273 690 [v0, v1, v2, v3] [vI x0, vI x1, vR 100, vR 1] I = runs cal 273 691 [v0, v1, v2, v3] [vI (iadd x1 x0), vR 100, vR 1] I := runs_to (ins_of mI_273 (by rfl)) rfl rfl
set_option maxRecDepth 8000 in
theorem r273_691 : runs cal 273 691 [v0, v1, v2, v3] [vI x0, vR 100, vR 1] I = if 0 ≤ x0 ∧ x0 < I 100 (-1) then runs cal 273 692 [v0, v1, v2, v3] [vI (I 100 x0), vR 1] I else none := st_iald8 (ins_of mI_273 (by rfl)) wid_273
set_option maxRecDepth 8000 in
theorem r273_692 : runs cal 273 692 [vR 100, v1, v2, v3] [vI x0, vR 1] I = runs cal 273 693 [vR 100, v1, v2, v3] [vR 100, vI x0, vR 1] I := runs_to (ins_of mI_273 (by rfl)) rfl rfl
set_option maxRecDepth 8000 in
theorem r273_693 : runs cal 273 693 [v0, v1, v2, vI w] [vR 100, vI x1, vR 1] I = runs cal 273 694 [v0, v1, v2, vI w] [vI w, vR 100, vI x1, vR 1] I := runs_to (ins_of mI_273 (by rfl)) rfl rfl
set_option maxRecDepth 8000 in
theorem r273_694 : runs cal 273 694 [v0, v1, v2, v3] [vI x0, vR 100, vI x2, vR 1] I = runs cal 273 695 [v0, v1, v2, v3] [vI (2), vI x0, vR 100, vI x2, vR 1] I := runs_to (ins_of mI_273 (by rfl)) rfl rfl
set_option maxRecDepth 8000 in
theorem r273_695 : runs cal 273 695 [v0, v1, v2, v3] [vI x0, vI x1, vR 100, vI x3, vR 1] I = runs cal 273 696 [v0, v1, v2, v3] [vI (iadd x1 x0), vR 100, vI x3, vR 1] I := runs_to (ins_of mI_273 (by rfl)) rfl rfl
set_option maxRecDepth 8000 in
theorem r273_696 : runs cal 273 696 [v0, v1, v2, v3] [vI x0, vR 100, vI x2, vR 1] I = if 0 ≤ x0 ∧ x0 < I 100 (-1) then runs cal 273 697 [v0, v1, v2, v3] [vI (I 100 x0), vI x2, vR 1] I else none := st_iald8 (ins_of mI_273 (by rfl)) wid_273
set_option maxRecDepth 8000 in
theorem r273_697 : runs cal 273 697 [v0, v1, v2, v3] [vI x0, vI x1, vR 1] I = (cal 131 [vR 1, vI x1, vI x0] I).bind (fun q => runs cal 273 700 [v0, v1, v2, v3] (pushR q.1 []) q.2) := st_call (st := false) (ins_of mI_273 (by rfl)) mC_273 mr_18_108 (by decide) mS_131 mN_131 rfl (Nat.le_of_ble_eq_true rfl) rfl rfl (Or.inr ⟨_, _, rfl, rcv mC_131 rfl wid_273 (by decide +kernel)⟩) (Or.inr wid_273)
set_option maxRecDepth 8000 in
theorem r273_700 : runs cal 273 700 [v0, v1, vR 70, v3] [vI x0] I = runs cal 273 701 [v0, v1, vR 70, v3] [vR 70, vI x0] I := runs_to (ins_of mI_273 (by rfl)) rfl rfl
set_option maxRecDepth 8000 in
theorem r273_701 : runs cal 273 701 [vR 100, v1, v2, v3] [vR 70, vI x1] I = runs cal 273 702 [vR 100, v1, v2, v3] [vR 100, vR 70, vI x1] I := runs_to (ins_of mI_273 (by rfl)) rfl rfl
set_option maxRecDepth 8000 in
theorem r273_702 : runs cal 273 702 [v0, v1, v2, vI w] [vR 100, vR 70, vI x2] I = runs cal 273 703 [v0, v1, v2, vI w] [vI w, vR 100, vR 70, vI x2] I := runs_to (ins_of mI_273 (by rfl)) rfl rfl
set_option maxRecDepth 8000 in
theorem r273_703 : runs cal 273 703 [v0, v1, v2, v3] [vI x0, vR 100, vR 70, vI x3] I = runs cal 273 704 [v0, v1, v2, v3] [vI (1), vI x0, vR 100, vR 70, vI x3] I := runs_to (ins_of mI_273 (by rfl)) rfl rfl
set_option maxRecDepth 8000 in
theorem r273_704 : runs cal 273 704 [v0, v1, v2, v3] [vI x0, vI x1, vR 100, vR 70, vI x4] I = runs cal 273 705 [v0, v1, v2, v3] [vI (iadd x1 x0), vR 100, vR 70, vI x4] I := runs_to (ins_of mI_273 (by rfl)) rfl rfl
set_option maxRecDepth 8000 in
theorem r273_705 : runs cal 273 705 [v0, v1, v2, v3] [vI x0, vR 100, vR 70, vI x3] I = if 0 ≤ x0 ∧ x0 < I 100 (-1) then runs cal 273 706 [v0, v1, v2, v3] [vI (I 100 x0), vR 70, vI x3] I else none := st_iald8 (ins_of mI_273 (by rfl)) wid_273
set_option maxRecDepth 8000 in
theorem r273_706 : runs cal 273 706 [vR 100, v1, v2, v3] [vI x0, vR 70, vI x2] I = runs cal 273 707 [vR 100, v1, v2, v3] [vR 100, vI x0, vR 70, vI x2] I := runs_to (ins_of mI_273 (by rfl)) rfl rfl
set_option maxRecDepth 8000 in
theorem r273_707 : runs cal 273 707 [v0, v1, v2, vI w] [vR 100, vI x1, vR 70, vI x3] I = runs cal 273 708 [v0, v1, v2, vI w] [vI w, vR 100, vI x1, vR 70, vI x3] I := runs_to (ins_of mI_273 (by rfl)) rfl rfl
set_option maxRecDepth 8000 in
theorem r273_708 : runs cal 273 708 [v0, v1, v2, v3] [vI x0, vR 100, vI x2, vR 70, vI x4] I = runs cal 273 709 [v0, v1, v2, v3] [vI (2), vI x0, vR 100, vI x2, vR 70, vI x4] I := runs_to (ins_of mI_273 (by rfl)) rfl rfl
set_option maxRecDepth 8000 in
theorem r273_709 : runs cal 273 709 [v0, v1, v2, v3] [vI x0, vI x1, vR 100, vI x3, vR 70, vI x5] I = runs cal 273 710 [v0, v1, v2, v3] [vI (iadd x1 x0), vR 100, vI x3, vR 70, vI x5] I := runs_to (ins_of mI_273 (by rfl)) rfl rfl
set_option maxRecDepth 8000 in
theorem r273_710 : runs cal 273 710 [v0, v1, v2, v3] [vI x0, vR 100, vI x2, vR 70, vI x4] I = if 0 ≤ x0 ∧ x0 < I 100 (-1) then runs cal 273 711 [v0, v1, v2, v3] [vI (I 100 x0), vI x2, vR 70, vI x4] I else none := st_iald8 (ins_of mI_273 (by rfl)) wid_273
set_option maxRecDepth 8000 in
theorem r273_711 : runs cal 273 711 [v0, v1, v2, v3] [vI x0, vI x1, vR 70, vI x3] I = (cal 257 [vR 70, vI x1, vI x0] I).bind (fun q => runs cal 273 714 [v0, v1, v2, v3] (pushR q.1 [vI x3]) q.2) := st_call (st := false) (ins_of mI_273 (by rfl)) mC_273 mr_18_111 (by decide) mS_257 mN_257 rfl (Nat.le_of_ble_eq_true rfl) rfl rfl (Or.inr ⟨_, _, rfl, rcv mC_257 rfl wid_273 (by decide +kernel)⟩) (Or.inr wid_273)
set_option maxRecDepth 8000 in
theorem r273_714 : runs cal 273 714 [v0, v1, v2, v3] [vI x0, vI x1] I = if x1 = x0 then runs cal 273 825 [v0, v1, v2, v3] [] I else runs cal 273 717 [v0, v1, v2, v3] [] I := st_cmp_eq (ins_of mI_273 (by rfl)) (by decide)
set_option maxRecDepth 8000 in
theorem r273_717 : runs cal 273 717 [v0, v1, v2, v3] [] I = runs cal 273 718 [v0, v1, v2, v3] [vI (0)] I := runs_to (ins_of mI_273 (by rfl)) rfl rfl
set_option maxRecDepth 8000 in
theorem r273_718 : runs cal 273 718 [v0, v1, v2, v3] [vI x0] I = if x0 = 0 ∨ x0 = 1 then some (some (vI x0), I) else none := st_retZ (ins_of mI_273 (by rfl)) mR_273 (Or.inl rfl)
set_option maxRecDepth 8000 in
theorem r273_719 : runs cal 273 719 [v0, vR 1, v2, v3] [] I = runs cal 273 720 [v0, vR 1, v2, v3] [vR 1] I := runs_to (ins_of mI_273 (by rfl)) rfl rfl
set_option maxRecDepth 8000 in
theorem r273_720 : runs cal 273 720 [vR 100, v1, v2, v3] [vR 1] I = runs cal 273 721 [vR 100, v1, v2, v3] [vR 100, vR 1] I := runs_to (ins_of mI_273 (by rfl)) rfl rfl
set_option maxRecDepth 8000 in
theorem r273_721 : runs cal 273 721 [v0, v1, v2, vI w] [vR 100, vR 1] I = runs cal 273 722 [v0, v1, v2, vI w] [vI w, vR 100, vR 1] I := runs_to (ins_of mI_273 (by rfl)) rfl rfl
set_option maxRecDepth 8000 in
theorem r273_722 : runs cal 273 722 [v0, v1, v2, v3] [vI x0, vR 100, vR 1] I = runs cal 273 723 [v0, v1, v2, v3] [vI (1), vI x0, vR 100, vR 1] I := runs_to (ins_of mI_273 (by rfl)) rfl rfl
set_option maxRecDepth 8000 in
theorem r273_723 : runs cal 273 723 [v0, v1, v2, v3] [vI x0, vI x1, vR 100, vR 1] I = runs cal 273 724 [v0, v1, v2, v3] [vI (iadd x1 x0), vR 100, vR 1] I := runs_to (ins_of mI_273 (by rfl)) rfl rfl
set_option maxRecDepth 8000 in
theorem r273_724 : runs cal 273 724 [v0, v1, v2, v3] [vI x0, vR 100, vR 1] I = if 0 ≤ x0 ∧ x0 < I 100 (-1) then runs cal 273 725 [v0, v1, v2, v3] [vI (I 100 x0), vR 1] I else none := st_iald8 (ins_of mI_273 (by rfl)) wid_273
set_option maxRecDepth 8000 in
theorem r273_725 : runs cal 273 725 [v0, v1, v2, v3] [vI x0, vR 1] I = (cal 132 [vR 1, vI x0] I).bind (fun q => runs cal 273 728 [v0, v1, v2, v3] (pushR q.1 []) q.2) := st_call (st := false) (ins_of mI_273 (by rfl)) mC_273 mr_18_112 (by decide) mS_132 mN_132 rfl (Nat.le_of_ble_eq_true rfl) rfl rfl (Or.inr ⟨_, _, rfl, rcv mC_132 rfl wid_273 (by decide +kernel)⟩) (Or.inr wid_273)
set_option maxRecDepth 8000 in
theorem r273_728 : runs cal 273 728 [v0, v1, vR 70, v3] [vI x0] I = runs cal 273 729 [v0, v1, vR 70, v3] [vR 70, vI x0] I := runs_to (ins_of mI_273 (by rfl)) rfl rfl
set_option maxRecDepth 8000 in
theorem r273_729 : runs cal 273 729 [vR 100, v1, v2, v3] [vR 70, vI x1] I = runs cal 273 730 [vR 100, v1, v2, v3] [vR 100, vR 70, vI x1] I := runs_to (ins_of mI_273 (by rfl)) rfl rfl
set_option maxRecDepth 8000 in
theorem r273_730 : runs cal 273 730 [v0, v1, v2, vI w] [vR 100, vR 70, vI x2] I = runs cal 273 731 [v0, v1, v2, vI w] [vI w, vR 100, vR 70, vI x2] I := runs_to (ins_of mI_273 (by rfl)) rfl rfl
set_option maxRecDepth 8000 in
theorem r273_731 : runs cal 273 731 [v0, v1, v2, v3] [vI x0, vR 100, vR 70, vI x3] I = runs cal 273 732 [v0, v1, v2, v3] [vI (1), vI x0, vR 100, vR 70, vI x3] I := runs_to (ins_of mI_273 (by rfl)) rfl rfl
set_option maxRecDepth 8000 in
theorem r273_732 : runs cal 273 732 [v0, v1, v2, v3] [vI x0, vI x1, vR 100, vR 70, vI x4] I = runs cal 273 733 [v0, v1, v2, v3] [vI (iadd x1 x0), vR 100, vR 70, vI x4] I := runs_to (ins_of mI_273 (by rfl)) rfl rfl
set_option maxRecDepth 8000 in
theorem r273_733 : runs cal 273 733 [v0, v1, v2, v3] [vI x0, vR 100, vR 70, vI x3] I = if 0 ≤ x0 ∧ x0 < I 100 (-1) then runs cal 273 734 [v0, v1, v2, v3] [vI (I 100 x0), vR 70, vI x3] I else none := st_iald8 (ins_of mI_273 (by rfl)) wid_273
set_option maxRecDepth 8000 in
theorem r273_734 : runs cal 273 734 [v0, v1, v2, v3] [vI x0, vR 70, vI x2] I = (cal 258 [vR 70, vI x0] I).bind (fun q => runs cal 273 737 [v0, v1, v2, v3] (pushR q.1 [vI x2]) q.2) := st_call (st := false) (ins_of mI_273 (by rfl)) mC_273 mr_18_115 (by decide) mS_258 mN_258 rfl (Nat.le_of_ble_eq_true rfl) rfl rfl (Or.inr ⟨_, _, rfl, rcv mC_258 rfl wid_273 (by decide +kernel)⟩) (Or.inr wid_273)
set_option maxRecDepth 8000 in
theorem r273_737 : runs cal 273 737 [v0, v1, v2, v3] [vI x0, vI x1] I = if x1 = x0 then runs cal 273 825 [v0, v1, v2, v3] [] I else runs cal 273 740 [v0, v1, v2, v3] [] I := st_cmp_eq (ins_of mI_273 (by rfl)) (by decide)
set_option maxRecDepth 8000 in
theorem r273_740 : runs cal 273 740 [v0, v1, v2, v3] [] I = runs cal 273 741 [v0, v1, v2, v3] [vI (0)] I := runs_to (ins_of mI_273 (by rfl)) rfl rfl
set_option maxRecDepth 8000 in
theorem r273_741 : runs cal 273 741 [v0, v1, v2, v3] [vI x0] I = if x0 = 0 ∨ x0 = 1 then some (some (vI x0), I) else none := st_retZ (ins_of mI_273 (by rfl)) mR_273 (Or.inl rfl)
set_option maxRecDepth 8000 in
theorem r273_742 : runs cal 273 742 [v0, vR 1, v2, v3] [] I = runs cal 273 743 [v0, vR 1, v2, v3] [vR 1] I := runs_to (ins_of mI_273 (by rfl)) rfl rfl
set_option maxRecDepth 8000 in
theorem r273_743 : runs cal 273 743 [vR 100, v1, v2, v3] [vR 1] I = runs cal 273 744 [vR 100, v1, v2, v3] [vR 100, vR 1] I := runs_to (ins_of mI_273 (by rfl)) rfl rfl
set_option maxRecDepth 8000 in
theorem r273_744 : runs cal 273 744 [v0, v1, v2, vI w] [vR 100, vR 1] I = runs cal 273 745 [v0, v1, v2, vI w] [vI w, vR 100, vR 1] I := runs_to (ins_of mI_273 (by rfl)) rfl rfl
set_option maxRecDepth 8000 in
theorem r273_745 : runs cal 273 745 [v0, v1, v2, v3] [vI x0, vR 100, vR 1] I = runs cal 273 746 [v0, v1, v2, v3] [vI (1), vI x0, vR 100, vR 1] I := runs_to (ins_of mI_273 (by rfl)) rfl rfl
set_option maxRecDepth 8000 in
theorem r273_746 : runs cal 273 746 [v0, v1, v2, v3] [vI x0, vI x1, vR 100, vR 1] I = runs cal 273 747 [v0, v1, v2, v3] [vI (iadd x1 x0), vR 100, vR 1] I := runs_to (ins_of mI_273 (by rfl)) rfl rfl
set_option maxRecDepth 8000 in
theorem r273_747 : runs cal 273 747 [v0, v1, v2, v3] [vI x0, vR 100, vR 1] I = if 0 ≤ x0 ∧ x0 < I 100 (-1) then runs cal 273 748 [v0, v1, v2, v3] [vI (I 100 x0), vR 1] I else none := st_iald8 (ins_of mI_273 (by rfl)) wid_273
set_option maxRecDepth 8000 in
theorem r273_748 : runs cal 273 748 [v0, v1, v2, v3] [vI x0, vR 1] I = (cal 133 [vR 1, vI x0] I).bind (fun q => runs cal 273 751 [v0, v1, v2, v3] (pushR q.1 []) q.2) := st_call (st := false) (ins_of mI_273 (by rfl)) mC_273 mr_18_116 (by decide) mS_133 mN_133 rfl (Nat.le_of_ble_eq_true rfl) rfl rfl (Or.inr ⟨_, _, rfl, rcv mC_133 rfl wid_273 (by decide +kernel)⟩) (Or.inr wid_273)
set_option maxRecDepth 8000 in
theorem r273_751 : runs cal 273 751 [v0, v1, vR 70, v3] [vI x0] I = runs cal 273 752 [v0, v1, vR 70, v3] [vR 70, vI x0] I := runs_to (ins_of mI_273 (by rfl)) rfl rfl
set_option maxRecDepth 8000 in
theorem r273_752 : runs cal 273 752 [vR 100, v1, v2, v3] [vR 70, vI x1] I = runs cal 273 753 [vR 100, v1, v2, v3] [vR 100, vR 70, vI x1] I := runs_to (ins_of mI_273 (by rfl)) rfl rfl
set_option maxRecDepth 8000 in
theorem r273_753 : runs cal 273 753 [v0, v1, v2, vI w] [vR 100, vR 70, vI x2] I = runs cal 273 754 [v0, v1, v2, vI w] [vI w, vR 100, vR 70, vI x2] I := runs_to (ins_of mI_273 (by rfl)) rfl rfl
set_option maxRecDepth 8000 in
theorem r273_754 : runs cal 273 754 [v0, v1, v2, v3] [vI x0, vR 100, vR 70, vI x3] I = runs cal 273 755 [v0, v1, v2, v3] [vI (1), vI x0, vR 100, vR 70, vI x3] I := runs_to (ins_of mI_273 (by rfl)) rfl rfl
set_option maxRecDepth 8000 in
theorem r273_755 : runs cal 273 755 [v0, v1, v2, v3] [vI x0, vI x1, vR 100, vR 70, vI x4] I = runs cal 273 756 [v0, v1, v2, v3] [vI (iadd x1 x0), vR 100, vR 70, vI x4] I := runs_to (ins_of mI_273 (by rfl)) rfl rfl
set_option maxRecDepth 8000 in
theorem r273_756 : runs cal 273 756 [v0, v1, v2, v3] [vI x0, vR 100, vR 70, vI x3] I = if 0 ≤ x0 ∧ x0 < I 100 (-1) then runs cal 273 757 [v0, v1, v2, v3] [vI (I 100 x0), vR 70, vI x3] I else none := st_iald8 (ins_of mI_273 (by rfl)) wid_273
set_option maxRecDepth 8000 in
theorem r273_757 : runs cal 273 757 [v0, v1, v2, v3] [vI x0, vR 70, vI x2] I = (cal 259 [vR 70, vI x0] I).bind (fun q => runs cal 273 760 [v0, v1, v2, v3] (pushR q.1 [vI x2]) q.2) := st_call (st := false) (ins_of mI_273 (by rfl)) mC_273 mr_18_119 (by decide) mS_259 mN_259 rfl (Nat.le_of_ble_eq_true rfl) rfl rfl (Or.inr ⟨_, _, rfl, rcv mC_259 rfl wid_273 (by decide +kernel)⟩) (Or.inr wid_273)
set_option maxRecDepth 8000 in
theorem r273_760 : runs cal 273 760 [v0, v1, v2, v3] [vI x0, vI x1] I = if x1 = x0 then runs cal 273 825 [v0, v1, v2, v3] [] I else runs cal 273 763 [v0, v1, v2, v3] [] I := st_cmp_eq (ins_of mI_273 (by rfl)) (by decide)
set_option maxRecDepth 8000 in
theorem r273_763 : runs cal 273 763 [v0, v1, v2, v3] [] I = runs cal 273 764 [v0, v1, v2, v3] [vI (0)] I := runs_to (ins_of mI_273 (by rfl)) rfl rfl
set_option maxRecDepth 8000 in
theorem r273_764 : runs cal 273 764 [v0, v1, v2, v3] [vI x0] I = if x0 = 0 ∨ x0 = 1 then some (some (vI x0), I) else none := st_retZ (ins_of mI_273 (by rfl)) mR_273 (Or.inl rfl)
set_option maxRecDepth 8000 in
theorem r273_765 : runs cal 273 765 [v0, vR 1, v2, v3] [] I = runs cal 273 766 [v0, vR 1, v2, v3] [vR 1] I := runs_to (ins_of mI_273 (by rfl)) rfl rfl
set_option maxRecDepth 8000 in
theorem r273_766 : runs cal 273 766 [vR 100, v1, v2, v3] [vR 1] I = runs cal 273 767 [vR 100, v1, v2, v3] [vR 100, vR 1] I := runs_to (ins_of mI_273 (by rfl)) rfl rfl
set_option maxRecDepth 8000 in
theorem r273_767 : runs cal 273 767 [v0, v1, v2, vI w] [vR 100, vR 1] I = runs cal 273 768 [v0, v1, v2, vI w] [vI w, vR 100, vR 1] I := runs_to (ins_of mI_273 (by rfl)) rfl rfl
set_option maxRecDepth 8000 in
theorem r273_768 : runs cal 273 768 [v0, v1, v2, v3] [vI x0, vR 100, vR 1] I = runs cal 273 769 [v0, v1, v2, v3] [vI (1), vI x0, vR 100, vR 1] I := runs_to (ins_of mI_273 (by rfl)) rfl rfl
set_option maxRecDepth 8000 in
theorem r273_769 : runs cal 273 769 [v0, v1, v2, v3] [vI x0, vI x1, vR 100, vR 1] I = runs cal 273 770 [v0, v1, v2, v3] [vI (iadd x1 x0), vR 100, vR 1] I := runs_to (ins_of mI_273 (by rfl)) rfl rfl
set_option maxRecDepth 8000 in
theorem r273_770 : runs cal 273 770 [v0, v1, v2, v3] [vI x0, vR 100, vR 1] I = if 0 ≤ x0 ∧ x0 < I 100 (-1) then runs cal 273 771 [v0, v1, v2, v3] [vI (I 100 x0), vR 1] I else none := st_iald8 (ins_of mI_273 (by rfl)) wid_273
set_option maxRecDepth 8000 in
theorem r273_771 : runs cal 273 771 [v0, v1, v2, v3] [vI x0, vR 1] I = (cal 134 [vR 1, vI x0] I).bind (fun q => runs cal 273 774 [v0, v1, v2, v3] (pushR q.1 []) q.2) := st_call (st := false) (ins_of mI_273 (by rfl)) mC_273 mr_18_120 (by decide) mS_134 mN_134 rfl (Nat.le_of_ble_eq_true rfl) rfl rfl (Or.inr ⟨_, _, rfl, rcv mC_134 rfl wid_273 (by decide +kernel)⟩) (Or.inr wid_273)
set_option maxRecDepth 8000 in
theorem r273_774 : runs cal 273 774 [v0, v1, vR 70, v3] [vI x0] I = runs cal 273 775 [v0, v1, vR 70, v3] [vR 70, vI x0] I := runs_to (ins_of mI_273 (by rfl)) rfl rfl
set_option maxRecDepth 8000 in
theorem r273_775 : runs cal 273 775 [vR 100, v1, v2, v3] [vR 70, vI x1] I = runs cal 273 776 [vR 100, v1, v2, v3] [vR 100, vR 70, vI x1] I := runs_to (ins_of mI_273 (by rfl)) rfl rfl
set_option maxRecDepth 8000 in
theorem r273_776 : runs cal 273 776 [v0, v1, v2, vI w] [vR 100, vR 70, vI x2] I = runs cal 273 777 [v0, v1, v2, vI w] [vI w, vR 100, vR 70, vI x2] I := runs_to (ins_of mI_273 (by rfl)) rfl rfl
set_option maxRecDepth 8000 in
theorem r273_777 : runs cal 273 777 [v0, v1, v2, v3] [vI x0, vR 100, vR 70, vI x3] I = runs cal 273 778 [v0, v1, v2, v3] [vI (1), vI x0, vR 100, vR 70, vI x3] I := runs_to (ins_of mI_273 (by rfl)) rfl rfl
set_option maxRecDepth 8000 in
theorem r273_778 : runs cal 273 778 [v0, v1, v2, v3] [vI x0, vI x1, vR 100, vR 70, vI x4] I = runs cal 273 779 [v0, v1, v2, v3] [vI (iadd x1 x0), vR 100, vR 70, vI x4] I := runs_to (ins_of mI_273 (by rfl)) rfl rfl
set_option maxRecDepth 8000 in
theorem r273_779 : runs cal 273 779 [v0, v1, v2, v3] [vI x0, vR 100, vR 70, vI x3] I = if 0 ≤ x0 ∧ x0 < I 100 (-1) then runs cal 273 780 [v0, v1, v2, v3] [vI (I 100 x0), vR 70, vI x3] I else none := st_iald8 (ins_of mI_273 (by rfl)) wid_273
set_option maxRecDepth 8000 in
theorem r273_780 : runs cal 273 780 [v0, v1, v2, v3] [vI x0, vR 70, vI x2] I = (cal 260 [vR 70, vI x0] I).bind (fun q => runs cal 273 783 [v0, v1, v2, v3] (pushR q.1 [vI x2]) q.2) := st_call (st := false) (ins_of mI_273 (by rfl)) mC_273 mr_18_123 (by decide) mS_260 mN_260 rfl (Nat.le_of_ble_eq_true rfl) rfl rfl (Or.inr ⟨_, _, rfl, rcv mC_260 rfl wid_273 (by decide +kernel)⟩) (Or.inr wid_273)
set_option maxRecDepth 8000 in
theorem r273_783 : runs cal 273 783 [v0, v1, v2, v3] [vI x0, vI x1] I = if x1 = x0 then runs cal 273 825 [v0, v1, v2, v3] [] I else runs cal 273 786 [v0, v1, v2, v3] [] I := st_cmp_eq (ins_of mI_273 (by rfl)) (by decide)
set_option maxRecDepth 8000 in
theorem r273_786 : runs cal 273 786 [v0, v1, v2, v3] [] I = runs cal 273 787 [v0, v1, v2, v3] [vI (0)] I := runs_to (ins_of mI_273 (by rfl)) rfl rfl
set_option maxRecDepth 8000 in
theorem r273_787 : runs cal 273 787 [v0, v1, v2, v3] [vI x0] I = if x0 = 0 ∨ x0 = 1 then some (some (vI x0), I) else none := st_retZ (ins_of mI_273 (by rfl)) mR_273 (Or.inl rfl)
set_option maxRecDepth 8000 in
theorem r273_788 : runs cal 273 788 [v0, vR 1, v2, v3] [] I = runs cal 273 789 [v0, vR 1, v2, v3] [vR 1] I := runs_to (ins_of mI_273 (by rfl)) rfl rfl
set_option maxRecDepth 8000 in
theorem r273_789 : runs cal 273 789 [vR 100, v1, v2, v3] [vR 1] I = runs cal 273 790 [vR 100, v1, v2, v3] [vR 100, vR 1] I := runs_to (ins_of mI_273 (by rfl)) rfl rfl
set_option maxRecDepth 8000 in
theorem r273_790 : runs cal 273 790 [v0, v1, v2, vI w] [vR 100, vR 1] I = runs cal 273 791 [v0, v1, v2, vI w] [vI w, vR 100, vR 1] I := runs_to (ins_of mI_273 (by rfl)) rfl rfl
set_option maxRecDepth 8000 in
theorem r273_791 : runs cal 273 791 [v0, v1, v2, v3] [vI x0, vR 100, vR 1] I = runs cal 273 792 [v0, v1, v2, v3] [vI (1), vI x0, vR 100, vR 1] I := runs_to (ins_of mI_273 (by rfl)) rfl rfl
set_option maxRecDepth 8000 in
theorem r273_792 : runs cal 273 792 [v0, v1, v2, v3] [vI x0, vI x1, vR 100, vR 1] I = runs cal 273 793 [v0, v1, v2, v3] [vI (iadd x1 x0), vR 100, vR 1] I := runs_to (ins_of mI_273 (by rfl)) rfl rfl
set_option maxRecDepth 8000 in
theorem r273_793 : runs cal 273 793 [v0, v1, v2, v3] [vI x0, vR 100, vR 1] I = if 0 ≤ x0 ∧ x0 < I 100 (-1) then runs cal 273 794 [v0, v1, v2, v3] [vI (I 100 x0), vR 1] I else none := st_iald8 (ins_of mI_273 (by rfl)) wid_273
set_option maxRecDepth 8000 in
theorem r273_794 : runs cal 273 794 [v0, v1, v2, v3] [vI x0, vR 1] I = (cal 135 [vR 1, vI x0] I).bind (fun q => runs cal 273 797 [v0, v1, v2, v3] (pushR q.1 []) q.2) := st_call (st := false) (ins_of mI_273 (by rfl)) mC_273 mr_18_124 (by decide) mS_135 mN_135 rfl (Nat.le_of_ble_eq_true rfl) rfl rfl (Or.inr ⟨_, _, rfl, rcv mC_135 rfl wid_273 (by decide +kernel)⟩) (Or.inr wid_273)
set_option maxRecDepth 8000 in
theorem r273_797 : runs cal 273 797 [v0, v1, vR 70, v3] [vI x0] I = runs cal 273 798 [v0, v1, vR 70, v3] [vR 70, vI x0] I := runs_to (ins_of mI_273 (by rfl)) rfl rfl
set_option maxRecDepth 8000 in
theorem r273_798 : runs cal 273 798 [vR 100, v1, v2, v3] [vR 70, vI x1] I = runs cal 273 799 [vR 100, v1, v2, v3] [vR 100, vR 70, vI x1] I := runs_to (ins_of mI_273 (by rfl)) rfl rfl
set_option maxRecDepth 8000 in
theorem r273_799 : runs cal 273 799 [v0, v1, v2, vI w] [vR 100, vR 70, vI x2] I = runs cal 273 800 [v0, v1, v2, vI w] [vI w, vR 100, vR 70, vI x2] I := runs_to (ins_of mI_273 (by rfl)) rfl rfl
set_option maxRecDepth 8000 in
theorem r273_800 : runs cal 273 800 [v0, v1, v2, v3] [vI x0, vR 100, vR 70, vI x3] I = runs cal 273 801 [v0, v1, v2, v3] [vI (1), vI x0, vR 100, vR 70, vI x3] I := runs_to (ins_of mI_273 (by rfl)) rfl rfl
set_option maxRecDepth 8000 in
theorem r273_801 : runs cal 273 801 [v0, v1, v2, v3] [vI x0, vI x1, vR 100, vR 70, vI x4] I = runs cal 273 802 [v0, v1, v2, v3] [vI (iadd x1 x0), vR 100, vR 70, vI x4] I := runs_to (ins_of mI_273 (by rfl)) rfl rfl
set_option maxRecDepth 8000 in
theorem r273_802 : runs cal 273 802 [v0, v1, v2, v3] [vI x0, vR 100, vR 70, vI x3] I = if 0 ≤ x0 ∧ x0 < I 100 (-1) then runs cal 273 803 [v0, v1, v2, v3] [vI (I 100 x0), vR 70, vI x3] I else none := st_iald8 (ins_of mI_273 (by rfl)) wid_273
set_option maxRecDepth 8000 in
theorem r273_803 : runs cal 273 803 [v0, v1, v2, v3] [vI x0, vR 70, vI x2] I = (cal 262 [vR 70, vI x0] I).bind (fun q => runs cal 273 806 [v0, v1, v2, v3] (pushR q.1 [vI x2]) q.2) := st_call (st := false) (ins_of mI_273 (by rfl)) mC_273 mr_18_127 (by decide) mS_262 mN_262 rfl (Nat.le_of_ble_eq_true rfl) rfl rfl (Or.inr ⟨_, _, rfl, rcv mC_262 rfl wid_273 (by decide +kernel)⟩) (Or.inr wid_273)
set_option maxRecDepth 8000 in
theorem r273_806 : runs cal 273 806 [v0, v1, v2, v3] [vI x0, vI x1] I = if x1 = x0 then runs cal 273 825 [v0, v1, v2, v3] [] I else runs cal 273 809 [v0, v1, v2, v3] [] I := st_cmp_eq (ins_of mI_273 (by rfl)) (by decide)
set_option maxRecDepth 8000 in
theorem r273_809 : runs cal 273 809 [v0, v1, v2, v3] [] I = runs cal 273 810 [v0, v1, v2, v3] [vI (0)] I := runs_to (ins_of mI_273 (by rfl)) rfl rfl
set_option maxRecDepth 8000 in
theorem r273_810 : runs cal 273 810 [v0, v1, v2, v3] [vI x0] I = if x0 = 0 ∨ x0 = 1 then some (some (vI x0), I) else none := st_retZ (ins_of mI_273 (by rfl)) mR_273 (Or.inl rfl)
set_option maxRecDepth 8000 in
theorem r273_811 : runs cal 273 811 [v0, vR 1, v2, v3] [] I = runs cal 273 812 [v0, vR 1, v2, v3] [vR 1] I := runs_to (ins_of mI_273 (by rfl)) rfl rfl
set_option maxRecDepth 8000 in
theorem r273_812 : runs cal 273 812 [v0, v1, v2, v3] [vR 1] I = (cal 136 [vR 1] I).bind (fun q => runs cal 273 815 [v0, v1, v2, v3] (pushR q.1 []) q.2) := st_call (st := false) (ins_of mI_273 (by rfl)) mC_273 mr_18_128 (by decide) mS_136 mN_136 rfl (Nat.le_of_ble_eq_true rfl) rfl rfl (Or.inr ⟨_, _, rfl, rcv mC_136 rfl wid_273 (by decide +kernel)⟩) (Or.inr wid_273)
set_option maxRecDepth 8000 in
theorem r273_815 : runs cal 273 815 [v0, v1, vR 70, v3] [vL x0] I = runs cal 273 816 [v0, v1, vR 70, v3] [vR 70, vL x0] I := runs_to (ins_of mI_273 (by rfl)) rfl rfl
set_option maxRecDepth 8000 in
theorem r273_816 : runs cal 273 816 [v0, v1, v2, v3] [vR 70, vL x1] I = (cal 264 [vR 70] I).bind (fun q => runs cal 273 819 [v0, v1, v2, v3] (pushR q.1 [vL x1]) q.2) := st_call (st := false) (ins_of mI_273 (by rfl)) mC_273 mr_18_132 (by decide) mS_264 mN_264 rfl (Nat.le_of_ble_eq_true rfl) rfl rfl (Or.inr ⟨_, _, rfl, rcv mC_264 rfl wid_273 (by decide +kernel)⟩) (Or.inr wid_273)
set_option maxRecDepth 8000 in
theorem r273_819 : runs cal 273 819 [v0, v1, v2, v3] [vL x0, vL x1] I = if x1 = x0 then runs cal 273 825 [v0, v1, v2, v3] [] I else runs cal 273 823 [v0, v1, v2, v3] [] I := st_lc_eq (ins_of mI_273 (by rfl)) (ins_of mI_273 (by rfl)) (by decide)
set_option maxRecDepth 8000 in
theorem r273_820 : runs cal 273 820 [v0, v1, v2, v3] [vI x0] I = if x0 = 0 then runs cal 273 825 [v0, v1, v2, v3] [] I else runs cal 273 823 [v0, v1, v2, v3] [] I := st_if_eq (ins_of mI_273 (by rfl)) (by decide)
set_option maxRecDepth 8000 in
theorem r273_823 : runs cal 273 823 [v0, v1, v2, v3] [] I = runs cal 273 824 [v0, v1, v2, v3] [vI (0)] I := runs_to (ins_of mI_273 (by rfl)) rfl rfl
set_option maxRecDepth 8000 in
theorem r273_824 : runs cal 273 824 [v0, v1, v2, v3] [vI x0] I = if x0 = 0 ∨ x0 = 1 then some (some (vI x0), I) else none := st_retZ (ins_of mI_273 (by rfl)) mR_273 (Or.inl rfl)
set_option maxRecDepth 8000 in
theorem r273_825 : runs cal 273 825 [v0, v1, vR b0, vI w] [] I = runs cal 273 828 [v0, v1, vR b0, vI (iadd w (4))] [] I := runs_to (ins_of mI_273 (by rfl)) rfl rfl
set_option maxRecDepth 8000 in
theorem r273_828 : runs cal 273 828 [v0, v1, v2, v3] [] I = runs cal 273 18 [v0, v1, v2, v3] [] I := st_goto (ins_of mI_273 (by rfl)) (by decide)
set_option maxRecDepth 8000 in
theorem r273_831 : runs cal 273 831 [v0, v1, v2, v3] [] I = runs cal 273 832 [v0, v1, v2, v3] [vI (1)] I := runs_to (ins_of mI_273 (by rfl)) rfl rfl
set_option maxRecDepth 8000 in
theorem r273_832 : runs cal 273 832 [v0, v1, v2, v3] [vI x0] I = if x0 = 0 ∨ x0 = 1 then some (some (vI x0), I) else none := st_retZ (ins_of mI_273 (by rfl)) mR_273 (Or.inl rfl)
end PRINTED
