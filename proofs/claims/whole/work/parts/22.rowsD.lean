section PRINTED
variable {cal : Nat → List AV → MM → Option RES} {I : MM}
variable {v0 v1 v2 v3 v4 v5 v6 v7 v8 v9 v10 v11 v12 v13 v14 v15 v16 v17 v18 v19 v20 v21 v22 v23 v24 v25 v26 v27 v28 v29 v30 v31 v32 v33 v34 v35 v36 v37 v38 v39 v40 v41 v42 v43 v44 v45 v46 v47 v48 v49 v50 v51 v52 v53 v54 v55 v56 v57 v58 v59 : AV} {x0 x1 x2 x3 x4 x5 x6 x7 x8 x9 w u : Int} {a0 a1 a2 a3 a4 a5 a6 b0 : Nat}

theorem r142_0 : runs cal 142 0 [vL w, v1, v2, v3, v4, v5] [] I = runs cal 142 1 [vL w, v1, v2, v3, v4, v5] [vL w] I := runs_to (ins_of mI_142 (by rfl)) rfl rfl
theorem r142_1 : runs cal 142 1 [v0, v1, vL w, v3, v4, v5] [vL x0] I = runs cal 142 2 [v0, v1, vL w, v3, v4, v5] [vL w, vL x0] I := runs_to (ins_of mI_142 (by rfl)) rfl rfl
theorem r142_2 : runs cal 142 2 [v0, v1, v2, v3, v4, v5] [vL x0, vL x1] I = if x1 < x0 then runs cal 142 17 [v0, v1, v2, v3, v4, v5] [] I else runs cal 142 6 [v0, v1, v2, v3, v4, v5] [] I := st_lc_lt (ins_of mI_142 (by rfl)) (ins_of mI_142 (by rfl)) (by decide)
theorem r142_3 : runs cal 142 3 [v0, v1, v2, v3, v4, v5] [vI x0] I = if x0 < 0 then runs cal 142 17 [v0, v1, v2, v3, v4, v5] [] I else runs cal 142 6 [v0, v1, v2, v3, v4, v5] [] I := st_if_lt (ins_of mI_142 (by rfl)) (by decide)
theorem r142_6 : runs cal 142 6 [vL w, v1, v2, v3, v4, v5] [] I = runs cal 142 7 [vL w, v1, v2, v3, v4, v5] [vL w] I := runs_to (ins_of mI_142 (by rfl)) rfl rfl
theorem r142_7 : runs cal 142 7 [v0, v1, v2, v3, vL w, v5] [vL x0] I = runs cal 142 9 [v0, v1, v2, v3, vL w, v5] [vL w, vL x0] I := runs_to (ins_of mI_142 (by rfl)) rfl rfl
theorem r142_9 : runs cal 142 9 [v0, v1, v2, v3, v4, v5] [vL x0, vL x1] I = if x0 < x1 then runs cal 142 17 [v0, v1, v2, v3, v4, v5] [] I else runs cal 142 13 [v0, v1, v2, v3, v4, v5] [] I := st_lc_gt (ins_of mI_142 (by rfl)) (ins_of mI_142 (by rfl)) (by decide)
theorem r142_10 : runs cal 142 10 [v0, v1, v2, v3, v4, v5] [vI x0] I = if 0 < x0 then runs cal 142 17 [v0, v1, v2, v3, v4, v5] [] I else runs cal 142 13 [v0, v1, v2, v3, v4, v5] [] I := st_if_gt (ins_of mI_142 (by rfl)) (by decide)
theorem r142_13 : runs cal 142 13 [v0, v1, v2, v3, v4, v5] [] I = runs cal 142 14 [v0, v1, v2, v3, v4, v5] [vI (1)] I := runs_to (ins_of mI_142 (by rfl)) rfl rfl
theorem r142_14 : runs cal 142 14 [v0, v1, v2, v3, v4, v5] [vI x0] I = runs cal 142 18 [v0, v1, v2, v3, v4, v5] [vI x0] I := st_goto (ins_of mI_142 (by rfl)) (by decide)
theorem r142_17 : runs cal 142 17 [v0, v1, v2, v3, v4, v5] [] I = runs cal 142 18 [v0, v1, v2, v3, v4, v5] [vI (0)] I := runs_to (ins_of mI_142 (by rfl)) rfl rfl
theorem r142_18 : runs cal 142 18 [v0, v1, v2, v3, v4, v5] [vI x0] I = if x0 = 0 ∨ x0 = 1 then some (some (vI x0), I) else none := st_retZ (ins_of mI_142 (by rfl)) mR_142 (Or.inl rfl)
theorem r143_0 : runs cal 143 0 [vR 70, v1] [] I = runs cal 143 1 [vR 70, v1] [vR 70] I := runs_to (ins_of mI_143 (by rfl)) rfl rfl
theorem r143_1 : runs cal 143 1 [v0, v1] [vR 70] I = runs cal 143 4 [v0, v1] [vR 74] I := st_getR (ins_of mI_143 (by rfl)) mC_143 (by decide) fr_11_20 cT_70 (wdc wid_143 wd_70) rfl rfl
theorem r143_4 : runs cal 143 4 [v0, v1] [vR 74] I = runs cal 143 5 [v0, v1] [vI (0), vR 74] I := runs_to (ins_of mI_143 (by rfl)) rfl rfl
theorem r143_5 : runs cal 143 5 [v0, v1] [vI x0, vR 74] I = runs cal 143 6 [v0, v1] [vI x0, vR 74, vI x0, vR 74] I := runs_to (ins_of mI_143 (by rfl)) rfl rfl
theorem r143_6 : runs cal 143 6 [v0, v1] [vI x0, vR 74, vI x2, vR 74] I = if 0 ≤ x0 ∧ x0 < 3 then runs cal 143 7 [v0, v1] [vI (I 74 x0), vI x2, vR 74] I else none := st_iald (ins_of mI_143 (by rfl)) cT_74 (wdc wid_143 wd_74)
theorem r143_7 : runs cal 143 7 [v0, v1] [vI x0, vI x1, vR 74] I = runs cal 143 8 [v0, v1] [vI (1), vI x0, vI x1, vR 74] I := runs_to (ins_of mI_143 (by rfl)) rfl rfl
theorem r143_8 : runs cal 143 8 [v0, v1] [vI x0, vI x1, vI x2, vR 74] I = runs cal 143 9 [v0, v1] [vI (iadd x1 x0), vI x2, vR 74] I := runs_to (ins_of mI_143 (by rfl)) rfl rfl
theorem r143_9 : runs cal 143 9 [v0, v1] [vI x0, vI x1, vR 74] I = if 0 ≤ x1 ∧ x1 < 3 then runs cal 143 10 [v0, v1] [] (mset I 74 x1 x0) else none := st_iast (ins_of mI_143 (by rfl)) cT_74 (wdc wid_143 wd_74)
theorem r143_10 : runs cal 143 10 [v0, vI w] [] I = runs cal 143 11 [v0, vI w] [vI w] I := runs_to (ins_of mI_143 (by rfl)) rfl rfl
theorem r143_11 : runs cal 143 11 [v0, v1] [vI x0] I = some (some (vI x0), I) := st_ret (q := some (vI x0)) (k := 0) (ins_of mI_143 (by rfl)) rfl (by decide) mR_143 rfl trivial
theorem r144_0 : runs cal 144 0 [vR 70] [] I = runs cal 144 1 [vR 70] [vR 70] I := runs_to (ins_of mI_144 (by rfl)) rfl rfl
theorem r144_1 : runs cal 144 1 [v0] [vR 70] I = runs cal 144 4 [v0] [vR 74] I := st_getR (ins_of mI_144 (by rfl)) mC_144 (by decide) fr_11_20 cT_70 (wdc wid_144 wd_70) rfl rfl
theorem r144_4 : runs cal 144 4 [v0] [vR 74] I = runs cal 144 5 [v0] [vI (1), vR 74] I := runs_to (ins_of mI_144 (by rfl)) rfl rfl
theorem r144_5 : runs cal 144 5 [v0] [vI x0, vR 74] I = runs cal 144 6 [v0] [vI x0, vR 74, vI x0, vR 74] I := runs_to (ins_of mI_144 (by rfl)) rfl rfl
theorem r144_6 : runs cal 144 6 [v0] [vI x0, vR 74, vI x2, vR 74] I = if 0 ≤ x0 ∧ x0 < 3 then runs cal 144 7 [v0] [vI (I 74 x0), vI x2, vR 74] I else none := st_iald (ins_of mI_144 (by rfl)) cT_74 (wdc wid_144 wd_74)
theorem r144_7 : runs cal 144 7 [v0] [vI x0, vI x1, vR 74] I = runs cal 144 8 [v0] [vI (1), vI x0, vI x1, vR 74] I := runs_to (ins_of mI_144 (by rfl)) rfl rfl
theorem r144_8 : runs cal 144 8 [v0] [vI x0, vI x1, vI x2, vR 74] I = runs cal 144 9 [v0] [vI (iadd x1 x0), vI x2, vR 74] I := runs_to (ins_of mI_144 (by rfl)) rfl rfl
theorem r144_9 : runs cal 144 9 [v0] [vI x0, vI x1, vR 74] I = if 0 ≤ x1 ∧ x1 < 3 then runs cal 144 10 [v0] [] (mset I 74 x1 x0) else none := st_iast (ins_of mI_144 (by rfl)) cT_74 (wdc wid_144 wd_74)
theorem r144_10 : runs cal 144 10 [v0] [] I = runs cal 144 12 [v0] [vI (-3)] I := runs_to (ins_of mI_144 (by rfl)) rfl rfl
theorem r144_12 : runs cal 144 12 [v0] [vI x0] I = some (some (vI x0), I) := st_ret (q := some (vI x0)) (k := 0) (ins_of mI_144 (by rfl)) rfl (by decide) mR_144 rfl trivial
theorem r145_0 : runs cal 145 0 [vR 70] [] I = runs cal 145 1 [vR 70] [vR 70] I := runs_to (ins_of mI_145 (by rfl)) rfl rfl
theorem r145_1 : runs cal 145 1 [v0] [vR 70] I = runs cal 145 4 [v0] [vR 74] I := st_getR (ins_of mI_145 (by rfl)) mC_145 (by decide) fr_11_20 cT_70 (wdc wid_145 wd_70) rfl rfl
theorem r145_4 : runs cal 145 4 [v0] [vR 74] I = runs cal 145 5 [v0] [vI (2), vR 74] I := runs_to (ins_of mI_145 (by rfl)) rfl rfl
theorem r145_5 : runs cal 145 5 [v0] [vI x0, vR 74] I = runs cal 145 6 [v0] [vI x0, vR 74, vI x0, vR 74] I := runs_to (ins_of mI_145 (by rfl)) rfl rfl
theorem r145_6 : runs cal 145 6 [v0] [vI x0, vR 74, vI x2, vR 74] I = if 0 ≤ x0 ∧ x0 < 3 then runs cal 145 7 [v0] [vI (I 74 x0), vI x2, vR 74] I else none := st_iald (ins_of mI_145 (by rfl)) cT_74 (wdc wid_145 wd_74)
theorem r145_7 : runs cal 145 7 [v0] [vI x0, vI x1, vR 74] I = runs cal 145 8 [v0] [vI (1), vI x0, vI x1, vR 74] I := runs_to (ins_of mI_145 (by rfl)) rfl rfl
theorem r145_8 : runs cal 145 8 [v0] [vI x0, vI x1, vI x2, vR 74] I = runs cal 145 9 [v0] [vI (iadd x1 x0), vI x2, vR 74] I := runs_to (ins_of mI_145 (by rfl)) rfl rfl
theorem r145_9 : runs cal 145 9 [v0] [vI x0, vI x1, vR 74] I = if 0 ≤ x1 ∧ x1 < 3 then runs cal 145 10 [v0] [] (mset I 74 x1 x0) else none := st_iast (ins_of mI_145 (by rfl)) cT_74 (wdc wid_145 wd_74)
theorem r145_10 : runs cal 145 10 [v0] [] I = runs cal 145 12 [v0] [vI (-4)] I := runs_to (ins_of mI_145 (by rfl)) rfl rfl
theorem r145_12 : runs cal 145 12 [v0] [vI x0] I = some (some (vI x0), I) := st_ret (q := some (vI x0)) (k := 0) (ins_of mI_145 (by rfl)) rfl (by decide) mR_145 rfl trivial
theorem r146_0 : runs cal 146 0 [v0, v1, vL w, v3, v4, v5] [] I = runs cal 146 1 [v0, v1, vL w, v3, v4, v5] [vL w] I := runs_to (ins_of mI_146 (by rfl)) rfl rfl
theorem r146_1 : runs cal 146 1 [v0, v1, v2, v3, v4, v5] [vL x0] I = runs cal 146 3 [v0, v1, v2, kill v3, vL x0, vR 0] [] I := runs_to (ins_of mI_146 (by rfl)) rfl rfl
theorem r146_3 : runs cal 146 3 [vR 70, v1, v2, v3, v4, v5] [] I = runs cal 146 4 [vR 70, v1, v2, v3, v4, v5] [vR 70] I := runs_to (ins_of mI_146 (by rfl)) rfl rfl
theorem r146_4 : runs cal 146 4 [v0, v1, v2, v3, v4, v5] [vR 70] I = runs cal 146 7 [v0, v1, v2, v3, v4, v5] [vR 76] I := st_getR (ins_of mI_146 (by rfl)) mC_146 (by decide) fr_11_27 cT_70 (wdc wid_146 wd_70) rfl rfl
theorem r146_7 : runs cal 146 7 [v0, vI w, v2, v3, v4, v5] [vR 76] I = runs cal 146 8 [v0, vI w, v2, v3, v4, v5] [vI w, vR 76] I := runs_to (ins_of mI_146 (by rfl)) rfl rfl
theorem r146_8 : runs cal 146 8 [v0, v1, v2, v3, v4, v5] [vI x0, vR 76] I = runs cal 146 9 [v0, v1, v2, v3, v4, v5] [vI (0), vI x0, vR 76] I := runs_to (ins_of mI_146 (by rfl)) rfl rfl
theorem r146_9 : runs cal 146 9 [v0, v1, v2, v3, v4, v5] [vI x0, vI x1, vR 76] I = if 0 ≤ x1 ∧ x1 < 8 then runs cal 146 10 [v0, v1, v2, v3, v4, v5] [] (mset I 76 x1 x0) else none := st_iast (ins_of mI_146 (by rfl)) cT_76 (wdc wid_146 wd_76)
theorem r146_10 : runs cal 146 10 [v0, v1, v2, v3, vL w, v5] [] I = runs cal 146 12 [v0, v1, v2, v3, vL w, v5] [vL w] I := runs_to (ins_of mI_146 (by rfl)) rfl rfl
theorem r146_12 : runs cal 146 12 [v0, v1, v2, v3, v4, v5] [vL x0] I = runs cal 146 13 [v0, v1, v2, v3, v4, v5] [vL 0, vL x0] I := runs_to (ins_of mI_146 (by rfl)) rfl rfl
theorem r146_13 : runs cal 146 13 [v0, v1, v2, v3, v4, v5] [vL x0, vL x1] I = if x0 < x1 then runs cal 146 17 [v0, v1, v2, v3, v4, v5] [] I else runs cal 146 60 [v0, v1, v2, v3, v4, v5] [] I := st_lc_le (ins_of mI_146 (by rfl)) (ins_of mI_146 (by rfl)) (by decide)
theorem r146_14 : runs cal 146 14 [v0, v1, v2, v3, v4, v5] [vI x0] I = if 0 < x0 then runs cal 146 17 [v0, v1, v2, v3, v4, v5] [] I else runs cal 146 60 [v0, v1, v2, v3, v4, v5] [] I := st_if_le (ins_of mI_146 (by rfl)) (by decide)
theorem r146_17 : runs cal 146 17 [vR 70, v1, v2, v3, v4, v5] [] I = runs cal 146 18 [vR 70, v1, v2, v3, v4, v5] [vR 70] I := runs_to (ins_of mI_146 (by rfl)) rfl rfl
theorem r146_18 : runs cal 146 18 [v0, v1, v2, v3, v4, v5] [vR 70] I = runs cal 146 21 [v0, v1, v2, v3, v4, v5] [vR 75] I := st_getR (ins_of mI_146 (by rfl)) mC_146 (by decide) fr_11_23 cT_70 (wdc wid_146 wd_70) rfl rfl
theorem r146_21 : runs cal 146 21 [v0, v1, v2, v3, v4, v5] [vR 75] I = runs cal 146 23 [v0, v1, v2, v3, v4, v5] [vI (64), vR 75] I := runs_to (ins_of mI_146 (by rfl)) rfl rfl
theorem r146_23 : runs cal 146 23 [v0, vI w, v2, v3, v4, v5] [vI x0, vR 75] I = runs cal 146 24 [v0, vI w, v2, v3, v4, v5] [vI w, vI x0, vR 75] I := runs_to (ins_of mI_146 (by rfl)) rfl rfl
theorem r146_24 : runs cal 146 24 [v0, v1, v2, v3, v4, v5] [vI x0, vI x1, vR 75] I = runs cal 146 25 [v0, v1, v2, v3, v4, v5] [vI (imul x1 x0), vR 75] I := runs_to (ins_of mI_146 (by rfl)) rfl rfl
theorem r146_25 : runs cal 146 25 [vR 70, v1, v2, v3, v4, v5] [vI x0, vR 75] I = runs cal 146 26 [vR 70, v1, v2, v3, v4, v5] [vR 70, vI x0, vR 75] I := runs_to (ins_of mI_146 (by rfl)) rfl rfl
theorem r146_26 : runs cal 146 26 [v0, v1, v2, v3, v4, v5] [vR 70, vI x1, vR 75] I = runs cal 146 29 [v0, v1, v2, v3, v4, v5] [vR 76, vI x1, vR 75] I := st_getR (ins_of mI_146 (by rfl)) mC_146 (by decide) fr_11_27 cT_70 (wdc wid_146 wd_70) rfl rfl
theorem r146_29 : runs cal 146 29 [v0, vI w, v2, v3, v4, v5] [vR 76, vI x1, vR 75] I = runs cal 146 30 [v0, vI w, v2, v3, v4, v5] [vI w, vR 76, vI x1, vR 75] I := runs_to (ins_of mI_146 (by rfl)) rfl rfl
theorem r146_30 : runs cal 146 30 [v0, v1, v2, v3, v4, v5] [vI x0, vR 76, vI x2, vR 75] I = if 0 ≤ x0 ∧ x0 < 8 then runs cal 146 31 [v0, v1, v2, v3, v4, v5] [vI (I 76 x0), vI x2, vR 75] I else none := st_iald (ins_of mI_146 (by rfl)) cT_76 (wdc wid_146 wd_76)
theorem r146_31 : runs cal 146 31 [v0, v1, v2, v3, v4, v5] [vI x0, vI x1, vR 75] I = runs cal 146 32 [v0, v1, v2, v3, v4, v5] [vI (iadd x1 x0), vR 75] I := runs_to (ins_of mI_146 (by rfl)) rfl rfl
theorem r146_32 : runs cal 146 32 [v0, v1, v2, v3, vL w, v5] [vI x0, vR 75] I = runs cal 146 34 [v0, v1, v2, v3, vL w, v5] [vL w, vI x0, vR 75] I := runs_to (ins_of mI_146 (by rfl)) rfl rfl
theorem r146_34 : runs cal 146 34 [v0, v1, v2, v3, v4, v5] [vL x0, vI x1, vR 75] I = runs cal 146 37 [v0, v1, v2, v3, v4, v5] [vL (1073741824), vL x0, vI x1, vR 75] I := runs_to (ins_of mI_146 (by rfl)) rfl (by simp only [stepI, ldk2, mC_146]; rfl)
theorem r146_37 : runs cal 146 37 [v0, v1, v2, v3, v4, v5] [vL x0, vL x1, vI x2, vR 75] I = if x0 = 0 then none else runs cal 146 38 [v0, v1, v2, v3, v4, v5] [vL (lrem x1 x0), vI x2, vR 75] I := st_nzL (ins_of mI_146 (by rfl)) rfl rfl
theorem r146_38 : runs cal 146 38 [v0, v1, v2, v3, v4, v5] [vL x0, vI x1, vR 75] I = if 0 ≤ x1 ∧ x1 < 512 then runs cal 146 39 [v0, v1, v2, v3, v4, v5] [] (mset I 75 x1 x0) else none := st_last (ins_of mI_146 (by rfl)) cT_75 (wdc wid_146 wd_75)
theorem r146_39 : runs cal 146 39 [v0, v1, v2, v3, vL w, v5] [] I = runs cal 146 41 [v0, v1, v2, v3, vL w, v5] [vL w] I := runs_to (ins_of mI_146 (by rfl)) rfl rfl
theorem r146_41 : runs cal 146 41 [v0, v1, v2, v3, v4, v5] [vL x0] I = runs cal 146 44 [v0, v1, v2, v3, v4, v5] [vL (1073741824), vL x0] I := runs_to (ins_of mI_146 (by rfl)) rfl (by simp only [stepI, ldk2, mC_146]; rfl)
theorem r146_44 : runs cal 146 44 [v0, v1, v2, v3, v4, v5] [vL x0, vL x1] I = if x0 = 0 then none else runs cal 146 45 [v0, v1, v2, v3, v4, v5] [vL (ldiv x1 x0)] I := st_nzL (ins_of mI_146 (by rfl)) rfl rfl
theorem r146_45 : runs cal 146 45 [v0, v1, v2, v3, v4, v5] [vL x0] I = runs cal 146 47 [v0, v1, v2, kill v3, vL x0, vR 0] [] I := runs_to (ins_of mI_146 (by rfl)) rfl rfl
theorem r146_47 : runs cal 146 47 [vR 70, v1, v2, v3, v4, v5] [] I = runs cal 146 48 [vR 70, v1, v2, v3, v4, v5] [vR 70] I := runs_to (ins_of mI_146 (by rfl)) rfl rfl
theorem r146_48 : runs cal 146 48 [v0, v1, v2, v3, v4, v5] [vR 70] I = runs cal 146 51 [v0, v1, v2, v3, v4, v5] [vR 76] I := st_getR (ins_of mI_146 (by rfl)) mC_146 (by decide) fr_11_27 cT_70 (wdc wid_146 wd_70) rfl rfl
theorem r146_51 : runs cal 146 51 [v0, vI w, v2, v3, v4, v5] [vR 76] I = runs cal 146 52 [v0, vI w, v2, v3, v4, v5] [vI w, vR 76] I := runs_to (ins_of mI_146 (by rfl)) rfl rfl
theorem r146_52 : runs cal 146 52 [v0, v1, v2, v3, v4, v5] [vI x0, vR 76] I = runs cal 146 53 [v0, v1, v2, v3, v4, v5] [vI x0, vR 76, vI x0, vR 76] I := runs_to (ins_of mI_146 (by rfl)) rfl rfl
theorem r146_53 : runs cal 146 53 [v0, v1, v2, v3, v4, v5] [vI x0, vR 76, vI x2, vR 76] I = if 0 ≤ x0 ∧ x0 < 8 then runs cal 146 54 [v0, v1, v2, v3, v4, v5] [vI (I 76 x0), vI x2, vR 76] I else none := st_iald (ins_of mI_146 (by rfl)) cT_76 (wdc wid_146 wd_76)
theorem r146_54 : runs cal 146 54 [v0, v1, v2, v3, v4, v5] [vI x0, vI x1, vR 76] I = runs cal 146 55 [v0, v1, v2, v3, v4, v5] [vI (1), vI x0, vI x1, vR 76] I := runs_to (ins_of mI_146 (by rfl)) rfl rfl
theorem r146_55 : runs cal 146 55 [v0, v1, v2, v3, v4, v5] [vI x0, vI x1, vI x2, vR 76] I = runs cal 146 56 [v0, v1, v2, v3, v4, v5] [vI (iadd x1 x0), vI x2, vR 76] I := runs_to (ins_of mI_146 (by rfl)) rfl rfl
theorem r146_56 : runs cal 146 56 [v0, v1, v2, v3, v4, v5] [vI x0, vI x1, vR 76] I = if 0 ≤ x1 ∧ x1 < 8 then runs cal 146 57 [v0, v1, v2, v3, v4, v5] [] (mset I 76 x1 x0) else none := st_iast (ins_of mI_146 (by rfl)) cT_76 (wdc wid_146 wd_76)
theorem r146_57 : runs cal 146 57 [v0, v1, v2, v3, v4, v5] [] I = runs cal 146 10 [v0, v1, v2, v3, v4, v5] [] I := st_goto (ins_of mI_146 (by rfl)) (by decide)
theorem r146_60 : runs cal 146 60 [v0, v1, v2, v3, v4, v5] [] I = some (none, I) := st_ret (q := none) (k := 3) (ins_of mI_146 (by rfl)) rfl (by decide) mR_146 rfl trivial
theorem r147_0 : runs cal 147 0 [v0, v1, v2, v3] [] I = runs cal 147 1 [v0, v1, v2, v3] [vI (0)] I := runs_to (ins_of mI_147 (by rfl)) rfl rfl
theorem r147_1 : runs cal 147 1 [v0, v1, vI u, v3] [vI x0] I = runs cal 147 2 [v0, v1, vI u, vI x0] [] I := runs_to (ins_of mI_147 (by rfl)) rfl rfl
theorem r147_2 : runs cal 147 2 [v0, v1, v2, vI w] [] I = runs cal 147 3 [v0, v1, v2, vI w] [vI w] I := runs_to (ins_of mI_147 (by rfl)) rfl rfl
theorem r147_3 : runs cal 147 3 [vR 70, v1, v2, v3] [vI x0] I = runs cal 147 4 [vR 70, v1, v2, v3] [vR 70, vI x0] I := runs_to (ins_of mI_147 (by rfl)) rfl rfl
theorem r147_4 : runs cal 147 4 [v0, v1, v2, v3] [vR 70, vI x1] I = runs cal 147 7 [v0, v1, v2, v3] [vR 76, vI x1] I := st_getR (ins_of mI_147 (by rfl)) mC_147 (by decide) fr_11_27 cT_70 (wdc wid_147 wd_70) rfl rfl
theorem r147_7 : runs cal 147 7 [v0, v1, vI w, v3] [vR 76, vI x1] I = runs cal 147 8 [v0, v1, vI w, v3] [vI w, vR 76, vI x1] I := runs_to (ins_of mI_147 (by rfl)) rfl rfl
theorem r147_8 : runs cal 147 8 [v0, v1, v2, v3] [vI x0, vR 76, vI x2] I = if 0 ≤ x0 ∧ x0 < 8 then runs cal 147 9 [v0, v1, v2, v3] [vI (I 76 x0), vI x2] I else none := st_iald (ins_of mI_147 (by rfl)) cT_76 (wdc wid_147 wd_76)
theorem r147_9 : runs cal 147 9 [v0, v1, v2, v3] [vI x0, vI x1] I = if x1 < x0 then runs cal 147 12 [v0, v1, v2, v3] [] I else runs cal 147 40 [v0, v1, v2, v3] [] I := st_cmp_ge (ins_of mI_147 (by rfl)) (by decide)
theorem r147_12 : runs cal 147 12 [vR 70, v1, v2, v3] [] I = runs cal 147 13 [vR 70, v1, v2, v3] [vR 70] I := runs_to (ins_of mI_147 (by rfl)) rfl rfl
theorem r147_13 : runs cal 147 13 [v0, v1, v2, v3] [vR 70] I = runs cal 147 16 [v0, v1, v2, v3] [vR 75] I := st_getR (ins_of mI_147 (by rfl)) mC_147 (by decide) fr_11_23 cT_70 (wdc wid_147 wd_70) rfl rfl
theorem r147_16 : runs cal 147 16 [v0, v1, v2, v3] [vR 75] I = runs cal 147 18 [v0, v1, v2, v3] [vI (64), vR 75] I := runs_to (ins_of mI_147 (by rfl)) rfl rfl
theorem r147_18 : runs cal 147 18 [v0, vI w, v2, v3] [vI x0, vR 75] I = runs cal 147 19 [v0, vI w, v2, v3] [vI w, vI x0, vR 75] I := runs_to (ins_of mI_147 (by rfl)) rfl rfl
theorem r147_19 : runs cal 147 19 [v0, v1, v2, v3] [vI x0, vI x1, vR 75] I = runs cal 147 20 [v0, v1, v2, v3] [vI (imul x1 x0), vR 75] I := runs_to (ins_of mI_147 (by rfl)) rfl rfl
theorem r147_20 : runs cal 147 20 [v0, v1, v2, vI w] [vI x0, vR 75] I = runs cal 147 21 [v0, v1, v2, vI w] [vI w, vI x0, vR 75] I := runs_to (ins_of mI_147 (by rfl)) rfl rfl
theorem r147_21 : runs cal 147 21 [v0, v1, v2, v3] [vI x0, vI x1, vR 75] I = runs cal 147 22 [v0, v1, v2, v3] [vI (iadd x1 x0), vR 75] I := runs_to (ins_of mI_147 (by rfl)) rfl rfl
theorem r147_22 : runs cal 147 22 [vR 70, v1, v2, v3] [vI x0, vR 75] I = runs cal 147 23 [vR 70, v1, v2, v3] [vR 70, vI x0, vR 75] I := runs_to (ins_of mI_147 (by rfl)) rfl rfl
theorem r147_23 : runs cal 147 23 [v0, v1, v2, v3] [vR 70, vI x1, vR 75] I = runs cal 147 26 [v0, v1, v2, v3] [vR 75, vI x1, vR 75] I := st_getR (ins_of mI_147 (by rfl)) mC_147 (by decide) fr_11_23 cT_70 (wdc wid_147 wd_70) rfl rfl
theorem r147_26 : runs cal 147 26 [v0, v1, v2, v3] [vR 75, vI x1, vR 75] I = runs cal 147 28 [v0, v1, v2, v3] [vI (64), vR 75, vI x1, vR 75] I := runs_to (ins_of mI_147 (by rfl)) rfl rfl
theorem r147_28 : runs cal 147 28 [v0, v1, vI w, v3] [vI x0, vR 75, vI x2, vR 75] I = runs cal 147 29 [v0, v1, vI w, v3] [vI w, vI x0, vR 75, vI x2, vR 75] I := runs_to (ins_of mI_147 (by rfl)) rfl rfl
theorem r147_29 : runs cal 147 29 [v0, v1, v2, v3] [vI x0, vI x1, vR 75, vI x3, vR 75] I = runs cal 147 30 [v0, v1, v2, v3] [vI (imul x1 x0), vR 75, vI x3, vR 75] I := runs_to (ins_of mI_147 (by rfl)) rfl rfl
theorem r147_30 : runs cal 147 30 [v0, v1, v2, vI w] [vI x0, vR 75, vI x2, vR 75] I = runs cal 147 31 [v0, v1, v2, vI w] [vI w, vI x0, vR 75, vI x2, vR 75] I := runs_to (ins_of mI_147 (by rfl)) rfl rfl
theorem r147_31 : runs cal 147 31 [v0, v1, v2, v3] [vI x0, vI x1, vR 75, vI x3, vR 75] I = runs cal 147 32 [v0, v1, v2, v3] [vI (iadd x1 x0), vR 75, vI x3, vR 75] I := runs_to (ins_of mI_147 (by rfl)) rfl rfl
theorem r147_32 : runs cal 147 32 [v0, v1, v2, v3] [vI x0, vR 75, vI x2, vR 75] I = if 0 ≤ x0 ∧ x0 < 512 then runs cal 147 33 [v0, v1, v2, v3] [vL (I 75 x0), vI x2, vR 75] I else none := st_lald (ins_of mI_147 (by rfl)) cT_75 (wdc wid_147 wd_75)
theorem r147_33 : runs cal 147 33 [v0, v1, v2, v3] [vL x0, vI x1, vR 75] I = if 0 ≤ x1 ∧ x1 < 512 then runs cal 147 34 [v0, v1, v2, v3] [] (mset I 75 x1 x0) else none := st_last (ins_of mI_147 (by rfl)) cT_75 (wdc wid_147 wd_75)
theorem r147_34 : runs cal 147 34 [v0, v1, vI u, vI w] [] I = runs cal 147 37 [v0, v1, vI u, vI (iadd w (1))] [] I := runs_to (ins_of mI_147 (by rfl)) rfl rfl
theorem r147_37 : runs cal 147 37 [v0, v1, v2, v3] [] I = runs cal 147 2 [v0, v1, v2, v3] [] I := st_goto (ins_of mI_147 (by rfl)) (by decide)
theorem r147_40 : runs cal 147 40 [vR 70, v1, v2, v3] [] I = runs cal 147 41 [vR 70, v1, v2, v3] [vR 70] I := runs_to (ins_of mI_147 (by rfl)) rfl rfl
theorem r147_41 : runs cal 147 41 [v0, v1, v2, v3] [vR 70] I = runs cal 147 44 [v0, v1, v2, v3] [vR 76] I := st_getR (ins_of mI_147 (by rfl)) mC_147 (by decide) fr_11_27 cT_70 (wdc wid_147 wd_70) rfl rfl
theorem r147_44 : runs cal 147 44 [v0, vI w, v2, v3] [vR 76] I = runs cal 147 45 [v0, vI w, v2, v3] [vI w, vR 76] I := runs_to (ins_of mI_147 (by rfl)) rfl rfl
theorem r147_45 : runs cal 147 45 [vR 70, v1, v2, v3] [vI x0, vR 76] I = runs cal 147 46 [vR 70, v1, v2, v3] [vR 70, vI x0, vR 76] I := runs_to (ins_of mI_147 (by rfl)) rfl rfl
theorem r147_46 : runs cal 147 46 [v0, v1, v2, v3] [vR 70, vI x1, vR 76] I = runs cal 147 49 [v0, v1, v2, v3] [vR 76, vI x1, vR 76] I := st_getR (ins_of mI_147 (by rfl)) mC_147 (by decide) fr_11_27 cT_70 (wdc wid_147 wd_70) rfl rfl
theorem r147_49 : runs cal 147 49 [v0, v1, vI w, v3] [vR 76, vI x1, vR 76] I = runs cal 147 50 [v0, v1, vI w, v3] [vI w, vR 76, vI x1, vR 76] I := runs_to (ins_of mI_147 (by rfl)) rfl rfl
theorem r147_50 : runs cal 147 50 [v0, v1, v2, v3] [vI x0, vR 76, vI x2, vR 76] I = if 0 ≤ x0 ∧ x0 < 8 then runs cal 147 51 [v0, v1, v2, v3] [vI (I 76 x0), vI x2, vR 76] I else none := st_iald (ins_of mI_147 (by rfl)) cT_76 (wdc wid_147 wd_76)
theorem r147_51 : runs cal 147 51 [v0, v1, v2, v3] [vI x0, vI x1, vR 76] I = if 0 ≤ x1 ∧ x1 < 8 then runs cal 147 52 [v0, v1, v2, v3] [] (mset I 76 x1 x0) else none := st_iast (ins_of mI_147 (by rfl)) cT_76 (wdc wid_147 wd_76)
theorem r147_52 : runs cal 147 52 [v0, v1, v2, v3] [] I = some (none, I) := st_ret (q := none) (k := 3) (ins_of mI_147 (by rfl)) rfl (by decide) mR_147 rfl trivial
theorem r148_0 : runs cal 148 0 [vR 70, v1] [] I = runs cal 148 1 [vR 70, v1] [vR 70] I := runs_to (ins_of mI_148 (by rfl)) rfl rfl
theorem r148_1 : runs cal 148 1 [v0, v1] [vR 70] I = runs cal 148 4 [v0, v1] [vR 76] I := st_getR (ins_of mI_148 (by rfl)) mC_148 (by decide) fr_11_27 cT_70 (wdc wid_148 wd_70) rfl rfl
theorem r148_4 : runs cal 148 4 [v0, vI w] [vR 76] I = runs cal 148 5 [v0, vI w] [vI w, vR 76] I := runs_to (ins_of mI_148 (by rfl)) rfl rfl
theorem r148_5 : runs cal 148 5 [v0, v1] [vI x0, vR 76] I = if 0 ≤ x0 ∧ x0 < 8 then runs cal 148 6 [v0, v1] [vI (I 76 x0)] I else none := st_iald (ins_of mI_148 (by rfl)) cT_76 (wdc wid_148 wd_76)
theorem r148_6 : runs cal 148 6 [v0, v1] [vI x0] I = if 0 < x0 then runs cal 148 9 [v0, v1] [] I else runs cal 148 45 [v0, v1] [] I := st_if_le (ins_of mI_148 (by rfl)) (by decide)
theorem r148_9 : runs cal 148 9 [vR 70, v1] [] I = runs cal 148 10 [vR 70, v1] [vR 70] I := runs_to (ins_of mI_148 (by rfl)) rfl rfl
theorem r148_10 : runs cal 148 10 [v0, v1] [vR 70] I = runs cal 148 13 [v0, v1] [vR 75] I := st_getR (ins_of mI_148 (by rfl)) mC_148 (by decide) fr_11_23 cT_70 (wdc wid_148 wd_70) rfl rfl
theorem r148_13 : runs cal 148 13 [v0, v1] [vR 75] I = runs cal 148 15 [v0, v1] [vI (64), vR 75] I := runs_to (ins_of mI_148 (by rfl)) rfl rfl
theorem r148_15 : runs cal 148 15 [v0, vI w] [vI x0, vR 75] I = runs cal 148 16 [v0, vI w] [vI w, vI x0, vR 75] I := runs_to (ins_of mI_148 (by rfl)) rfl rfl
theorem r148_16 : runs cal 148 16 [v0, v1] [vI x0, vI x1, vR 75] I = runs cal 148 17 [v0, v1] [vI (imul x1 x0), vR 75] I := runs_to (ins_of mI_148 (by rfl)) rfl rfl
theorem r148_17 : runs cal 148 17 [vR 70, v1] [vI x0, vR 75] I = runs cal 148 18 [vR 70, v1] [vR 70, vI x0, vR 75] I := runs_to (ins_of mI_148 (by rfl)) rfl rfl
theorem r148_18 : runs cal 148 18 [v0, v1] [vR 70, vI x1, vR 75] I = runs cal 148 21 [v0, v1] [vR 76, vI x1, vR 75] I := st_getR (ins_of mI_148 (by rfl)) mC_148 (by decide) fr_11_27 cT_70 (wdc wid_148 wd_70) rfl rfl
theorem r148_21 : runs cal 148 21 [v0, vI w] [vR 76, vI x1, vR 75] I = runs cal 148 22 [v0, vI w] [vI w, vR 76, vI x1, vR 75] I := runs_to (ins_of mI_148 (by rfl)) rfl rfl
theorem r148_22 : runs cal 148 22 [v0, v1] [vI x0, vR 76, vI x2, vR 75] I = if 0 ≤ x0 ∧ x0 < 8 then runs cal 148 23 [v0, v1] [vI (I 76 x0), vI x2, vR 75] I else none := st_iald (ins_of mI_148 (by rfl)) cT_76 (wdc wid_148 wd_76)
theorem r148_23 : runs cal 148 23 [v0, v1] [vI x0, vI x1, vR 75] I = runs cal 148 24 [v0, v1] [vI (iadd x1 x0), vR 75] I := runs_to (ins_of mI_148 (by rfl)) rfl rfl
theorem r148_24 : runs cal 148 24 [v0, v1] [vI x0, vR 75] I = runs cal 148 25 [v0, v1] [vI (1), vI x0, vR 75] I := runs_to (ins_of mI_148 (by rfl)) rfl rfl
theorem r148_25 : runs cal 148 25 [v0, v1] [vI x0, vI x1, vR 75] I = runs cal 148 26 [v0, v1] [vI (isub x1 x0), vR 75] I := runs_to (ins_of mI_148 (by rfl)) rfl rfl
theorem r148_26 : runs cal 148 26 [v0, v1] [vI x0, vR 75] I = if 0 ≤ x0 ∧ x0 < 512 then runs cal 148 27 [v0, v1] [vL (I 75 x0)] I else none := st_lald (ins_of mI_148 (by rfl)) cT_75 (wdc wid_148 wd_75)
theorem r148_27 : runs cal 148 27 [v0, v1] [vL x0] I = runs cal 148 28 [v0, v1] [vL 0, vL x0] I := runs_to (ins_of mI_148 (by rfl)) rfl rfl
theorem r148_28 : runs cal 148 28 [v0, v1] [vL x0, vL x1] I = if x1 = x0 then runs cal 148 32 [v0, v1] [] I else runs cal 148 45 [v0, v1] [] I := st_lc_ne (ins_of mI_148 (by rfl)) (ins_of mI_148 (by rfl)) (by decide)
theorem r148_29 : runs cal 148 29 [v0, v1] [vI x0] I = if x0 = 0 then runs cal 148 32 [v0, v1] [] I else runs cal 148 45 [v0, v1] [] I := st_if_ne (ins_of mI_148 (by rfl)) (by decide)
theorem r148_32 : runs cal 148 32 [vR 70, v1] [] I = runs cal 148 33 [vR 70, v1] [vR 70] I := runs_to (ins_of mI_148 (by rfl)) rfl rfl
theorem r148_33 : runs cal 148 33 [v0, v1] [vR 70] I = runs cal 148 36 [v0, v1] [vR 76] I := st_getR (ins_of mI_148 (by rfl)) mC_148 (by decide) fr_11_27 cT_70 (wdc wid_148 wd_70) rfl rfl
theorem r148_36 : runs cal 148 36 [v0, vI w] [vR 76] I = runs cal 148 37 [v0, vI w] [vI w, vR 76] I := runs_to (ins_of mI_148 (by rfl)) rfl rfl
theorem r148_37 : runs cal 148 37 [v0, v1] [vI x0, vR 76] I = runs cal 148 38 [v0, v1] [vI x0, vR 76, vI x0, vR 76] I := runs_to (ins_of mI_148 (by rfl)) rfl rfl
theorem r148_38 : runs cal 148 38 [v0, v1] [vI x0, vR 76, vI x2, vR 76] I = if 0 ≤ x0 ∧ x0 < 8 then runs cal 148 39 [v0, v1] [vI (I 76 x0), vI x2, vR 76] I else none := st_iald (ins_of mI_148 (by rfl)) cT_76 (wdc wid_148 wd_76)
theorem r148_39 : runs cal 148 39 [v0, v1] [vI x0, vI x1, vR 76] I = runs cal 148 40 [v0, v1] [vI (1), vI x0, vI x1, vR 76] I := runs_to (ins_of mI_148 (by rfl)) rfl rfl
theorem r148_40 : runs cal 148 40 [v0, v1] [vI x0, vI x1, vI x2, vR 76] I = runs cal 148 41 [v0, v1] [vI (isub x1 x0), vI x2, vR 76] I := runs_to (ins_of mI_148 (by rfl)) rfl rfl
theorem r148_41 : runs cal 148 41 [v0, v1] [vI x0, vI x1, vR 76] I = if 0 ≤ x1 ∧ x1 < 8 then runs cal 148 42 [v0, v1] [] (mset I 76 x1 x0) else none := st_iast (ins_of mI_148 (by rfl)) cT_76 (wdc wid_148 wd_76)
theorem r148_42 : runs cal 148 42 [v0, v1] [] I = runs cal 148 0 [v0, v1] [] I := st_goto (ins_of mI_148 (by rfl)) (by decide)
theorem r148_45 : runs cal 148 45 [v0, v1] [] I = some (none, I) := st_ret (q := none) (k := 3) (ins_of mI_148 (by rfl)) rfl (by decide) mR_148 rfl trivial
theorem r149_0 : runs cal 149 0 [v0, v1, v2, v3, v4, v5, v6, v7, v8] [] I = runs cal 149 1 [v0, v1, v2, v3, v4, v5, v6, v7, v8] [vL 0] I := runs_to (ins_of mI_149 (by rfl)) rfl rfl
theorem r149_1 : runs cal 149 1 [v0, v1, v2, v3, v4, v5, v6, v7, v8] [vL x0] I = runs cal 149 3 [v0, v1, v2, kill v3, vL x0, vR 0, v6, v7, v8] [] I := runs_to (ins_of mI_149 (by rfl)) rfl rfl
theorem r149_3 : runs cal 149 3 [v0, v1, v2, v3, v4, v5, v6, v7, v8] [] I = runs cal 149 4 [v0, v1, v2, v3, v4, v5, v6, v7, v8] [vI (0)] I := runs_to (ins_of mI_149 (by rfl)) rfl rfl
theorem r149_4 : runs cal 149 4 [v0, v1, v2, v3, v4, v5, v6, v7, v8] [vI x0] I = runs cal 149 6 [v0, v1, v2, v3, v4, kill v5, vI x0, v7, v8] [] I := runs_to (ins_of mI_149 (by rfl)) rfl rfl
theorem r149_6 : runs cal 149 6 [v0, v1, v2, v3, v4, v5, vI w, v7, v8] [] I = runs cal 149 8 [v0, v1, v2, v3, v4, v5, vI w, v7, v8] [vI w] I := runs_to (ins_of mI_149 (by rfl)) rfl rfl
theorem r149_8 : runs cal 149 8 [vR 70, v1, v2, v3, v4, v5, v6, v7, v8] [vI x0] I = runs cal 149 9 [vR 70, v1, v2, v3, v4, v5, v6, v7, v8] [vR 70, vI x0] I := runs_to (ins_of mI_149 (by rfl)) rfl rfl
theorem r149_9 : runs cal 149 9 [v0, v1, v2, v3, v4, v5, v6, v7, v8] [vR 70, vI x1] I = runs cal 149 12 [v0, v1, v2, v3, v4, v5, v6, v7, v8] [vR 76, vI x1] I := st_getR (ins_of mI_149 (by rfl)) mC_149 (by decide) fr_11_27 cT_70 (wdc wid_149 wd_70) rfl rfl
theorem r149_12 : runs cal 149 12 [v0, vI w, v2, v3, v4, v5, v6, v7, v8] [vR 76, vI x1] I = runs cal 149 13 [v0, vI w, v2, v3, v4, v5, v6, v7, v8] [vI w, vR 76, vI x1] I := runs_to (ins_of mI_149 (by rfl)) rfl rfl
theorem r149_13 : runs cal 149 13 [v0, v1, v2, v3, v4, v5, v6, v7, v8] [vI x0, vR 76, vI x2] I = if 0 ≤ x0 ∧ x0 < 8 then runs cal 149 14 [v0, v1, v2, v3, v4, v5, v6, v7, v8] [vI (I 76 x0), vI x2] I else none := st_iald (ins_of mI_149 (by rfl)) cT_76 (wdc wid_149 wd_76)
theorem r149_14 : runs cal 149 14 [v0, v1, v2, v3, v4, v5, v6, v7, v8] [vI x0, vI x1] I = if x1 < x0 then runs cal 149 17 [v0, v1, v2, v3, v4, v5, v6, v7, v8] [] I else runs cal 149 68 [v0, v1, v2, v3, v4, v5, v6, v7, v8] [] I := st_cmp_ge (ins_of mI_149 (by rfl)) (by decide)
theorem r149_17 : runs cal 149 17 [vR 70, v1, v2, v3, v4, v5, v6, v7, v8] [] I = runs cal 149 18 [vR 70, v1, v2, v3, v4, v5, v6, v7, v8] [vR 70] I := runs_to (ins_of mI_149 (by rfl)) rfl rfl
theorem r149_18 : runs cal 149 18 [v0, v1, v2, v3, v4, v5, v6, v7, v8] [vR 70] I = runs cal 149 21 [v0, v1, v2, v3, v4, v5, v6, v7, v8] [vR 75] I := st_getR (ins_of mI_149 (by rfl)) mC_149 (by decide) fr_11_23 cT_70 (wdc wid_149 wd_70) rfl rfl
theorem r149_21 : runs cal 149 21 [v0, v1, v2, v3, v4, v5, v6, v7, v8] [vR 75] I = runs cal 149 23 [v0, v1, v2, v3, v4, v5, v6, v7, v8] [vI (64), vR 75] I := runs_to (ins_of mI_149 (by rfl)) rfl rfl
theorem r149_23 : runs cal 149 23 [v0, vI w, v2, v3, v4, v5, v6, v7, v8] [vI x0, vR 75] I = runs cal 149 24 [v0, vI w, v2, v3, v4, v5, v6, v7, v8] [vI w, vI x0, vR 75] I := runs_to (ins_of mI_149 (by rfl)) rfl rfl
theorem r149_24 : runs cal 149 24 [v0, v1, v2, v3, v4, v5, v6, v7, v8] [vI x0, vI x1, vR 75] I = runs cal 149 25 [v0, v1, v2, v3, v4, v5, v6, v7, v8] [vI (imul x1 x0), vR 75] I := runs_to (ins_of mI_149 (by rfl)) rfl rfl
theorem r149_25 : runs cal 149 25 [v0, v1, v2, v3, v4, v5, vI w, v7, v8] [vI x0, vR 75] I = runs cal 149 27 [v0, v1, v2, v3, v4, v5, vI w, v7, v8] [vI w, vI x0, vR 75] I := runs_to (ins_of mI_149 (by rfl)) rfl rfl
theorem r149_27 : runs cal 149 27 [v0, v1, v2, v3, v4, v5, v6, v7, v8] [vI x0, vI x1, vR 75] I = runs cal 149 28 [v0, v1, v2, v3, v4, v5, v6, v7, v8] [vI (iadd x1 x0), vR 75] I := runs_to (ins_of mI_149 (by rfl)) rfl rfl
theorem r149_28 : runs cal 149 28 [v0, v1, v2, v3, v4, v5, v6, v7, v8] [vI x0, vR 75] I = if 0 ≤ x0 ∧ x0 < 512 then runs cal 149 29 [v0, v1, v2, v3, v4, v5, v6, v7, v8] [vL (I 75 x0)] I else none := st_lald (ins_of mI_149 (by rfl)) cT_75 (wdc wid_149 wd_75)
theorem r149_29 : runs cal 149 29 [v0, v1, vL w, v3, v4, v5, v6, v7, v8] [vL x0] I = runs cal 149 30 [v0, v1, vL w, v3, v4, v5, v6, v7, v8] [vL w, vL x0] I := runs_to (ins_of mI_149 (by rfl)) rfl rfl
theorem r149_30 : runs cal 149 30 [v0, v1, v2, v3, v4, v5, v6, v7, v8] [vL x0, vL x1] I = runs cal 149 31 [v0, v1, v2, v3, v4, v5, v6, v7, v8] [vL (lmul x1 x0)] I := runs_to (ins_of mI_149 (by rfl)) rfl rfl
theorem r149_31 : runs cal 149 31 [v0, v1, v2, v3, vL w, v5, v6, v7, v8] [vL x0] I = runs cal 149 33 [v0, v1, v2, v3, vL w, v5, v6, v7, v8] [vL w, vL x0] I := runs_to (ins_of mI_149 (by rfl)) rfl rfl
theorem r149_33 : runs cal 149 33 [v0, v1, v2, v3, v4, v5, v6, v7, v8] [vL x0, vL x1] I = runs cal 149 34 [v0, v1, v2, v3, v4, v5, v6, v7, v8] [vL (ladd x1 x0)] I := runs_to (ins_of mI_149 (by rfl)) rfl rfl
theorem r149_34 : runs cal 149 34 [v0, v1, v2, v3, v4, v5, vI u, v7, v8] [vL x0] I = runs cal 149 36 [v0, v1, v2, v3, v4, v5, vI u, vL x0, vR 0] [] I := runs_to (ins_of mI_149 (by rfl)) rfl rfl
theorem r149_36 : runs cal 149 36 [vR 70, v1, v2, v3, v4, v5, v6, v7, v8] [] I = runs cal 149 37 [vR 70, v1, v2, v3, v4, v5, v6, v7, v8] [vR 70] I := runs_to (ins_of mI_149 (by rfl)) rfl rfl
theorem r149_37 : runs cal 149 37 [v0, v1, v2, v3, v4, v5, v6, v7, v8] [vR 70] I = runs cal 149 40 [v0, v1, v2, v3, v4, v5, v6, v7, v8] [vR 75] I := st_getR (ins_of mI_149 (by rfl)) mC_149 (by decide) fr_11_23 cT_70 (wdc wid_149 wd_70) rfl rfl
theorem r149_40 : runs cal 149 40 [v0, v1, v2, v3, v4, v5, v6, v7, v8] [vR 75] I = runs cal 149 42 [v0, v1, v2, v3, v4, v5, v6, v7, v8] [vI (64), vR 75] I := runs_to (ins_of mI_149 (by rfl)) rfl rfl
theorem r149_42 : runs cal 149 42 [v0, vI w, v2, v3, v4, v5, v6, v7, v8] [vI x0, vR 75] I = runs cal 149 43 [v0, vI w, v2, v3, v4, v5, v6, v7, v8] [vI w, vI x0, vR 75] I := runs_to (ins_of mI_149 (by rfl)) rfl rfl
theorem r149_43 : runs cal 149 43 [v0, v1, v2, v3, v4, v5, v6, v7, v8] [vI x0, vI x1, vR 75] I = runs cal 149 44 [v0, v1, v2, v3, v4, v5, v6, v7, v8] [vI (imul x1 x0), vR 75] I := runs_to (ins_of mI_149 (by rfl)) rfl rfl
theorem r149_44 : runs cal 149 44 [v0, v1, v2, v3, v4, v5, vI w, v7, v8] [vI x0, vR 75] I = runs cal 149 46 [v0, v1, v2, v3, v4, v5, vI w, v7, v8] [vI w, vI x0, vR 75] I := runs_to (ins_of mI_149 (by rfl)) rfl rfl
theorem r149_46 : runs cal 149 46 [v0, v1, v2, v3, v4, v5, v6, v7, v8] [vI x0, vI x1, vR 75] I = runs cal 149 47 [v0, v1, v2, v3, v4, v5, v6, v7, v8] [vI (iadd x1 x0), vR 75] I := runs_to (ins_of mI_149 (by rfl)) rfl rfl
theorem r149_47 : runs cal 149 47 [v0, v1, v2, v3, v4, v5, v6, vL w, v8] [vI x0, vR 75] I = runs cal 149 49 [v0, v1, v2, v3, v4, v5, v6, vL w, v8] [vL w, vI x0, vR 75] I := runs_to (ins_of mI_149 (by rfl)) rfl rfl
theorem r149_49 : runs cal 149 49 [v0, v1, v2, v3, v4, v5, v6, v7, v8] [vL x0, vI x1, vR 75] I = runs cal 149 52 [v0, v1, v2, v3, v4, v5, v6, v7, v8] [vL (1073741824), vL x0, vI x1, vR 75] I := runs_to (ins_of mI_149 (by rfl)) rfl (by simp only [stepI, ldk2, mC_149]; rfl)
theorem r149_52 : runs cal 149 52 [v0, v1, v2, v3, v4, v5, v6, v7, v8] [vL x0, vL x1, vI x2, vR 75] I = if x0 = 0 then none else runs cal 149 53 [v0, v1, v2, v3, v4, v5, v6, v7, v8] [vL (lrem x1 x0), vI x2, vR 75] I := st_nzL (ins_of mI_149 (by rfl)) rfl rfl
theorem r149_53 : runs cal 149 53 [v0, v1, v2, v3, v4, v5, v6, v7, v8] [vL x0, vI x1, vR 75] I = if 0 ≤ x1 ∧ x1 < 512 then runs cal 149 54 [v0, v1, v2, v3, v4, v5, v6, v7, v8] [] (mset I 75 x1 x0) else none := st_last (ins_of mI_149 (by rfl)) cT_75 (wdc wid_149 wd_75)
theorem r149_54 : runs cal 149 54 [v0, v1, v2, v3, v4, v5, v6, vL w, v8] [] I = runs cal 149 56 [v0, v1, v2, v3, v4, v5, v6, vL w, v8] [vL w] I := runs_to (ins_of mI_149 (by rfl)) rfl rfl
theorem r149_56 : runs cal 149 56 [v0, v1, v2, v3, v4, v5, v6, v7, v8] [vL x0] I = runs cal 149 59 [v0, v1, v2, v3, v4, v5, v6, v7, v8] [vL (1073741824), vL x0] I := runs_to (ins_of mI_149 (by rfl)) rfl (by simp only [stepI, ldk2, mC_149]; rfl)
theorem r149_59 : runs cal 149 59 [v0, v1, v2, v3, v4, v5, v6, v7, v8] [vL x0, vL x1] I = if x0 = 0 then none else runs cal 149 60 [v0, v1, v2, v3, v4, v5, v6, v7, v8] [vL (ldiv x1 x0)] I := st_nzL (ins_of mI_149 (by rfl)) rfl rfl
theorem r149_60 : runs cal 149 60 [v0, v1, v2, v3, v4, v5, v6, v7, v8] [vL x0] I = runs cal 149 62 [v0, v1, v2, kill v3, vL x0, vR 0, v6, v7, v8] [] I := runs_to (ins_of mI_149 (by rfl)) rfl rfl
theorem r149_62 : runs cal 149 62 [v0, v1, v2, v3, v4, v5, vI w, v7, v8] [] I = runs cal 149 65 [v0, v1, v2, v3, v4, kill v5, vI (iadd w (1)), v7, v8] [] I := runs_to (ins_of mI_149 (by rfl)) rfl rfl
theorem r149_65 : runs cal 149 65 [v0, v1, v2, v3, v4, v5, v6, v7, v8] [] I = runs cal 149 6 [v0, v1, v2, v3, v4, v5, v6, v7, v8] [] I := st_goto (ins_of mI_149 (by rfl)) (by decide)
theorem r149_68 : runs cal 149 68 [v0, v1, v2, v3, vL w, v5, v6, v7, v8] [] I = runs cal 149 70 [v0, v1, v2, v3, vL w, v5, v6, v7, v8] [vL w] I := runs_to (ins_of mI_149 (by rfl)) rfl rfl
theorem r149_70 : runs cal 149 70 [v0, v1, v2, v3, v4, v5, v6, v7, v8] [vL x0] I = runs cal 149 71 [v0, v1, v2, v3, v4, v5, v6, v7, v8] [vL 0, vL x0] I := runs_to (ins_of mI_149 (by rfl)) rfl rfl
theorem r149_71 : runs cal 149 71 [v0, v1, v2, v3, v4, v5, v6, v7, v8] [vL x0, vL x1] I = if x0 < x1 then runs cal 149 75 [v0, v1, v2, v3, v4, v5, v6, v7, v8] [] I else runs cal 149 103 [v0, v1, v2, v3, v4, v5, v6, v7, v8] [] I := st_lc_le (ins_of mI_149 (by rfl)) (ins_of mI_149 (by rfl)) (by decide)
theorem r149_72 : runs cal 149 72 [v0, v1, v2, v3, v4, v5, v6, v7, v8] [vI x0] I = if 0 < x0 then runs cal 149 75 [v0, v1, v2, v3, v4, v5, v6, v7, v8] [] I else runs cal 149 103 [v0, v1, v2, v3, v4, v5, v6, v7, v8] [] I := st_if_le (ins_of mI_149 (by rfl)) (by decide)
theorem r149_75 : runs cal 149 75 [vR 70, v1, v2, v3, v4, v5, v6, v7, v8] [] I = runs cal 149 76 [vR 70, v1, v2, v3, v4, v5, v6, v7, v8] [vR 70] I := runs_to (ins_of mI_149 (by rfl)) rfl rfl
theorem r149_76 : runs cal 149 76 [v0, v1, v2, v3, v4, v5, v6, v7, v8] [vR 70] I = runs cal 149 79 [v0, v1, v2, v3, v4, v5, v6, v7, v8] [vR 75] I := st_getR (ins_of mI_149 (by rfl)) mC_149 (by decide) fr_11_23 cT_70 (wdc wid_149 wd_70) rfl rfl
theorem r149_79 : runs cal 149 79 [v0, v1, v2, v3, v4, v5, v6, v7, v8] [vR 75] I = runs cal 149 81 [v0, v1, v2, v3, v4, v5, v6, v7, v8] [vI (64), vR 75] I := runs_to (ins_of mI_149 (by rfl)) rfl rfl
theorem r149_81 : runs cal 149 81 [v0, vI w, v2, v3, v4, v5, v6, v7, v8] [vI x0, vR 75] I = runs cal 149 82 [v0, vI w, v2, v3, v4, v5, v6, v7, v8] [vI w, vI x0, vR 75] I := runs_to (ins_of mI_149 (by rfl)) rfl rfl
theorem r149_82 : runs cal 149 82 [v0, v1, v2, v3, v4, v5, v6, v7, v8] [vI x0, vI x1, vR 75] I = runs cal 149 83 [v0, v1, v2, v3, v4, v5, v6, v7, v8] [vI (imul x1 x0), vR 75] I := runs_to (ins_of mI_149 (by rfl)) rfl rfl
theorem r149_83 : runs cal 149 83 [vR 70, v1, v2, v3, v4, v5, v6, v7, v8] [vI x0, vR 75] I = runs cal 149 84 [vR 70, v1, v2, v3, v4, v5, v6, v7, v8] [vR 70, vI x0, vR 75] I := runs_to (ins_of mI_149 (by rfl)) rfl rfl
theorem r149_84 : runs cal 149 84 [v0, v1, v2, v3, v4, v5, v6, v7, v8] [vR 70, vI x1, vR 75] I = runs cal 149 87 [v0, v1, v2, v3, v4, v5, v6, v7, v8] [vR 76, vI x1, vR 75] I := st_getR (ins_of mI_149 (by rfl)) mC_149 (by decide) fr_11_27 cT_70 (wdc wid_149 wd_70) rfl rfl
theorem r149_87 : runs cal 149 87 [v0, vI w, v2, v3, v4, v5, v6, v7, v8] [vR 76, vI x1, vR 75] I = runs cal 149 88 [v0, vI w, v2, v3, v4, v5, v6, v7, v8] [vI w, vR 76, vI x1, vR 75] I := runs_to (ins_of mI_149 (by rfl)) rfl rfl
theorem r149_88 : runs cal 149 88 [v0, v1, v2, v3, v4, v5, v6, v7, v8] [vI x0, vR 76, vI x2, vR 75] I = if 0 ≤ x0 ∧ x0 < 8 then runs cal 149 89 [v0, v1, v2, v3, v4, v5, v6, v7, v8] [vI (I 76 x0), vI x2, vR 75] I else none := st_iald (ins_of mI_149 (by rfl)) cT_76 (wdc wid_149 wd_76)
theorem r149_89 : runs cal 149 89 [v0, v1, v2, v3, v4, v5, v6, v7, v8] [vI x0, vI x1, vR 75] I = runs cal 149 90 [v0, v1, v2, v3, v4, v5, v6, v7, v8] [vI (iadd x1 x0), vR 75] I := runs_to (ins_of mI_149 (by rfl)) rfl rfl
theorem r149_90 : runs cal 149 90 [v0, v1, v2, v3, vL w, v5, v6, v7, v8] [vI x0, vR 75] I = runs cal 149 92 [v0, v1, v2, v3, vL w, v5, v6, v7, v8] [vL w, vI x0, vR 75] I := runs_to (ins_of mI_149 (by rfl)) rfl rfl
theorem r149_92 : runs cal 149 92 [v0, v1, v2, v3, v4, v5, v6, v7, v8] [vL x0, vI x1, vR 75] I = if 0 ≤ x1 ∧ x1 < 512 then runs cal 149 93 [v0, v1, v2, v3, v4, v5, v6, v7, v8] [] (mset I 75 x1 x0) else none := st_last (ins_of mI_149 (by rfl)) cT_75 (wdc wid_149 wd_75)
theorem r149_93 : runs cal 149 93 [vR 70, v1, v2, v3, v4, v5, v6, v7, v8] [] I = runs cal 149 94 [vR 70, v1, v2, v3, v4, v5, v6, v7, v8] [vR 70] I := runs_to (ins_of mI_149 (by rfl)) rfl rfl
theorem r149_94 : runs cal 149 94 [v0, v1, v2, v3, v4, v5, v6, v7, v8] [vR 70] I = runs cal 149 97 [v0, v1, v2, v3, v4, v5, v6, v7, v8] [vR 76] I := st_getR (ins_of mI_149 (by rfl)) mC_149 (by decide) fr_11_27 cT_70 (wdc wid_149 wd_70) rfl rfl
theorem r149_97 : runs cal 149 97 [v0, vI w, v2, v3, v4, v5, v6, v7, v8] [vR 76] I = runs cal 149 98 [v0, vI w, v2, v3, v4, v5, v6, v7, v8] [vI w, vR 76] I := runs_to (ins_of mI_149 (by rfl)) rfl rfl
theorem r149_98 : runs cal 149 98 [v0, v1, v2, v3, v4, v5, v6, v7, v8] [vI x0, vR 76] I = runs cal 149 99 [v0, v1, v2, v3, v4, v5, v6, v7, v8] [vI x0, vR 76, vI x0, vR 76] I := runs_to (ins_of mI_149 (by rfl)) rfl rfl
theorem r149_99 : runs cal 149 99 [v0, v1, v2, v3, v4, v5, v6, v7, v8] [vI x0, vR 76, vI x2, vR 76] I = if 0 ≤ x0 ∧ x0 < 8 then runs cal 149 100 [v0, v1, v2, v3, v4, v5, v6, v7, v8] [vI (I 76 x0), vI x2, vR 76] I else none := st_iald (ins_of mI_149 (by rfl)) cT_76 (wdc wid_149 wd_76)
theorem r149_100 : runs cal 149 100 [v0, v1, v2, v3, v4, v5, v6, v7, v8] [vI x0, vI x1, vR 76] I = runs cal 149 101 [v0, v1, v2, v3, v4, v5, v6, v7, v8] [vI (1), vI x0, vI x1, vR 76] I := runs_to (ins_of mI_149 (by rfl)) rfl rfl
theorem r149_101 : runs cal 149 101 [v0, v1, v2, v3, v4, v5, v6, v7, v8] [vI x0, vI x1, vI x2, vR 76] I = runs cal 149 102 [v0, v1, v2, v3, v4, v5, v6, v7, v8] [vI (iadd x1 x0), vI x2, vR 76] I := runs_to (ins_of mI_149 (by rfl)) rfl rfl
theorem r149_102 : runs cal 149 102 [v0, v1, v2, v3, v4, v5, v6, v7, v8] [vI x0, vI x1, vR 76] I = if 0 ≤ x1 ∧ x1 < 8 then runs cal 149 103 [v0, v1, v2, v3, v4, v5, v6, v7, v8] [] (mset I 76 x1 x0) else none := st_iast (ins_of mI_149 (by rfl)) cT_76 (wdc wid_149 wd_76)
theorem r149_103 : runs cal 149 103 [vR 70, v1, v2, v3, v4, v5, v6, v7, v8] [] I = runs cal 149 104 [vR 70, v1, v2, v3, v4, v5, v6, v7, v8] [vR 70] I := runs_to (ins_of mI_149 (by rfl)) rfl rfl
theorem r149_104 : runs cal 149 104 [v0, vI w, v2, v3, v4, v5, v6, v7, v8] [vR 70] I = runs cal 149 105 [v0, vI w, v2, v3, v4, v5, v6, v7, v8] [vI w, vR 70] I := runs_to (ins_of mI_149 (by rfl)) rfl rfl
theorem r149_105 : runs cal 149 105 [v0, v1, v2, v3, v4, v5, v6, v7, v8] [vI x0, vR 70] I = (cal 148 [vR 70, vI x0] I).bind (fun q => runs cal 149 108 [v0, v1, v2, v3, v4, v5, v6, v7, v8] (pushR q.1 []) q.2) := st_call (st := false) (ins_of mI_149 (by rfl)) mC_149 mr_11_73 (by decide) mS_148 mN_148 rfl (Nat.le_of_ble_eq_true rfl) rfl rfl (Or.inr ⟨_, _, rfl, rcv mC_148 rfl wid_149 (by decide +kernel)⟩) (Or.inl (wid_149.trans wid_148.symm))
theorem r149_108 : runs cal 149 108 [v0, v1, v2, v3, v4, v5, v6, v7, v8] [] I = some (none, I) := st_ret (q := none) (k := 3) (ins_of mI_149 (by rfl)) rfl (by decide) mR_149 rfl trivial
theorem r150_0 : runs cal 150 0 [vR 70, v1, v2, v3, v4, v5] [] I = runs cal 150 1 [vR 70, v1, v2, v3, v4, v5] [vR 70] I := runs_to (ins_of mI_150 (by rfl)) rfl rfl
theorem r150_1 : runs cal 150 1 [v0, v1, v2, v3, v4, v5] [vR 70] I = runs cal 150 4 [v0, v1, v2, v3, v4, v5] [vR 76] I := st_getR (ins_of mI_150 (by rfl)) mC_150 (by decide) fr_11_27 cT_70 (wdc wid_150 wd_70) rfl rfl
theorem r150_4 : runs cal 150 4 [v0, vI w, v2, v3, v4, v5] [vR 76] I = runs cal 150 5 [v0, vI w, v2, v3, v4, v5] [vI w, vR 76] I := runs_to (ins_of mI_150 (by rfl)) rfl rfl
theorem r150_5 : runs cal 150 5 [v0, v1, v2, v3, v4, v5] [vI x0, vR 76] I = if 0 ≤ x0 ∧ x0 < 8 then runs cal 150 6 [v0, v1, v2, v3, v4, v5] [vI (I 76 x0)] I else none := st_iald (ins_of mI_150 (by rfl)) cT_76 (wdc wid_150 wd_76)
theorem r150_6 : runs cal 150 6 [vR 70, v1, v2, v3, v4, v5] [vI x0] I = runs cal 150 7 [vR 70, v1, v2, v3, v4, v5] [vR 70, vI x0] I := runs_to (ins_of mI_150 (by rfl)) rfl rfl
theorem r150_7 : runs cal 150 7 [v0, v1, v2, v3, v4, v5] [vR 70, vI x1] I = runs cal 150 10 [v0, v1, v2, v3, v4, v5] [vR 76, vI x1] I := st_getR (ins_of mI_150 (by rfl)) mC_150 (by decide) fr_11_27 cT_70 (wdc wid_150 wd_70) rfl rfl
theorem r150_10 : runs cal 150 10 [v0, v1, vI w, v3, v4, v5] [vR 76, vI x1] I = runs cal 150 11 [v0, v1, vI w, v3, v4, v5] [vI w, vR 76, vI x1] I := runs_to (ins_of mI_150 (by rfl)) rfl rfl
theorem r150_11 : runs cal 150 11 [v0, v1, v2, v3, v4, v5] [vI x0, vR 76, vI x2] I = if 0 ≤ x0 ∧ x0 < 8 then runs cal 150 12 [v0, v1, v2, v3, v4, v5] [vI (I 76 x0), vI x2] I else none := st_iald (ins_of mI_150 (by rfl)) cT_76 (wdc wid_150 wd_76)
theorem r150_12 : runs cal 150 12 [v0, v1, v2, v3, v4, v5] [vI x0, vI x1] I = if x1 = x0 then runs cal 150 36 [v0, v1, v2, v3, v4, v5] [] I else runs cal 150 15 [v0, v1, v2, v3, v4, v5] [] I := st_cmp_eq (ins_of mI_150 (by rfl)) (by decide)
theorem r150_15 : runs cal 150 15 [vR 70, v1, v2, v3, v4, v5] [] I = runs cal 150 16 [vR 70, v1, v2, v3, v4, v5] [vR 70] I := runs_to (ins_of mI_150 (by rfl)) rfl rfl
theorem r150_16 : runs cal 150 16 [v0, v1, v2, v3, v4, v5] [vR 70] I = runs cal 150 19 [v0, v1, v2, v3, v4, v5] [vR 76] I := st_getR (ins_of mI_150 (by rfl)) mC_150 (by decide) fr_11_27 cT_70 (wdc wid_150 wd_70) rfl rfl
theorem r150_19 : runs cal 150 19 [v0, vI w, v2, v3, v4, v5] [vR 76] I = runs cal 150 20 [v0, vI w, v2, v3, v4, v5] [vI w, vR 76] I := runs_to (ins_of mI_150 (by rfl)) rfl rfl
theorem r150_20 : runs cal 150 20 [v0, v1, v2, v3, v4, v5] [vI x0, vR 76] I = if 0 ≤ x0 ∧ x0 < 8 then runs cal 150 21 [v0, v1, v2, v3, v4, v5] [vI (I 76 x0)] I else none := st_iald (ins_of mI_150 (by rfl)) cT_76 (wdc wid_150 wd_76)
theorem r150_21 : runs cal 150 21 [vR 70, v1, v2, v3, v4, v5] [vI x0] I = runs cal 150 22 [vR 70, v1, v2, v3, v4, v5] [vR 70, vI x0] I := runs_to (ins_of mI_150 (by rfl)) rfl rfl
theorem r150_22 : runs cal 150 22 [v0, v1, v2, v3, v4, v5] [vR 70, vI x1] I = runs cal 150 25 [v0, v1, v2, v3, v4, v5] [vR 76, vI x1] I := st_getR (ins_of mI_150 (by rfl)) mC_150 (by decide) fr_11_27 cT_70 (wdc wid_150 wd_70) rfl rfl
theorem r150_25 : runs cal 150 25 [v0, v1, vI w, v3, v4, v5] [vR 76, vI x1] I = runs cal 150 26 [v0, v1, vI w, v3, v4, v5] [vI w, vR 76, vI x1] I := runs_to (ins_of mI_150 (by rfl)) rfl rfl
theorem r150_26 : runs cal 150 26 [v0, v1, v2, v3, v4, v5] [vI x0, vR 76, vI x2] I = if 0 ≤ x0 ∧ x0 < 8 then runs cal 150 27 [v0, v1, v2, v3, v4, v5] [vI (I 76 x0), vI x2] I else none := st_iald (ins_of mI_150 (by rfl)) cT_76 (wdc wid_150 wd_76)
theorem r150_27 : runs cal 150 27 [v0, v1, v2, v3, v4, v5] [vI x0, vI x1] I = if x1 < x0 then runs cal 150 30 [v0, v1, v2, v3, v4, v5] [] I else runs cal 150 34 [v0, v1, v2, v3, v4, v5] [] I := st_cmp_ge (ins_of mI_150 (by rfl)) (by decide)
theorem r150_30 : runs cal 150 30 [v0, v1, v2, v3, v4, v5] [] I = runs cal 150 31 [v0, v1, v2, v3, v4, v5] [vI (-1)] I := runs_to (ins_of mI_150 (by rfl)) rfl rfl
theorem r150_31 : runs cal 150 31 [v0, v1, v2, v3, v4, v5] [vI x0] I = runs cal 150 35 [v0, v1, v2, v3, v4, v5] [vI x0] I := st_goto (ins_of mI_150 (by rfl)) (by decide)
theorem r150_34 : runs cal 150 34 [v0, v1, v2, v3, v4, v5] [] I = runs cal 150 35 [v0, v1, v2, v3, v4, v5] [vI (1)] I := runs_to (ins_of mI_150 (by rfl)) rfl rfl
theorem r150_35 : runs cal 150 35 [v0, v1, v2, v3, v4, v5] [vI x0] I = some (some (vI x0), I) := st_ret (q := some (vI x0)) (k := 0) (ins_of mI_150 (by rfl)) rfl (by decide) mR_150 rfl trivial
theorem r150_36 : runs cal 150 36 [vR 70, v1, v2, v3, v4, v5] [] I = runs cal 150 37 [vR 70, v1, v2, v3, v4, v5] [vR 70] I := runs_to (ins_of mI_150 (by rfl)) rfl rfl
theorem r150_37 : runs cal 150 37 [v0, v1, v2, v3, v4, v5] [vR 70] I = runs cal 150 40 [v0, v1, v2, v3, v4, v5] [vR 76] I := st_getR (ins_of mI_150 (by rfl)) mC_150 (by decide) fr_11_27 cT_70 (wdc wid_150 wd_70) rfl rfl
theorem r150_40 : runs cal 150 40 [v0, vI w, v2, v3, v4, v5] [vR 76] I = runs cal 150 41 [v0, vI w, v2, v3, v4, v5] [vI w, vR 76] I := runs_to (ins_of mI_150 (by rfl)) rfl rfl
theorem r150_41 : runs cal 150 41 [v0, v1, v2, v3, v4, v5] [vI x0, vR 76] I = if 0 ≤ x0 ∧ x0 < 8 then runs cal 150 42 [v0, v1, v2, v3, v4, v5] [vI (I 76 x0)] I else none := st_iald (ins_of mI_150 (by rfl)) cT_76 (wdc wid_150 wd_76)
theorem r150_42 : runs cal 150 42 [v0, v1, v2, v3, v4, v5] [vI x0] I = runs cal 150 43 [v0, v1, v2, v3, v4, v5] [vI (1), vI x0] I := runs_to (ins_of mI_150 (by rfl)) rfl rfl
theorem r150_43 : runs cal 150 43 [v0, v1, v2, v3, v4, v5] [vI x0, vI x1] I = runs cal 150 44 [v0, v1, v2, v3, v4, v5] [vI (isub x1 x0)] I := runs_to (ins_of mI_150 (by rfl)) rfl rfl
theorem r150_44 : runs cal 150 44 [v0, v1, vI u, v3, v4, v5] [vI x0] I = runs cal 150 45 [v0, v1, vI u, vI x0, v4, v5] [] I := runs_to (ins_of mI_150 (by rfl)) rfl rfl
theorem r150_45 : runs cal 150 45 [v0, v1, v2, vI w, v4, v5] [] I = runs cal 150 46 [v0, v1, v2, vI w, v4, v5] [vI w] I := runs_to (ins_of mI_150 (by rfl)) rfl rfl
theorem r150_46 : runs cal 150 46 [v0, v1, v2, v3, v4, v5] [vI x0] I = if x0 < 0 then runs cal 150 100 [v0, v1, v2, v3, v4, v5] [] I else runs cal 150 49 [v0, v1, v2, v3, v4, v5] [] I := st_if_lt (ins_of mI_150 (by rfl)) (by decide)
theorem r150_49 : runs cal 150 49 [vR 70, v1, v2, v3, v4, v5] [] I = runs cal 150 50 [vR 70, v1, v2, v3, v4, v5] [vR 70] I := runs_to (ins_of mI_150 (by rfl)) rfl rfl
theorem r150_50 : runs cal 150 50 [v0, v1, v2, v3, v4, v5] [vR 70] I = runs cal 150 53 [v0, v1, v2, v3, v4, v5] [vR 75] I := st_getR (ins_of mI_150 (by rfl)) mC_150 (by decide) fr_11_23 cT_70 (wdc wid_150 wd_70) rfl rfl
theorem r150_53 : runs cal 150 53 [v0, v1, v2, v3, v4, v5] [vR 75] I = runs cal 150 55 [v0, v1, v2, v3, v4, v5] [vI (64), vR 75] I := runs_to (ins_of mI_150 (by rfl)) rfl rfl
theorem r150_55 : runs cal 150 55 [v0, vI w, v2, v3, v4, v5] [vI x0, vR 75] I = runs cal 150 56 [v0, vI w, v2, v3, v4, v5] [vI w, vI x0, vR 75] I := runs_to (ins_of mI_150 (by rfl)) rfl rfl
theorem r150_56 : runs cal 150 56 [v0, v1, v2, v3, v4, v5] [vI x0, vI x1, vR 75] I = runs cal 150 57 [v0, v1, v2, v3, v4, v5] [vI (imul x1 x0), vR 75] I := runs_to (ins_of mI_150 (by rfl)) rfl rfl
theorem r150_57 : runs cal 150 57 [v0, v1, v2, vI w, v4, v5] [vI x0, vR 75] I = runs cal 150 58 [v0, v1, v2, vI w, v4, v5] [vI w, vI x0, vR 75] I := runs_to (ins_of mI_150 (by rfl)) rfl rfl
theorem r150_58 : runs cal 150 58 [v0, v1, v2, v3, v4, v5] [vI x0, vI x1, vR 75] I = runs cal 150 59 [v0, v1, v2, v3, v4, v5] [vI (iadd x1 x0), vR 75] I := runs_to (ins_of mI_150 (by rfl)) rfl rfl
theorem r150_59 : runs cal 150 59 [v0, v1, v2, v3, v4, v5] [vI x0, vR 75] I = if 0 ≤ x0 ∧ x0 < 512 then runs cal 150 60 [v0, v1, v2, v3, v4, v5] [vL (I 75 x0)] I else none := st_lald (ins_of mI_150 (by rfl)) cT_75 (wdc wid_150 wd_75)
theorem r150_60 : runs cal 150 60 [vR 70, v1, v2, v3, v4, v5] [vL x0] I = runs cal 150 61 [vR 70, v1, v2, v3, v4, v5] [vR 70, vL x0] I := runs_to (ins_of mI_150 (by rfl)) rfl rfl
theorem r150_61 : runs cal 150 61 [v0, v1, v2, v3, v4, v5] [vR 70, vL x1] I = runs cal 150 64 [v0, v1, v2, v3, v4, v5] [vR 75, vL x1] I := st_getR (ins_of mI_150 (by rfl)) mC_150 (by decide) fr_11_23 cT_70 (wdc wid_150 wd_70) rfl rfl
theorem r150_64 : runs cal 150 64 [v0, v1, v2, v3, v4, v5] [vR 75, vL x1] I = runs cal 150 66 [v0, v1, v2, v3, v4, v5] [vI (64), vR 75, vL x1] I := runs_to (ins_of mI_150 (by rfl)) rfl rfl
theorem r150_66 : runs cal 150 66 [v0, v1, vI w, v3, v4, v5] [vI x0, vR 75, vL x2] I = runs cal 150 67 [v0, v1, vI w, v3, v4, v5] [vI w, vI x0, vR 75, vL x2] I := runs_to (ins_of mI_150 (by rfl)) rfl rfl
theorem r150_67 : runs cal 150 67 [v0, v1, v2, v3, v4, v5] [vI x0, vI x1, vR 75, vL x3] I = runs cal 150 68 [v0, v1, v2, v3, v4, v5] [vI (imul x1 x0), vR 75, vL x3] I := runs_to (ins_of mI_150 (by rfl)) rfl rfl
theorem r150_68 : runs cal 150 68 [v0, v1, v2, vI w, v4, v5] [vI x0, vR 75, vL x2] I = runs cal 150 69 [v0, v1, v2, vI w, v4, v5] [vI w, vI x0, vR 75, vL x2] I := runs_to (ins_of mI_150 (by rfl)) rfl rfl
theorem r150_69 : runs cal 150 69 [v0, v1, v2, v3, v4, v5] [vI x0, vI x1, vR 75, vL x3] I = runs cal 150 70 [v0, v1, v2, v3, v4, v5] [vI (iadd x1 x0), vR 75, vL x3] I := runs_to (ins_of mI_150 (by rfl)) rfl rfl
theorem r150_70 : runs cal 150 70 [v0, v1, v2, v3, v4, v5] [vI x0, vR 75, vL x2] I = if 0 ≤ x0 ∧ x0 < 512 then runs cal 150 71 [v0, v1, v2, v3, v4, v5] [vL (I 75 x0), vL x2] I else none := st_lald (ins_of mI_150 (by rfl)) cT_75 (wdc wid_150 wd_75)
theorem r150_71 : runs cal 150 71 [v0, v1, v2, v3, v4, v5] [vL x0, vL x1] I = runs cal 150 72 [v0, v1, v2, v3, v4, v5] [vL (lsub x1 x0)] I := runs_to (ins_of mI_150 (by rfl)) rfl rfl
theorem r150_72 : runs cal 150 72 [v0, v1, v2, vI u, v4, v5] [vL x0] I = runs cal 150 74 [v0, v1, v2, vI u, vL x0, vR 0] [] I := runs_to (ins_of mI_150 (by rfl)) rfl rfl
theorem r150_74 : runs cal 150 74 [v0, v1, v2, v3, vL w, v5] [] I = runs cal 150 76 [v0, v1, v2, v3, vL w, v5] [vL w] I := runs_to (ins_of mI_150 (by rfl)) rfl rfl
theorem r150_76 : runs cal 150 76 [v0, v1, v2, v3, v4, v5] [vL x0] I = runs cal 150 77 [v0, v1, v2, v3, v4, v5] [vL 0, vL x0] I := runs_to (ins_of mI_150 (by rfl)) rfl rfl
theorem r150_77 : runs cal 150 77 [v0, v1, v2, v3, v4, v5] [vL x0, vL x1] I = if x1 = x0 then runs cal 150 94 [v0, v1, v2, v3, v4, v5] [] I else runs cal 150 81 [v0, v1, v2, v3, v4, v5] [] I := st_lc_eq (ins_of mI_150 (by rfl)) (ins_of mI_150 (by rfl)) (by decide)
theorem r150_78 : runs cal 150 78 [v0, v1, v2, v3, v4, v5] [vI x0] I = if x0 = 0 then runs cal 150 94 [v0, v1, v2, v3, v4, v5] [] I else runs cal 150 81 [v0, v1, v2, v3, v4, v5] [] I := st_if_eq (ins_of mI_150 (by rfl)) (by decide)
theorem r150_81 : runs cal 150 81 [v0, v1, v2, v3, vL w, v5] [] I = runs cal 150 83 [v0, v1, v2, v3, vL w, v5] [vL w] I := runs_to (ins_of mI_150 (by rfl)) rfl rfl
theorem r150_83 : runs cal 150 83 [v0, v1, v2, v3, v4, v5] [vL x0] I = runs cal 150 84 [v0, v1, v2, v3, v4, v5] [vL 0, vL x0] I := runs_to (ins_of mI_150 (by rfl)) rfl rfl
theorem r150_84 : runs cal 150 84 [v0, v1, v2, v3, v4, v5] [vL x0, vL x1] I = if x1 < x0 then runs cal 150 88 [v0, v1, v2, v3, v4, v5] [] I else runs cal 150 92 [v0, v1, v2, v3, v4, v5] [] I := st_lc_ge (ins_of mI_150 (by rfl)) (ins_of mI_150 (by rfl)) (by decide)
theorem r150_85 : runs cal 150 85 [v0, v1, v2, v3, v4, v5] [vI x0] I = if x0 < 0 then runs cal 150 88 [v0, v1, v2, v3, v4, v5] [] I else runs cal 150 92 [v0, v1, v2, v3, v4, v5] [] I := st_if_ge (ins_of mI_150 (by rfl)) (by decide)
theorem r150_88 : runs cal 150 88 [v0, v1, v2, v3, v4, v5] [] I = runs cal 150 89 [v0, v1, v2, v3, v4, v5] [vI (-1)] I := runs_to (ins_of mI_150 (by rfl)) rfl rfl
theorem r150_89 : runs cal 150 89 [v0, v1, v2, v3, v4, v5] [vI x0] I = runs cal 150 93 [v0, v1, v2, v3, v4, v5] [vI x0] I := st_goto (ins_of mI_150 (by rfl)) (by decide)
theorem r150_92 : runs cal 150 92 [v0, v1, v2, v3, v4, v5] [] I = runs cal 150 93 [v0, v1, v2, v3, v4, v5] [vI (1)] I := runs_to (ins_of mI_150 (by rfl)) rfl rfl
theorem r150_93 : runs cal 150 93 [v0, v1, v2, v3, v4, v5] [vI x0] I = some (some (vI x0), I) := st_ret (q := some (vI x0)) (k := 0) (ins_of mI_150 (by rfl)) rfl (by decide) mR_150 rfl trivial
theorem r150_94 : runs cal 150 94 [v0, v1, vI u, vI w, v4, v5] [] I = runs cal 150 97 [v0, v1, vI u, vI (iadd w (-1)), v4, v5] [] I := runs_to (ins_of mI_150 (by rfl)) rfl rfl
theorem r150_97 : runs cal 150 97 [v0, v1, v2, v3, v4, v5] [] I = runs cal 150 45 [v0, v1, v2, v3, v4, v5] [] I := st_goto (ins_of mI_150 (by rfl)) (by decide)
theorem r150_100 : runs cal 150 100 [v0, v1, v2, v3, v4, v5] [] I = runs cal 150 101 [v0, v1, v2, v3, v4, v5] [vI (0)] I := runs_to (ins_of mI_150 (by rfl)) rfl rfl
theorem r150_101 : runs cal 150 101 [v0, v1, v2, v3, v4, v5] [vI x0] I = some (some (vI x0), I) := st_ret (q := some (vI x0)) (k := 0) (ins_of mI_150 (by rfl)) rfl (by decide) mR_150 rfl trivial
theorem r151_0 : runs cal 151 0 [v0, v1, v2, v3, v4, v5, v6, v7, v8] [] I = runs cal 151 1 [v0, v1, v2, v3, v4, v5, v6, v7, v8] [vL 0] I := runs_to (ins_of mI_151 (by rfl)) rfl rfl
theorem r151_1 : runs cal 151 1 [v0, v1, vI u, v3, v4, v5, v6, v7, v8] [vL x0] I = runs cal 151 2 [v0, v1, vI u, vL x0, vR 0, v5, v6, v7, v8] [] I := runs_to (ins_of mI_151 (by rfl)) rfl rfl
theorem r151_2 : runs cal 151 2 [vR 70, v1, v2, v3, v4, v5, v6, v7, v8] [] I = runs cal 151 3 [vR 70, v1, v2, v3, v4, v5, v6, v7, v8] [vR 70] I := runs_to (ins_of mI_151 (by rfl)) rfl rfl
theorem r151_3 : runs cal 151 3 [v0, v1, v2, v3, v4, v5, v6, v7, v8] [vR 70] I = runs cal 151 6 [v0, v1, v2, v3, v4, v5, v6, v7, v8] [vR 76] I := st_getR (ins_of mI_151 (by rfl)) mC_151 (by decide) fr_11_27 cT_70 (wdc wid_151 wd_70) rfl rfl
theorem r151_6 : runs cal 151 6 [v0, vI w, v2, v3, v4, v5, v6, v7, v8] [vR 76] I = runs cal 151 7 [v0, vI w, v2, v3, v4, v5, v6, v7, v8] [vI w, vR 76] I := runs_to (ins_of mI_151 (by rfl)) rfl rfl
theorem r151_7 : runs cal 151 7 [v0, v1, v2, v3, v4, v5, v6, v7, v8] [vI x0, vR 76] I = if 0 ≤ x0 ∧ x0 < 8 then runs cal 151 8 [v0, v1, v2, v3, v4, v5, v6, v7, v8] [vI (I 76 x0)] I else none := st_iald (ins_of mI_151 (by rfl)) cT_76 (wdc wid_151 wd_76)
theorem r151_8 : runs cal 151 8 [vR 70, v1, v2, v3, v4, v5, v6, v7, v8] [vI x0] I = runs cal 151 9 [vR 70, v1, v2, v3, v4, v5, v6, v7, v8] [vR 70, vI x0] I := runs_to (ins_of mI_151 (by rfl)) rfl rfl
theorem r151_9 : runs cal 151 9 [v0, v1, v2, v3, v4, v5, v6, v7, v8] [vR 70, vI x1] I = runs cal 151 12 [v0, v1, v2, v3, v4, v5, v6, v7, v8] [vR 76, vI x1] I := st_getR (ins_of mI_151 (by rfl)) mC_151 (by decide) fr_11_27 cT_70 (wdc wid_151 wd_70) rfl rfl
theorem r151_12 : runs cal 151 12 [v0, v1, vI w, v3, v4, v5, v6, v7, v8] [vR 76, vI x1] I = runs cal 151 13 [v0, v1, vI w, v3, v4, v5, v6, v7, v8] [vI w, vR 76, vI x1] I := runs_to (ins_of mI_151 (by rfl)) rfl rfl
theorem r151_13 : runs cal 151 13 [v0, v1, v2, v3, v4, v5, v6, v7, v8] [vI x0, vR 76, vI x2] I = if 0 ≤ x0 ∧ x0 < 8 then runs cal 151 14 [v0, v1, v2, v3, v4, v5, v6, v7, v8] [vI (I 76 x0), vI x2] I else none := st_iald (ins_of mI_151 (by rfl)) cT_76 (wdc wid_151 wd_76)
theorem r151_14 : runs cal 151 14 [v0, v1, v2, v3, v4, v5, v6, v7, v8] [vI x0, vI x1] I = if x0 < x1 then runs cal 151 17 [v0, v1, v2, v3, v4, v5, v6, v7, v8] [] I else runs cal 151 26 [v0, v1, v2, v3, v4, v5, v6, v7, v8] [] I := st_cmp_le (ins_of mI_151 (by rfl)) (by decide)
theorem r151_17 : runs cal 151 17 [vR 70, v1, v2, v3, v4, v5, v6, v7, v8] [] I = runs cal 151 18 [vR 70, v1, v2, v3, v4, v5, v6, v7, v8] [vR 70] I := runs_to (ins_of mI_151 (by rfl)) rfl rfl
theorem r151_18 : runs cal 151 18 [v0, v1, v2, v3, v4, v5, v6, v7, v8] [vR 70] I = runs cal 151 21 [v0, v1, v2, v3, v4, v5, v6, v7, v8] [vR 76] I := st_getR (ins_of mI_151 (by rfl)) mC_151 (by decide) fr_11_27 cT_70 (wdc wid_151 wd_70) rfl rfl
theorem r151_21 : runs cal 151 21 [v0, vI w, v2, v3, v4, v5, v6, v7, v8] [vR 76] I = runs cal 151 22 [v0, vI w, v2, v3, v4, v5, v6, v7, v8] [vI w, vR 76] I := runs_to (ins_of mI_151 (by rfl)) rfl rfl
theorem r151_22 : runs cal 151 22 [v0, v1, v2, v3, v4, v5, v6, v7, v8] [vI x0, vR 76] I = if 0 ≤ x0 ∧ x0 < 8 then runs cal 151 23 [v0, v1, v2, v3, v4, v5, v6, v7, v8] [vI (I 76 x0)] I else none := st_iald (ins_of mI_151 (by rfl)) cT_76 (wdc wid_151 wd_76)
theorem r151_23 : runs cal 151 23 [v0, v1, v2, v3, v4, v5, v6, v7, v8] [vI x0] I = runs cal 151 32 [v0, v1, v2, v3, v4, v5, v6, v7, v8] [vI x0] I := st_goto (ins_of mI_151 (by rfl)) (by decide)
theorem r151_26 : runs cal 151 26 [vR 70, v1, v2, v3, v4, v5, v6, v7, v8] [] I = runs cal 151 27 [vR 70, v1, v2, v3, v4, v5, v6, v7, v8] [vR 70] I := runs_to (ins_of mI_151 (by rfl)) rfl rfl
theorem r151_27 : runs cal 151 27 [v0, v1, v2, v3, v4, v5, v6, v7, v8] [vR 70] I = runs cal 151 30 [v0, v1, v2, v3, v4, v5, v6, v7, v8] [vR 76] I := st_getR (ins_of mI_151 (by rfl)) mC_151 (by decide) fr_11_27 cT_70 (wdc wid_151 wd_70) rfl rfl
theorem r151_30 : runs cal 151 30 [v0, v1, vI w, v3, v4, v5, v6, v7, v8] [vR 76] I = runs cal 151 31 [v0, v1, vI w, v3, v4, v5, v6, v7, v8] [vI w, vR 76] I := runs_to (ins_of mI_151 (by rfl)) rfl rfl
theorem r151_31 : runs cal 151 31 [v0, v1, v2, v3, v4, v5, v6, v7, v8] [vI x0, vR 76] I = if 0 ≤ x0 ∧ x0 < 8 then runs cal 151 32 [v0, v1, v2, v3, v4, v5, v6, v7, v8] [vI (I 76 x0)] I else none := st_iald (ins_of mI_151 (by rfl)) cT_76 (wdc wid_151 wd_76)
theorem r151_32 : runs cal 151 32 [v0, v1, v2, v3, v4, v5, v6, v7, v8] [vI x0] I = runs cal 151 34 [v0, v1, v2, v3, kill v4, vI x0, v6, v7, v8] [] I := runs_to (ins_of mI_151 (by rfl)) rfl rfl
theorem r151_34 : runs cal 151 34 [v0, v1, v2, v3, v4, v5, v6, v7, v8] [] I = runs cal 151 35 [v0, v1, v2, v3, v4, v5, v6, v7, v8] [vI (0)] I := runs_to (ins_of mI_151 (by rfl)) rfl rfl
theorem r151_35 : runs cal 151 35 [v0, v1, v2, v3, v4, vI u, v6, v7, v8] [vI x0] I = runs cal 151 37 [v0, v1, v2, v3, v4, vI u, vI x0, v7, v8] [] I := runs_to (ins_of mI_151 (by rfl)) rfl rfl
theorem r151_37 : runs cal 151 37 [v0, v1, v2, v3, v4, v5, vI w, v7, v8] [] I = runs cal 151 39 [v0, v1, v2, v3, v4, v5, vI w, v7, v8] [vI w] I := runs_to (ins_of mI_151 (by rfl)) rfl rfl
theorem r151_39 : runs cal 151 39 [v0, v1, v2, v3, v4, vI w, v6, v7, v8] [vI x0] I = runs cal 151 41 [v0, v1, v2, v3, v4, vI w, v6, v7, v8] [vI w, vI x0] I := runs_to (ins_of mI_151 (by rfl)) rfl rfl
theorem r151_41 : runs cal 151 41 [v0, v1, v2, v3, v4, v5, v6, v7, v8] [vI x0, vI x1] I = if x1 < x0 then runs cal 151 44 [v0, v1, v2, v3, v4, v5, v6, v7, v8] [] I else runs cal 151 134 [v0, v1, v2, v3, v4, v5, v6, v7, v8] [] I := st_cmp_ge (ins_of mI_151 (by rfl)) (by decide)
theorem r151_44 : runs cal 151 44 [v0, v1, v2, v3, v4, v5, vI w, v7, v8] [] I = runs cal 151 46 [v0, v1, v2, v3, v4, v5, vI w, v7, v8] [vI w] I := runs_to (ins_of mI_151 (by rfl)) rfl rfl
theorem r151_46 : runs cal 151 46 [vR 70, v1, v2, v3, v4, v5, v6, v7, v8] [vI x0] I = runs cal 151 47 [vR 70, v1, v2, v3, v4, v5, v6, v7, v8] [vR 70, vI x0] I := runs_to (ins_of mI_151 (by rfl)) rfl rfl
theorem r151_47 : runs cal 151 47 [v0, v1, v2, v3, v4, v5, v6, v7, v8] [vR 70, vI x1] I = runs cal 151 50 [v0, v1, v2, v3, v4, v5, v6, v7, v8] [vR 76, vI x1] I := st_getR (ins_of mI_151 (by rfl)) mC_151 (by decide) fr_11_27 cT_70 (wdc wid_151 wd_70) rfl rfl
theorem r151_50 : runs cal 151 50 [v0, vI w, v2, v3, v4, v5, v6, v7, v8] [vR 76, vI x1] I = runs cal 151 51 [v0, vI w, v2, v3, v4, v5, v6, v7, v8] [vI w, vR 76, vI x1] I := runs_to (ins_of mI_151 (by rfl)) rfl rfl
theorem r151_51 : runs cal 151 51 [v0, v1, v2, v3, v4, v5, v6, v7, v8] [vI x0, vR 76, vI x2] I = if 0 ≤ x0 ∧ x0 < 8 then runs cal 151 52 [v0, v1, v2, v3, v4, v5, v6, v7, v8] [vI (I 76 x0), vI x2] I else none := st_iald (ins_of mI_151 (by rfl)) cT_76 (wdc wid_151 wd_76)
theorem r151_52 : runs cal 151 52 [v0, v1, v2, v3, v4, v5, v6, v7, v8] [vI x0, vI x1] I = if x1 < x0 then runs cal 151 55 [v0, v1, v2, v3, v4, v5, v6, v7, v8] [] I else runs cal 151 70 [v0, v1, v2, v3, v4, v5, v6, v7, v8] [] I := st_cmp_ge (ins_of mI_151 (by rfl)) (by decide)
theorem r151_55 : runs cal 151 55 [vR 70, v1, v2, v3, v4, v5, v6, v7, v8] [] I = runs cal 151 56 [vR 70, v1, v2, v3, v4, v5, v6, v7, v8] [vR 70] I := runs_to (ins_of mI_151 (by rfl)) rfl rfl
theorem r151_56 : runs cal 151 56 [v0, v1, v2, v3, v4, v5, v6, v7, v8] [vR 70] I = runs cal 151 59 [v0, v1, v2, v3, v4, v5, v6, v7, v8] [vR 75] I := st_getR (ins_of mI_151 (by rfl)) mC_151 (by decide) fr_11_23 cT_70 (wdc wid_151 wd_70) rfl rfl
theorem r151_59 : runs cal 151 59 [v0, v1, v2, v3, v4, v5, v6, v7, v8] [vR 75] I = runs cal 151 61 [v0, v1, v2, v3, v4, v5, v6, v7, v8] [vI (64), vR 75] I := runs_to (ins_of mI_151 (by rfl)) rfl rfl
theorem r151_61 : runs cal 151 61 [v0, vI w, v2, v3, v4, v5, v6, v7, v8] [vI x0, vR 75] I = runs cal 151 62 [v0, vI w, v2, v3, v4, v5, v6, v7, v8] [vI w, vI x0, vR 75] I := runs_to (ins_of mI_151 (by rfl)) rfl rfl
theorem r151_62 : runs cal 151 62 [v0, v1, v2, v3, v4, v5, v6, v7, v8] [vI x0, vI x1, vR 75] I = runs cal 151 63 [v0, v1, v2, v3, v4, v5, v6, v7, v8] [vI (imul x1 x0), vR 75] I := runs_to (ins_of mI_151 (by rfl)) rfl rfl
theorem r151_63 : runs cal 151 63 [v0, v1, v2, v3, v4, v5, vI w, v7, v8] [vI x0, vR 75] I = runs cal 151 65 [v0, v1, v2, v3, v4, v5, vI w, v7, v8] [vI w, vI x0, vR 75] I := runs_to (ins_of mI_151 (by rfl)) rfl rfl
theorem r151_65 : runs cal 151 65 [v0, v1, v2, v3, v4, v5, v6, v7, v8] [vI x0, vI x1, vR 75] I = runs cal 151 66 [v0, v1, v2, v3, v4, v5, v6, v7, v8] [vI (iadd x1 x0), vR 75] I := runs_to (ins_of mI_151 (by rfl)) rfl rfl
theorem r151_66 : runs cal 151 66 [v0, v1, v2, v3, v4, v5, v6, v7, v8] [vI x0, vR 75] I = if 0 ≤ x0 ∧ x0 < 512 then runs cal 151 67 [v0, v1, v2, v3, v4, v5, v6, v7, v8] [vL (I 75 x0)] I else none := st_lald (ins_of mI_151 (by rfl)) cT_75 (wdc wid_151 wd_75)
theorem r151_67 : runs cal 151 67 [v0, v1, v2, v3, v4, v5, v6, v7, v8] [vL x0] I = runs cal 151 71 [v0, v1, v2, v3, v4, v5, v6, v7, v8] [vL x0] I := st_goto (ins_of mI_151 (by rfl)) (by decide)
theorem r151_70 : runs cal 151 70 [v0, v1, v2, v3, v4, v5, v6, v7, v8] [] I = runs cal 151 71 [v0, v1, v2, v3, v4, v5, v6, v7, v8] [vL 0] I := runs_to (ins_of mI_151 (by rfl)) rfl rfl
theorem r151_71 : runs cal 151 71 [v0, v1, v2, v3, v4, v5, vI w, v7, v8] [vL x0] I = runs cal 151 73 [v0, v1, v2, v3, v4, v5, vI w, v7, v8] [vI w, vL x0] I := runs_to (ins_of mI_151 (by rfl)) rfl rfl
theorem r151_73 : runs cal 151 73 [vR 70, v1, v2, v3, v4, v5, v6, v7, v8] [vI x0, vL x1] I = runs cal 151 74 [vR 70, v1, v2, v3, v4, v5, v6, v7, v8] [vR 70, vI x0, vL x1] I := runs_to (ins_of mI_151 (by rfl)) rfl rfl
theorem r151_74 : runs cal 151 74 [v0, v1, v2, v3, v4, v5, v6, v7, v8] [vR 70, vI x1, vL x2] I = runs cal 151 77 [v0, v1, v2, v3, v4, v5, v6, v7, v8] [vR 76, vI x1, vL x2] I := st_getR (ins_of mI_151 (by rfl)) mC_151 (by decide) fr_11_27 cT_70 (wdc wid_151 wd_70) rfl rfl
theorem r151_77 : runs cal 151 77 [v0, v1, vI w, v3, v4, v5, v6, v7, v8] [vR 76, vI x1, vL x2] I = runs cal 151 78 [v0, v1, vI w, v3, v4, v5, v6, v7, v8] [vI w, vR 76, vI x1, vL x2] I := runs_to (ins_of mI_151 (by rfl)) rfl rfl
theorem r151_78 : runs cal 151 78 [v0, v1, v2, v3, v4, v5, v6, v7, v8] [vI x0, vR 76, vI x2, vL x3] I = if 0 ≤ x0 ∧ x0 < 8 then runs cal 151 79 [v0, v1, v2, v3, v4, v5, v6, v7, v8] [vI (I 76 x0), vI x2, vL x3] I else none := st_iald (ins_of mI_151 (by rfl)) cT_76 (wdc wid_151 wd_76)
theorem r151_79 : runs cal 151 79 [v0, v1, v2, v3, v4, v5, v6, v7, v8] [vI x0, vI x1, vL x2] I = if x1 < x0 then runs cal 151 82 [v0, v1, v2, v3, v4, v5, v6, v7, v8] [vL x2] I else runs cal 151 97 [v0, v1, v2, v3, v4, v5, v6, v7, v8] [vL x2] I := st_cmp_ge (ins_of mI_151 (by rfl)) (by decide)
theorem r151_82 : runs cal 151 82 [vR 70, v1, v2, v3, v4, v5, v6, v7, v8] [vL x0] I = runs cal 151 83 [vR 70, v1, v2, v3, v4, v5, v6, v7, v8] [vR 70, vL x0] I := runs_to (ins_of mI_151 (by rfl)) rfl rfl
theorem r151_83 : runs cal 151 83 [v0, v1, v2, v3, v4, v5, v6, v7, v8] [vR 70, vL x1] I = runs cal 151 86 [v0, v1, v2, v3, v4, v5, v6, v7, v8] [vR 75, vL x1] I := st_getR (ins_of mI_151 (by rfl)) mC_151 (by decide) fr_11_23 cT_70 (wdc wid_151 wd_70) rfl rfl
theorem r151_86 : runs cal 151 86 [v0, v1, v2, v3, v4, v5, v6, v7, v8] [vR 75, vL x1] I = runs cal 151 88 [v0, v1, v2, v3, v4, v5, v6, v7, v8] [vI (64), vR 75, vL x1] I := runs_to (ins_of mI_151 (by rfl)) rfl rfl
theorem r151_88 : runs cal 151 88 [v0, v1, vI w, v3, v4, v5, v6, v7, v8] [vI x0, vR 75, vL x2] I = runs cal 151 89 [v0, v1, vI w, v3, v4, v5, v6, v7, v8] [vI w, vI x0, vR 75, vL x2] I := runs_to (ins_of mI_151 (by rfl)) rfl rfl
theorem r151_89 : runs cal 151 89 [v0, v1, v2, v3, v4, v5, v6, v7, v8] [vI x0, vI x1, vR 75, vL x3] I = runs cal 151 90 [v0, v1, v2, v3, v4, v5, v6, v7, v8] [vI (imul x1 x0), vR 75, vL x3] I := runs_to (ins_of mI_151 (by rfl)) rfl rfl
theorem r151_90 : runs cal 151 90 [v0, v1, v2, v3, v4, v5, vI w, v7, v8] [vI x0, vR 75, vL x2] I = runs cal 151 92 [v0, v1, v2, v3, v4, v5, vI w, v7, v8] [vI w, vI x0, vR 75, vL x2] I := runs_to (ins_of mI_151 (by rfl)) rfl rfl
theorem r151_92 : runs cal 151 92 [v0, v1, v2, v3, v4, v5, v6, v7, v8] [vI x0, vI x1, vR 75, vL x3] I = runs cal 151 93 [v0, v1, v2, v3, v4, v5, v6, v7, v8] [vI (iadd x1 x0), vR 75, vL x3] I := runs_to (ins_of mI_151 (by rfl)) rfl rfl
theorem r151_93 : runs cal 151 93 [v0, v1, v2, v3, v4, v5, v6, v7, v8] [vI x0, vR 75, vL x2] I = if 0 ≤ x0 ∧ x0 < 512 then runs cal 151 94 [v0, v1, v2, v3, v4, v5, v6, v7, v8] [vL (I 75 x0), vL x2] I else none := st_lald (ins_of mI_151 (by rfl)) cT_75 (wdc wid_151 wd_75)
theorem r151_94 : runs cal 151 94 [v0, v1, v2, v3, v4, v5, v6, v7, v8] [vL x0, vL x1] I = runs cal 151 98 [v0, v1, v2, v3, v4, v5, v6, v7, v8] [vL x0, vL x1] I := st_goto (ins_of mI_151 (by rfl)) (by decide)
theorem r151_97 : runs cal 151 97 [v0, v1, v2, v3, v4, v5, v6, v7, v8] [vL x0] I = runs cal 151 98 [v0, v1, v2, v3, v4, v5, v6, v7, v8] [vL 0, vL x0] I := runs_to (ins_of mI_151 (by rfl)) rfl rfl
theorem r151_98 : runs cal 151 98 [v0, v1, v2, v3, v4, v5, v6, v7, v8] [vL x0, vL x1] I = runs cal 151 99 [v0, v1, v2, v3, v4, v5, v6, v7, v8] [vL (ladd x1 x0)] I := runs_to (ins_of mI_151 (by rfl)) rfl rfl
theorem r151_99 : runs cal 151 99 [v0, v1, v2, vL w, v4, v5, v6, v7, v8] [vL x0] I = runs cal 151 100 [v0, v1, v2, vL w, v4, v5, v6, v7, v8] [vL w, vL x0] I := runs_to (ins_of mI_151 (by rfl)) rfl rfl
theorem r151_100 : runs cal 151 100 [v0, v1, v2, v3, v4, v5, v6, v7, v8] [vL x0, vL x1] I = runs cal 151 101 [v0, v1, v2, v3, v4, v5, v6, v7, v8] [vL (ladd x1 x0)] I := runs_to (ins_of mI_151 (by rfl)) rfl rfl
theorem r151_101 : runs cal 151 101 [v0, v1, v2, v3, v4, v5, vI u, v7, v8] [vL x0] I = runs cal 151 103 [v0, v1, v2, v3, v4, v5, vI u, vL x0, vR 0] [] I := runs_to (ins_of mI_151 (by rfl)) rfl rfl
theorem r151_103 : runs cal 151 103 [vR 70, v1, v2, v3, v4, v5, v6, v7, v8] [] I = runs cal 151 104 [vR 70, v1, v2, v3, v4, v5, v6, v7, v8] [vR 70] I := runs_to (ins_of mI_151 (by rfl)) rfl rfl
theorem r151_104 : runs cal 151 104 [v0, v1, v2, v3, v4, v5, v6, v7, v8] [vR 70] I = runs cal 151 107 [v0, v1, v2, v3, v4, v5, v6, v7, v8] [vR 75] I := st_getR (ins_of mI_151 (by rfl)) mC_151 (by decide) fr_11_23 cT_70 (wdc wid_151 wd_70) rfl rfl
theorem r151_107 : runs cal 151 107 [v0, v1, v2, v3, v4, v5, v6, v7, v8] [vR 75] I = runs cal 151 109 [v0, v1, v2, v3, v4, v5, v6, v7, v8] [vI (64), vR 75] I := runs_to (ins_of mI_151 (by rfl)) rfl rfl
theorem r151_109 : runs cal 151 109 [v0, vI w, v2, v3, v4, v5, v6, v7, v8] [vI x0, vR 75] I = runs cal 151 110 [v0, vI w, v2, v3, v4, v5, v6, v7, v8] [vI w, vI x0, vR 75] I := runs_to (ins_of mI_151 (by rfl)) rfl rfl
theorem r151_110 : runs cal 151 110 [v0, v1, v2, v3, v4, v5, v6, v7, v8] [vI x0, vI x1, vR 75] I = runs cal 151 111 [v0, v1, v2, v3, v4, v5, v6, v7, v8] [vI (imul x1 x0), vR 75] I := runs_to (ins_of mI_151 (by rfl)) rfl rfl
theorem r151_111 : runs cal 151 111 [v0, v1, v2, v3, v4, v5, vI w, v7, v8] [vI x0, vR 75] I = runs cal 151 113 [v0, v1, v2, v3, v4, v5, vI w, v7, v8] [vI w, vI x0, vR 75] I := runs_to (ins_of mI_151 (by rfl)) rfl rfl
theorem r151_113 : runs cal 151 113 [v0, v1, v2, v3, v4, v5, v6, v7, v8] [vI x0, vI x1, vR 75] I = runs cal 151 114 [v0, v1, v2, v3, v4, v5, v6, v7, v8] [vI (iadd x1 x0), vR 75] I := runs_to (ins_of mI_151 (by rfl)) rfl rfl
theorem r151_114 : runs cal 151 114 [v0, v1, v2, v3, v4, v5, v6, vL w, v8] [vI x0, vR 75] I = runs cal 151 116 [v0, v1, v2, v3, v4, v5, v6, vL w, v8] [vL w, vI x0, vR 75] I := runs_to (ins_of mI_151 (by rfl)) rfl rfl
theorem r151_116 : runs cal 151 116 [v0, v1, v2, v3, v4, v5, v6, v7, v8] [vL x0, vI x1, vR 75] I = runs cal 151 119 [v0, v1, v2, v3, v4, v5, v6, v7, v8] [vL (1073741824), vL x0, vI x1, vR 75] I := runs_to (ins_of mI_151 (by rfl)) rfl (by simp only [stepI, ldk2, mC_151]; rfl)
theorem r151_119 : runs cal 151 119 [v0, v1, v2, v3, v4, v5, v6, v7, v8] [vL x0, vL x1, vI x2, vR 75] I = if x0 = 0 then none else runs cal 151 120 [v0, v1, v2, v3, v4, v5, v6, v7, v8] [vL (lrem x1 x0), vI x2, vR 75] I := st_nzL (ins_of mI_151 (by rfl)) rfl rfl
theorem r151_120 : runs cal 151 120 [v0, v1, v2, v3, v4, v5, v6, v7, v8] [vL x0, vI x1, vR 75] I = if 0 ≤ x1 ∧ x1 < 512 then runs cal 151 121 [v0, v1, v2, v3, v4, v5, v6, v7, v8] [] (mset I 75 x1 x0) else none := st_last (ins_of mI_151 (by rfl)) cT_75 (wdc wid_151 wd_75)
theorem r151_121 : runs cal 151 121 [v0, v1, v2, v3, v4, v5, v6, vL w, v8] [] I = runs cal 151 123 [v0, v1, v2, v3, v4, v5, v6, vL w, v8] [vL w] I := runs_to (ins_of mI_151 (by rfl)) rfl rfl
theorem r151_123 : runs cal 151 123 [v0, v1, v2, v3, v4, v5, v6, v7, v8] [vL x0] I = runs cal 151 126 [v0, v1, v2, v3, v4, v5, v6, v7, v8] [vL (1073741824), vL x0] I := runs_to (ins_of mI_151 (by rfl)) rfl (by simp only [stepI, ldk2, mC_151]; rfl)
theorem r151_126 : runs cal 151 126 [v0, v1, v2, v3, v4, v5, v6, v7, v8] [vL x0, vL x1] I = if x0 = 0 then none else runs cal 151 127 [v0, v1, v2, v3, v4, v5, v6, v7, v8] [vL (ldiv x1 x0)] I := st_nzL (ins_of mI_151 (by rfl)) rfl rfl
theorem r151_127 : runs cal 151 127 [v0, v1, vI u, v3, v4, v5, v6, v7, v8] [vL x0] I = runs cal 151 128 [v0, v1, vI u, vL x0, vR 0, v5, v6, v7, v8] [] I := runs_to (ins_of mI_151 (by rfl)) rfl rfl
theorem r151_128 : runs cal 151 128 [v0, v1, v2, v3, v4, vI u, vI w, v7, v8] [] I = runs cal 151 131 [v0, v1, v2, v3, v4, vI u, vI (iadd w (1)), v7, v8] [] I := runs_to (ins_of mI_151 (by rfl)) rfl rfl
theorem r151_131 : runs cal 151 131 [v0, v1, v2, v3, v4, v5, v6, v7, v8] [] I = runs cal 151 37 [v0, v1, v2, v3, v4, v5, v6, v7, v8] [] I := st_goto (ins_of mI_151 (by rfl)) (by decide)
theorem r151_134 : runs cal 151 134 [vR 70, v1, v2, v3, v4, v5, v6, v7, v8] [] I = runs cal 151 135 [vR 70, v1, v2, v3, v4, v5, v6, v7, v8] [vR 70] I := runs_to (ins_of mI_151 (by rfl)) rfl rfl
theorem r151_135 : runs cal 151 135 [v0, v1, v2, v3, v4, v5, v6, v7, v8] [vR 70] I = runs cal 151 138 [v0, v1, v2, v3, v4, v5, v6, v7, v8] [vR 75] I := st_getR (ins_of mI_151 (by rfl)) mC_151 (by decide) fr_11_23 cT_70 (wdc wid_151 wd_70) rfl rfl
theorem r151_138 : runs cal 151 138 [v0, v1, v2, v3, v4, v5, v6, v7, v8] [vR 75] I = runs cal 151 140 [v0, v1, v2, v3, v4, v5, v6, v7, v8] [vI (64), vR 75] I := runs_to (ins_of mI_151 (by rfl)) rfl rfl
theorem r151_140 : runs cal 151 140 [v0, vI w, v2, v3, v4, v5, v6, v7, v8] [vI x0, vR 75] I = runs cal 151 141 [v0, vI w, v2, v3, v4, v5, v6, v7, v8] [vI w, vI x0, vR 75] I := runs_to (ins_of mI_151 (by rfl)) rfl rfl
theorem r151_141 : runs cal 151 141 [v0, v1, v2, v3, v4, v5, v6, v7, v8] [vI x0, vI x1, vR 75] I = runs cal 151 142 [v0, v1, v2, v3, v4, v5, v6, v7, v8] [vI (imul x1 x0), vR 75] I := runs_to (ins_of mI_151 (by rfl)) rfl rfl
theorem r151_142 : runs cal 151 142 [v0, v1, v2, v3, v4, vI w, v6, v7, v8] [vI x0, vR 75] I = runs cal 151 144 [v0, v1, v2, v3, v4, vI w, v6, v7, v8] [vI w, vI x0, vR 75] I := runs_to (ins_of mI_151 (by rfl)) rfl rfl
theorem r151_144 : runs cal 151 144 [v0, v1, v2, v3, v4, v5, v6, v7, v8] [vI x0, vI x1, vR 75] I = runs cal 151 145 [v0, v1, v2, v3, v4, v5, v6, v7, v8] [vI (iadd x1 x0), vR 75] I := runs_to (ins_of mI_151 (by rfl)) rfl rfl
theorem r151_145 : runs cal 151 145 [v0, v1, v2, vL w, v4, v5, v6, v7, v8] [vI x0, vR 75] I = runs cal 151 146 [v0, v1, v2, vL w, v4, v5, v6, v7, v8] [vL w, vI x0, vR 75] I := runs_to (ins_of mI_151 (by rfl)) rfl rfl
theorem r151_146 : runs cal 151 146 [v0, v1, v2, v3, v4, v5, v6, v7, v8] [vL x0, vI x1, vR 75] I = if 0 ≤ x1 ∧ x1 < 512 then runs cal 151 147 [v0, v1, v2, v3, v4, v5, v6, v7, v8] [] (mset I 75 x1 x0) else none := st_last (ins_of mI_151 (by rfl)) cT_75 (wdc wid_151 wd_75)
theorem r151_147 : runs cal 151 147 [vR 70, v1, v2, v3, v4, v5, v6, v7, v8] [] I = runs cal 151 148 [vR 70, v1, v2, v3, v4, v5, v6, v7, v8] [vR 70] I := runs_to (ins_of mI_151 (by rfl)) rfl rfl
theorem r151_148 : runs cal 151 148 [v0, v1, v2, v3, v4, v5, v6, v7, v8] [vR 70] I = runs cal 151 151 [v0, v1, v2, v3, v4, v5, v6, v7, v8] [vR 76] I := st_getR (ins_of mI_151 (by rfl)) mC_151 (by decide) fr_11_27 cT_70 (wdc wid_151 wd_70) rfl rfl
theorem r151_151 : runs cal 151 151 [v0, vI w, v2, v3, v4, v5, v6, v7, v8] [vR 76] I = runs cal 151 152 [v0, vI w, v2, v3, v4, v5, v6, v7, v8] [vI w, vR 76] I := runs_to (ins_of mI_151 (by rfl)) rfl rfl
theorem r151_152 : runs cal 151 152 [v0, v1, v2, v3, v4, vI w, v6, v7, v8] [vI x0, vR 76] I = runs cal 151 154 [v0, v1, v2, v3, v4, vI w, v6, v7, v8] [vI w, vI x0, vR 76] I := runs_to (ins_of mI_151 (by rfl)) rfl rfl
theorem r151_154 : runs cal 151 154 [v0, v1, v2, v3, v4, v5, v6, v7, v8] [vI x0, vI x1, vR 76] I = runs cal 151 155 [v0, v1, v2, v3, v4, v5, v6, v7, v8] [vI (1), vI x0, vI x1, vR 76] I := runs_to (ins_of mI_151 (by rfl)) rfl rfl
theorem r151_155 : runs cal 151 155 [v0, v1, v2, v3, v4, v5, v6, v7, v8] [vI x0, vI x1, vI x2, vR 76] I = runs cal 151 156 [v0, v1, v2, v3, v4, v5, v6, v7, v8] [vI (iadd x1 x0), vI x2, vR 76] I := runs_to (ins_of mI_151 (by rfl)) rfl rfl
theorem r151_156 : runs cal 151 156 [v0, v1, v2, v3, v4, v5, v6, v7, v8] [vI x0, vI x1, vR 76] I = if 0 ≤ x1 ∧ x1 < 8 then runs cal 151 157 [v0, v1, v2, v3, v4, v5, v6, v7, v8] [] (mset I 76 x1 x0) else none := st_iast (ins_of mI_151 (by rfl)) cT_76 (wdc wid_151 wd_76)
theorem r151_157 : runs cal 151 157 [vR 70, v1, v2, v3, v4, v5, v6, v7, v8] [] I = runs cal 151 158 [vR 70, v1, v2, v3, v4, v5, v6, v7, v8] [vR 70] I := runs_to (ins_of mI_151 (by rfl)) rfl rfl
theorem r151_158 : runs cal 151 158 [v0, vI w, v2, v3, v4, v5, v6, v7, v8] [vR 70] I = runs cal 151 159 [v0, vI w, v2, v3, v4, v5, v6, v7, v8] [vI w, vR 70] I := runs_to (ins_of mI_151 (by rfl)) rfl rfl
theorem r151_159 : runs cal 151 159 [v0, v1, v2, v3, v4, v5, v6, v7, v8] [vI x0, vR 70] I = (cal 148 [vR 70, vI x0] I).bind (fun q => runs cal 151 162 [v0, v1, v2, v3, v4, v5, v6, v7, v8] (pushR q.1 []) q.2) := st_call (st := false) (ins_of mI_151 (by rfl)) mC_151 mr_11_73 (by decide) mS_148 mN_148 rfl (Nat.le_of_ble_eq_true rfl) rfl rfl (Or.inr ⟨_, _, rfl, rcv mC_148 rfl wid_151 (by decide +kernel)⟩) (Or.inl (wid_151.trans wid_148.symm))
theorem r151_162 : runs cal 151 162 [v0, v1, v2, v3, v4, v5, v6, v7, v8] [] I = some (none, I) := st_ret (q := none) (k := 3) (ins_of mI_151 (by rfl)) rfl (by decide) mR_151 rfl trivial
theorem r152_0 : runs cal 152 0 [v0, v1, v2, v3, v4, v5, v6, v7] [] I = runs cal 152 1 [v0, v1, v2, v3, v4, v5, v6, v7] [vL 0] I := runs_to (ins_of mI_152 (by rfl)) rfl rfl
theorem r152_1 : runs cal 152 1 [v0, v1, vI u, v3, v4, v5, v6, v7] [vL x0] I = runs cal 152 2 [v0, v1, vI u, vL x0, vR 0, v5, v6, v7] [] I := runs_to (ins_of mI_152 (by rfl)) rfl rfl
theorem r152_2 : runs cal 152 2 [v0, v1, v2, v3, v4, v5, v6, v7] [] I = runs cal 152 3 [v0, v1, v2, v3, v4, v5, v6, v7] [vI (0)] I := runs_to (ins_of mI_152 (by rfl)) rfl rfl
theorem r152_3 : runs cal 152 3 [v0, v1, v2, v3, v4, v5, v6, v7] [vI x0] I = runs cal 152 5 [v0, v1, v2, v3, kill v4, vI x0, v6, v7] [] I := runs_to (ins_of mI_152 (by rfl)) rfl rfl
theorem r152_5 : runs cal 152 5 [v0, v1, v2, v3, v4, vI w, v6, v7] [] I = runs cal 152 7 [v0, v1, v2, v3, v4, vI w, v6, v7] [vI w] I := runs_to (ins_of mI_152 (by rfl)) rfl rfl
theorem r152_7 : runs cal 152 7 [vR 70, v1, v2, v3, v4, v5, v6, v7] [vI x0] I = runs cal 152 8 [vR 70, v1, v2, v3, v4, v5, v6, v7] [vR 70, vI x0] I := runs_to (ins_of mI_152 (by rfl)) rfl rfl
theorem r152_8 : runs cal 152 8 [v0, v1, v2, v3, v4, v5, v6, v7] [vR 70, vI x1] I = runs cal 152 11 [v0, v1, v2, v3, v4, v5, v6, v7] [vR 76, vI x1] I := st_getR (ins_of mI_152 (by rfl)) mC_152 (by decide) fr_11_27 cT_70 (wdc wid_152 wd_70) rfl rfl
theorem r152_11 : runs cal 152 11 [v0, vI w, v2, v3, v4, v5, v6, v7] [vR 76, vI x1] I = runs cal 152 12 [v0, vI w, v2, v3, v4, v5, v6, v7] [vI w, vR 76, vI x1] I := runs_to (ins_of mI_152 (by rfl)) rfl rfl
theorem r152_12 : runs cal 152 12 [v0, v1, v2, v3, v4, v5, v6, v7] [vI x0, vR 76, vI x2] I = if 0 ≤ x0 ∧ x0 < 8 then runs cal 152 13 [v0, v1, v2, v3, v4, v5, v6, v7] [vI (I 76 x0), vI x2] I else none := st_iald (ins_of mI_152 (by rfl)) cT_76 (wdc wid_152 wd_76)
theorem r152_13 : runs cal 152 13 [v0, v1, v2, v3, v4, v5, v6, v7] [vI x0, vI x1] I = if x1 < x0 then runs cal 152 16 [v0, v1, v2, v3, v4, v5, v6, v7] [] I else runs cal 152 99 [v0, v1, v2, v3, v4, v5, v6, v7] [] I := st_cmp_ge (ins_of mI_152 (by rfl)) (by decide)
theorem r152_16 : runs cal 152 16 [vR 70, v1, v2, v3, v4, v5, v6, v7] [] I = runs cal 152 17 [vR 70, v1, v2, v3, v4, v5, v6, v7] [vR 70] I := runs_to (ins_of mI_152 (by rfl)) rfl rfl
theorem r152_17 : runs cal 152 17 [v0, v1, v2, v3, v4, v5, v6, v7] [vR 70] I = runs cal 152 20 [v0, v1, v2, v3, v4, v5, v6, v7] [vR 75] I := st_getR (ins_of mI_152 (by rfl)) mC_152 (by decide) fr_11_23 cT_70 (wdc wid_152 wd_70) rfl rfl
theorem r152_20 : runs cal 152 20 [v0, v1, v2, v3, v4, v5, v6, v7] [vR 75] I = runs cal 152 22 [v0, v1, v2, v3, v4, v5, v6, v7] [vI (64), vR 75] I := runs_to (ins_of mI_152 (by rfl)) rfl rfl
theorem r152_22 : runs cal 152 22 [v0, vI w, v2, v3, v4, v5, v6, v7] [vI x0, vR 75] I = runs cal 152 23 [v0, vI w, v2, v3, v4, v5, v6, v7] [vI w, vI x0, vR 75] I := runs_to (ins_of mI_152 (by rfl)) rfl rfl
theorem r152_23 : runs cal 152 23 [v0, v1, v2, v3, v4, v5, v6, v7] [vI x0, vI x1, vR 75] I = runs cal 152 24 [v0, v1, v2, v3, v4, v5, v6, v7] [vI (imul x1 x0), vR 75] I := runs_to (ins_of mI_152 (by rfl)) rfl rfl
theorem r152_24 : runs cal 152 24 [v0, v1, v2, v3, v4, vI w, v6, v7] [vI x0, vR 75] I = runs cal 152 26 [v0, v1, v2, v3, v4, vI w, v6, v7] [vI w, vI x0, vR 75] I := runs_to (ins_of mI_152 (by rfl)) rfl rfl
theorem r152_26 : runs cal 152 26 [v0, v1, v2, v3, v4, v5, v6, v7] [vI x0, vI x1, vR 75] I = runs cal 152 27 [v0, v1, v2, v3, v4, v5, v6, v7] [vI (iadd x1 x0), vR 75] I := runs_to (ins_of mI_152 (by rfl)) rfl rfl
theorem r152_27 : runs cal 152 27 [v0, v1, v2, v3, v4, v5, v6, v7] [vI x0, vR 75] I = if 0 ≤ x0 ∧ x0 < 512 then runs cal 152 28 [v0, v1, v2, v3, v4, v5, v6, v7] [vL (I 75 x0)] I else none := st_lald (ins_of mI_152 (by rfl)) cT_75 (wdc wid_152 wd_75)
theorem r152_28 : runs cal 152 28 [v0, v1, v2, v3, v4, vI w, v6, v7] [vL x0] I = runs cal 152 30 [v0, v1, v2, v3, v4, vI w, v6, v7] [vI w, vL x0] I := runs_to (ins_of mI_152 (by rfl)) rfl rfl
theorem r152_30 : runs cal 152 30 [vR 70, v1, v2, v3, v4, v5, v6, v7] [vI x0, vL x1] I = runs cal 152 31 [vR 70, v1, v2, v3, v4, v5, v6, v7] [vR 70, vI x0, vL x1] I := runs_to (ins_of mI_152 (by rfl)) rfl rfl
theorem r152_31 : runs cal 152 31 [v0, v1, v2, v3, v4, v5, v6, v7] [vR 70, vI x1, vL x2] I = runs cal 152 34 [v0, v1, v2, v3, v4, v5, v6, v7] [vR 76, vI x1, vL x2] I := st_getR (ins_of mI_152 (by rfl)) mC_152 (by decide) fr_11_27 cT_70 (wdc wid_152 wd_70) rfl rfl
theorem r152_34 : runs cal 152 34 [v0, v1, vI w, v3, v4, v5, v6, v7] [vR 76, vI x1, vL x2] I = runs cal 152 35 [v0, v1, vI w, v3, v4, v5, v6, v7] [vI w, vR 76, vI x1, vL x2] I := runs_to (ins_of mI_152 (by rfl)) rfl rfl
theorem r152_35 : runs cal 152 35 [v0, v1, v2, v3, v4, v5, v6, v7] [vI x0, vR 76, vI x2, vL x3] I = if 0 ≤ x0 ∧ x0 < 8 then runs cal 152 36 [v0, v1, v2, v3, v4, v5, v6, v7] [vI (I 76 x0), vI x2, vL x3] I else none := st_iald (ins_of mI_152 (by rfl)) cT_76 (wdc wid_152 wd_76)
theorem r152_36 : runs cal 152 36 [v0, v1, v2, v3, v4, v5, v6, v7] [vI x0, vI x1, vL x2] I = if x1 < x0 then runs cal 152 39 [v0, v1, v2, v3, v4, v5, v6, v7] [vL x2] I else runs cal 152 54 [v0, v1, v2, v3, v4, v5, v6, v7] [vL x2] I := st_cmp_ge (ins_of mI_152 (by rfl)) (by decide)
theorem r152_39 : runs cal 152 39 [vR 70, v1, v2, v3, v4, v5, v6, v7] [vL x0] I = runs cal 152 40 [vR 70, v1, v2, v3, v4, v5, v6, v7] [vR 70, vL x0] I := runs_to (ins_of mI_152 (by rfl)) rfl rfl
theorem r152_40 : runs cal 152 40 [v0, v1, v2, v3, v4, v5, v6, v7] [vR 70, vL x1] I = runs cal 152 43 [v0, v1, v2, v3, v4, v5, v6, v7] [vR 75, vL x1] I := st_getR (ins_of mI_152 (by rfl)) mC_152 (by decide) fr_11_23 cT_70 (wdc wid_152 wd_70) rfl rfl
theorem r152_43 : runs cal 152 43 [v0, v1, v2, v3, v4, v5, v6, v7] [vR 75, vL x1] I = runs cal 152 45 [v0, v1, v2, v3, v4, v5, v6, v7] [vI (64), vR 75, vL x1] I := runs_to (ins_of mI_152 (by rfl)) rfl rfl
theorem r152_45 : runs cal 152 45 [v0, v1, vI w, v3, v4, v5, v6, v7] [vI x0, vR 75, vL x2] I = runs cal 152 46 [v0, v1, vI w, v3, v4, v5, v6, v7] [vI w, vI x0, vR 75, vL x2] I := runs_to (ins_of mI_152 (by rfl)) rfl rfl
theorem r152_46 : runs cal 152 46 [v0, v1, v2, v3, v4, v5, v6, v7] [vI x0, vI x1, vR 75, vL x3] I = runs cal 152 47 [v0, v1, v2, v3, v4, v5, v6, v7] [vI (imul x1 x0), vR 75, vL x3] I := runs_to (ins_of mI_152 (by rfl)) rfl rfl
theorem r152_47 : runs cal 152 47 [v0, v1, v2, v3, v4, vI w, v6, v7] [vI x0, vR 75, vL x2] I = runs cal 152 49 [v0, v1, v2, v3, v4, vI w, v6, v7] [vI w, vI x0, vR 75, vL x2] I := runs_to (ins_of mI_152 (by rfl)) rfl rfl
theorem r152_49 : runs cal 152 49 [v0, v1, v2, v3, v4, v5, v6, v7] [vI x0, vI x1, vR 75, vL x3] I = runs cal 152 50 [v0, v1, v2, v3, v4, v5, v6, v7] [vI (iadd x1 x0), vR 75, vL x3] I := runs_to (ins_of mI_152 (by rfl)) rfl rfl
theorem r152_50 : runs cal 152 50 [v0, v1, v2, v3, v4, v5, v6, v7] [vI x0, vR 75, vL x2] I = if 0 ≤ x0 ∧ x0 < 512 then runs cal 152 51 [v0, v1, v2, v3, v4, v5, v6, v7] [vL (I 75 x0), vL x2] I else none := st_lald (ins_of mI_152 (by rfl)) cT_75 (wdc wid_152 wd_75)
theorem r152_51 : runs cal 152 51 [v0, v1, v2, v3, v4, v5, v6, v7] [vL x0, vL x1] I = runs cal 152 55 [v0, v1, v2, v3, v4, v5, v6, v7] [vL x0, vL x1] I := st_goto (ins_of mI_152 (by rfl)) (by decide)
theorem r152_54 : runs cal 152 54 [v0, v1, v2, v3, v4, v5, v6, v7] [vL x0] I = runs cal 152 55 [v0, v1, v2, v3, v4, v5, v6, v7] [vL 0, vL x0] I := runs_to (ins_of mI_152 (by rfl)) rfl rfl
theorem r152_55 : runs cal 152 55 [v0, v1, v2, v3, v4, v5, v6, v7] [vL x0, vL x1] I = runs cal 152 56 [v0, v1, v2, v3, v4, v5, v6, v7] [vL (lsub x1 x0)] I := runs_to (ins_of mI_152 (by rfl)) rfl rfl
theorem r152_56 : runs cal 152 56 [v0, v1, v2, vL w, v4, v5, v6, v7] [vL x0] I = runs cal 152 57 [v0, v1, v2, vL w, v4, v5, v6, v7] [vL w, vL x0] I := runs_to (ins_of mI_152 (by rfl)) rfl rfl
theorem r152_57 : runs cal 152 57 [v0, v1, v2, v3, v4, v5, v6, v7] [vL x0, vL x1] I = runs cal 152 58 [v0, v1, v2, v3, v4, v5, v6, v7] [vL (lsub x1 x0)] I := runs_to (ins_of mI_152 (by rfl)) rfl rfl
theorem r152_58 : runs cal 152 58 [v0, v1, v2, v3, v4, vI u, v6, v7] [vL x0] I = runs cal 152 60 [v0, v1, v2, v3, v4, vI u, vL x0, vR 0] [] I := runs_to (ins_of mI_152 (by rfl)) rfl rfl
theorem r152_60 : runs cal 152 60 [v0, v1, v2, v3, v4, v5, vL w, v7] [] I = runs cal 152 62 [v0, v1, v2, v3, v4, v5, vL w, v7] [vL w] I := runs_to (ins_of mI_152 (by rfl)) rfl rfl
theorem r152_62 : runs cal 152 62 [v0, v1, v2, v3, v4, v5, v6, v7] [vL x0] I = runs cal 152 63 [v0, v1, v2, v3, v4, v5, v6, v7] [vL 0, vL x0] I := runs_to (ins_of mI_152 (by rfl)) rfl rfl
theorem r152_63 : runs cal 152 63 [v0, v1, v2, v3, v4, v5, v6, v7] [vL x0, vL x1] I = if x1 < x0 then runs cal 152 67 [v0, v1, v2, v3, v4, v5, v6, v7] [] I else runs cal 152 71 [v0, v1, v2, v3, v4, v5, v6, v7] [] I := st_lc_ge (ins_of mI_152 (by rfl)) (ins_of mI_152 (by rfl)) (by decide)
theorem r152_64 : runs cal 152 64 [v0, v1, v2, v3, v4, v5, v6, v7] [vI x0] I = if x0 < 0 then runs cal 152 67 [v0, v1, v2, v3, v4, v5, v6, v7] [] I else runs cal 152 71 [v0, v1, v2, v3, v4, v5, v6, v7] [] I := st_if_ge (ins_of mI_152 (by rfl)) (by decide)
theorem r152_67 : runs cal 152 67 [v0, v1, v2, v3, v4, v5, v6, v7] [] I = runs cal 152 68 [v0, v1, v2, v3, v4, v5, v6, v7] [vL 1] I := runs_to (ins_of mI_152 (by rfl)) rfl rfl
theorem r152_68 : runs cal 152 68 [v0, v1, v2, v3, v4, v5, v6, v7] [vL x0] I = runs cal 152 72 [v0, v1, v2, v3, v4, v5, v6, v7] [vL x0] I := st_goto (ins_of mI_152 (by rfl)) (by decide)
theorem r152_71 : runs cal 152 71 [v0, v1, v2, v3, v4, v5, v6, v7] [] I = runs cal 152 72 [v0, v1, v2, v3, v4, v5, v6, v7] [vL 0] I := runs_to (ins_of mI_152 (by rfl)) rfl rfl
theorem r152_72 : runs cal 152 72 [v0, v1, vI u, v3, v4, v5, v6, v7] [vL x0] I = runs cal 152 73 [v0, v1, vI u, vL x0, vR 0, v5, v6, v7] [] I := runs_to (ins_of mI_152 (by rfl)) rfl rfl
theorem r152_73 : runs cal 152 73 [vR 70, v1, v2, v3, v4, v5, v6, v7] [] I = runs cal 152 74 [vR 70, v1, v2, v3, v4, v5, v6, v7] [vR 70] I := runs_to (ins_of mI_152 (by rfl)) rfl rfl
theorem r152_74 : runs cal 152 74 [v0, v1, v2, v3, v4, v5, v6, v7] [vR 70] I = runs cal 152 77 [v0, v1, v2, v3, v4, v5, v6, v7] [vR 75] I := st_getR (ins_of mI_152 (by rfl)) mC_152 (by decide) fr_11_23 cT_70 (wdc wid_152 wd_70) rfl rfl
theorem r152_77 : runs cal 152 77 [v0, v1, v2, v3, v4, v5, v6, v7] [vR 75] I = runs cal 152 79 [v0, v1, v2, v3, v4, v5, v6, v7] [vI (64), vR 75] I := runs_to (ins_of mI_152 (by rfl)) rfl rfl
theorem r152_79 : runs cal 152 79 [v0, vI w, v2, v3, v4, v5, v6, v7] [vI x0, vR 75] I = runs cal 152 80 [v0, vI w, v2, v3, v4, v5, v6, v7] [vI w, vI x0, vR 75] I := runs_to (ins_of mI_152 (by rfl)) rfl rfl
theorem r152_80 : runs cal 152 80 [v0, v1, v2, v3, v4, v5, v6, v7] [vI x0, vI x1, vR 75] I = runs cal 152 81 [v0, v1, v2, v3, v4, v5, v6, v7] [vI (imul x1 x0), vR 75] I := runs_to (ins_of mI_152 (by rfl)) rfl rfl
theorem r152_81 : runs cal 152 81 [v0, v1, v2, v3, v4, vI w, v6, v7] [vI x0, vR 75] I = runs cal 152 83 [v0, v1, v2, v3, v4, vI w, v6, v7] [vI w, vI x0, vR 75] I := runs_to (ins_of mI_152 (by rfl)) rfl rfl
theorem r152_83 : runs cal 152 83 [v0, v1, v2, v3, v4, v5, v6, v7] [vI x0, vI x1, vR 75] I = runs cal 152 84 [v0, v1, v2, v3, v4, v5, v6, v7] [vI (iadd x1 x0), vR 75] I := runs_to (ins_of mI_152 (by rfl)) rfl rfl
theorem r152_84 : runs cal 152 84 [v0, v1, v2, v3, v4, v5, vL w, v7] [vI x0, vR 75] I = runs cal 152 86 [v0, v1, v2, v3, v4, v5, vL w, v7] [vL w, vI x0, vR 75] I := runs_to (ins_of mI_152 (by rfl)) rfl rfl
theorem r152_86 : runs cal 152 86 [v0, v1, v2, vL w, v4, v5, v6, v7] [vL x0, vI x1, vR 75] I = runs cal 152 87 [v0, v1, v2, vL w, v4, v5, v6, v7] [vL w, vL x0, vI x1, vR 75] I := runs_to (ins_of mI_152 (by rfl)) rfl rfl
theorem r152_87 : runs cal 152 87 [v0, v1, v2, v3, v4, v5, v6, v7] [vL x0, vL x1, vI x2, vR 75] I = runs cal 152 90 [v0, v1, v2, v3, v4, v5, v6, v7] [vL (1073741824), vL x0, vL x1, vI x2, vR 75] I := runs_to (ins_of mI_152 (by rfl)) rfl (by simp only [stepI, ldk2, mC_152]; rfl)
theorem r152_90 : runs cal 152 90 [v0, v1, v2, v3, v4, v5, v6, v7] [vL x0, vL x1, vL x2, vI x3, vR 75] I = runs cal 152 91 [v0, v1, v2, v3, v4, v5, v6, v7] [vL (lmul x1 x0), vL x2, vI x3, vR 75] I := runs_to (ins_of mI_152 (by rfl)) rfl rfl
theorem r152_91 : runs cal 152 91 [v0, v1, v2, v3, v4, v5, v6, v7] [vL x0, vL x1, vI x2, vR 75] I = runs cal 152 92 [v0, v1, v2, v3, v4, v5, v6, v7] [vL (ladd x1 x0), vI x2, vR 75] I := runs_to (ins_of mI_152 (by rfl)) rfl rfl
theorem r152_92 : runs cal 152 92 [v0, v1, v2, v3, v4, v5, v6, v7] [vL x0, vI x1, vR 75] I = if 0 ≤ x1 ∧ x1 < 512 then runs cal 152 93 [v0, v1, v2, v3, v4, v5, v6, v7] [] (mset I 75 x1 x0) else none := st_last (ins_of mI_152 (by rfl)) cT_75 (wdc wid_152 wd_75)
theorem r152_93 : runs cal 152 93 [v0, v1, v2, v3, v4, vI w, v6, v7] [] I = runs cal 152 96 [v0, v1, v2, v3, kill v4, vI (iadd w (1)), v6, v7] [] I := runs_to (ins_of mI_152 (by rfl)) rfl rfl
theorem r152_96 : runs cal 152 96 [v0, v1, v2, v3, v4, v5, v6, v7] [] I = runs cal 152 5 [v0, v1, v2, v3, v4, v5, v6, v7] [] I := st_goto (ins_of mI_152 (by rfl)) (by decide)
theorem r152_99 : runs cal 152 99 [vR 70, v1, v2, v3, v4, v5, v6, v7] [] I = runs cal 152 100 [vR 70, v1, v2, v3, v4, v5, v6, v7] [vR 70] I := runs_to (ins_of mI_152 (by rfl)) rfl rfl
theorem r152_100 : runs cal 152 100 [v0, vI w, v2, v3, v4, v5, v6, v7] [vR 70] I = runs cal 152 101 [v0, vI w, v2, v3, v4, v5, v6, v7] [vI w, vR 70] I := runs_to (ins_of mI_152 (by rfl)) rfl rfl
theorem r152_101 : runs cal 152 101 [v0, v1, v2, v3, v4, v5, v6, v7] [vI x0, vR 70] I = (cal 148 [vR 70, vI x0] I).bind (fun q => runs cal 152 104 [v0, v1, v2, v3, v4, v5, v6, v7] (pushR q.1 []) q.2) := st_call (st := false) (ins_of mI_152 (by rfl)) mC_152 mr_11_73 (by decide) mS_148 mN_148 rfl (Nat.le_of_ble_eq_true rfl) rfl rfl (Or.inr ⟨_, _, rfl, rcv mC_148 rfl wid_152 (by decide +kernel)⟩) (Or.inl (wid_152.trans wid_148.symm))
theorem r152_104 : runs cal 152 104 [v0, v1, v2, v3, v4, v5, v6, v7] [] I = some (none, I) := st_ret (q := none) (k := 3) (ins_of mI_152 (by rfl)) rfl (by decide) mR_152 rfl trivial
theorem r153_0 : runs cal 153 0 [v0, v1, v2, v3, v4, v5, v6] [] I = runs cal 153 1 [v0, v1, v2, v3, v4, v5, v6] [vL 0] I := runs_to (ins_of mI_153 (by rfl)) rfl rfl
theorem r153_1 : runs cal 153 1 [v0, vI u, v2, v3, v4, v5, v6] [vL x0] I = runs cal 153 2 [v0, vI u, vL x0, vR 0, v4, v5, v6] [] I := runs_to (ins_of mI_153 (by rfl)) rfl rfl
theorem r153_2 : runs cal 153 2 [vR 70, v1, v2, v3, v4, v5, v6] [] I = runs cal 153 3 [vR 70, v1, v2, v3, v4, v5, v6] [vR 70] I := runs_to (ins_of mI_153 (by rfl)) rfl rfl
theorem r153_3 : runs cal 153 3 [v0, v1, v2, v3, v4, v5, v6] [vR 70] I = runs cal 153 6 [v0, v1, v2, v3, v4, v5, v6] [vR 76] I := st_getR (ins_of mI_153 (by rfl)) mC_153 (by decide) fr_11_27 cT_70 (wdc wid_153 wd_70) rfl rfl
theorem r153_6 : runs cal 153 6 [v0, vI w, v2, v3, v4, v5, v6] [vR 76] I = runs cal 153 7 [v0, vI w, v2, v3, v4, v5, v6] [vI w, vR 76] I := runs_to (ins_of mI_153 (by rfl)) rfl rfl
theorem r153_7 : runs cal 153 7 [v0, v1, v2, v3, v4, v5, v6] [vI x0, vR 76] I = if 0 ≤ x0 ∧ x0 < 8 then runs cal 153 8 [v0, v1, v2, v3, v4, v5, v6] [vI (I 76 x0)] I else none := st_iald (ins_of mI_153 (by rfl)) cT_76 (wdc wid_153 wd_76)
theorem r153_8 : runs cal 153 8 [v0, v1, v2, v3, v4, v5, v6] [vI x0] I = runs cal 153 9 [v0, v1, v2, v3, v4, v5, v6] [vI (1), vI x0] I := runs_to (ins_of mI_153 (by rfl)) rfl rfl
theorem r153_9 : runs cal 153 9 [v0, v1, v2, v3, v4, v5, v6] [vI x0, vI x1] I = runs cal 153 10 [v0, v1, v2, v3, v4, v5, v6] [vI (isub x1 x0)] I := runs_to (ins_of mI_153 (by rfl)) rfl rfl
theorem r153_10 : runs cal 153 10 [v0, v1, v2, v3, v4, v5, v6] [vI x0] I = runs cal 153 12 [v0, v1, v2, kill v3, vI x0, v5, v6] [] I := runs_to (ins_of mI_153 (by rfl)) rfl rfl
theorem r153_12 : runs cal 153 12 [v0, v1, v2, v3, vI w, v5, v6] [] I = runs cal 153 14 [v0, v1, v2, v3, vI w, v5, v6] [vI w] I := runs_to (ins_of mI_153 (by rfl)) rfl rfl
theorem r153_14 : runs cal 153 14 [v0, v1, v2, v3, v4, v5, v6] [vI x0] I = if x0 < 0 then runs cal 153 68 [v0, v1, v2, v3, v4, v5, v6] [] I else runs cal 153 17 [v0, v1, v2, v3, v4, v5, v6] [] I := st_if_lt (ins_of mI_153 (by rfl)) (by decide)
theorem r153_17 : runs cal 153 17 [vR 70, v1, v2, v3, v4, v5, v6] [] I = runs cal 153 18 [vR 70, v1, v2, v3, v4, v5, v6] [vR 70] I := runs_to (ins_of mI_153 (by rfl)) rfl rfl
theorem r153_18 : runs cal 153 18 [v0, v1, v2, v3, v4, v5, v6] [vR 70] I = runs cal 153 21 [v0, v1, v2, v3, v4, v5, v6] [vR 75] I := st_getR (ins_of mI_153 (by rfl)) mC_153 (by decide) fr_11_23 cT_70 (wdc wid_153 wd_70) rfl rfl
theorem r153_21 : runs cal 153 21 [v0, v1, v2, v3, v4, v5, v6] [vR 75] I = runs cal 153 23 [v0, v1, v2, v3, v4, v5, v6] [vI (64), vR 75] I := runs_to (ins_of mI_153 (by rfl)) rfl rfl
theorem r153_23 : runs cal 153 23 [v0, vI w, v2, v3, v4, v5, v6] [vI x0, vR 75] I = runs cal 153 24 [v0, vI w, v2, v3, v4, v5, v6] [vI w, vI x0, vR 75] I := runs_to (ins_of mI_153 (by rfl)) rfl rfl
theorem r153_24 : runs cal 153 24 [v0, v1, v2, v3, v4, v5, v6] [vI x0, vI x1, vR 75] I = runs cal 153 25 [v0, v1, v2, v3, v4, v5, v6] [vI (imul x1 x0), vR 75] I := runs_to (ins_of mI_153 (by rfl)) rfl rfl
theorem r153_25 : runs cal 153 25 [v0, v1, v2, v3, vI w, v5, v6] [vI x0, vR 75] I = runs cal 153 27 [v0, v1, v2, v3, vI w, v5, v6] [vI w, vI x0, vR 75] I := runs_to (ins_of mI_153 (by rfl)) rfl rfl
theorem r153_27 : runs cal 153 27 [v0, v1, v2, v3, v4, v5, v6] [vI x0, vI x1, vR 75] I = runs cal 153 28 [v0, v1, v2, v3, v4, v5, v6] [vI (iadd x1 x0), vR 75] I := runs_to (ins_of mI_153 (by rfl)) rfl rfl
theorem r153_28 : runs cal 153 28 [v0, v1, v2, v3, v4, v5, v6] [vI x0, vR 75] I = if 0 ≤ x0 ∧ x0 < 512 then runs cal 153 29 [v0, v1, v2, v3, v4, v5, v6] [vL (I 75 x0)] I else none := st_lald (ins_of mI_153 (by rfl)) cT_75 (wdc wid_153 wd_75)
theorem r153_29 : runs cal 153 29 [v0, v1, vL w, v3, v4, v5, v6] [vL x0] I = runs cal 153 30 [v0, v1, vL w, v3, v4, v5, v6] [vL w, vL x0] I := runs_to (ins_of mI_153 (by rfl)) rfl rfl
theorem r153_30 : runs cal 153 30 [v0, v1, v2, v3, v4, v5, v6] [vL x0, vL x1] I = runs cal 153 33 [v0, v1, v2, v3, v4, v5, v6] [vL (1073741824), vL x0, vL x1] I := runs_to (ins_of mI_153 (by rfl)) rfl (by simp only [stepI, ldk2, mC_153]; rfl)
theorem r153_33 : runs cal 153 33 [v0, v1, v2, v3, v4, v5, v6] [vL x0, vL x1, vL x2] I = runs cal 153 34 [v0, v1, v2, v3, v4, v5, v6] [vL (lmul x1 x0), vL x2] I := runs_to (ins_of mI_153 (by rfl)) rfl rfl
theorem r153_34 : runs cal 153 34 [v0, v1, v2, v3, v4, v5, v6] [vL x0, vL x1] I = runs cal 153 35 [v0, v1, v2, v3, v4, v5, v6] [vL (ladd x1 x0)] I := runs_to (ins_of mI_153 (by rfl)) rfl rfl
theorem r153_35 : runs cal 153 35 [v0, v1, v2, v3, vI u, v5, v6] [vL x0] I = runs cal 153 37 [v0, v1, v2, v3, vI u, vL x0, vR 0] [] I := runs_to (ins_of mI_153 (by rfl)) rfl rfl
theorem r153_37 : runs cal 153 37 [vR 70, v1, v2, v3, v4, v5, v6] [] I = runs cal 153 38 [vR 70, v1, v2, v3, v4, v5, v6] [vR 70] I := runs_to (ins_of mI_153 (by rfl)) rfl rfl
theorem r153_38 : runs cal 153 38 [v0, v1, v2, v3, v4, v5, v6] [vR 70] I = runs cal 153 41 [v0, v1, v2, v3, v4, v5, v6] [vR 75] I := st_getR (ins_of mI_153 (by rfl)) mC_153 (by decide) fr_11_23 cT_70 (wdc wid_153 wd_70) rfl rfl
theorem r153_41 : runs cal 153 41 [v0, v1, v2, v3, v4, v5, v6] [vR 75] I = runs cal 153 43 [v0, v1, v2, v3, v4, v5, v6] [vI (64), vR 75] I := runs_to (ins_of mI_153 (by rfl)) rfl rfl
theorem r153_43 : runs cal 153 43 [v0, vI w, v2, v3, v4, v5, v6] [vI x0, vR 75] I = runs cal 153 44 [v0, vI w, v2, v3, v4, v5, v6] [vI w, vI x0, vR 75] I := runs_to (ins_of mI_153 (by rfl)) rfl rfl
theorem r153_44 : runs cal 153 44 [v0, v1, v2, v3, v4, v5, v6] [vI x0, vI x1, vR 75] I = runs cal 153 45 [v0, v1, v2, v3, v4, v5, v6] [vI (imul x1 x0), vR 75] I := runs_to (ins_of mI_153 (by rfl)) rfl rfl
theorem r153_45 : runs cal 153 45 [v0, v1, v2, v3, vI w, v5, v6] [vI x0, vR 75] I = runs cal 153 47 [v0, v1, v2, v3, vI w, v5, v6] [vI w, vI x0, vR 75] I := runs_to (ins_of mI_153 (by rfl)) rfl rfl
theorem r153_47 : runs cal 153 47 [v0, v1, v2, v3, v4, v5, v6] [vI x0, vI x1, vR 75] I = runs cal 153 48 [v0, v1, v2, v3, v4, v5, v6] [vI (iadd x1 x0), vR 75] I := runs_to (ins_of mI_153 (by rfl)) rfl rfl
theorem r153_48 : runs cal 153 48 [v0, v1, v2, v3, v4, vL w, v6] [vI x0, vR 75] I = runs cal 153 50 [v0, v1, v2, v3, v4, vL w, v6] [vL w, vI x0, vR 75] I := runs_to (ins_of mI_153 (by rfl)) rfl rfl
theorem r153_50 : runs cal 153 50 [v0, v1, v2, v3, v4, v5, v6] [vL x0, vI x1, vR 75] I = runs cal 153 53 [v0, v1, v2, v3, v4, v5, v6] [vL (2), vL x0, vI x1, vR 75] I := runs_to (ins_of mI_153 (by rfl)) rfl (by simp only [stepI, ldk2, mC_153]; rfl)
theorem r153_53 : runs cal 153 53 [v0, v1, v2, v3, v4, v5, v6] [vL x0, vL x1, vI x2, vR 75] I = if x0 = 0 then none else runs cal 153 54 [v0, v1, v2, v3, v4, v5, v6] [vL (ldiv x1 x0), vI x2, vR 75] I := st_nzL (ins_of mI_153 (by rfl)) rfl rfl
theorem r153_54 : runs cal 153 54 [v0, v1, v2, v3, v4, v5, v6] [vL x0, vI x1, vR 75] I = if 0 ≤ x1 ∧ x1 < 512 then runs cal 153 55 [v0, v1, v2, v3, v4, v5, v6] [] (mset I 75 x1 x0) else none := st_last (ins_of mI_153 (by rfl)) cT_75 (wdc wid_153 wd_75)
theorem r153_55 : runs cal 153 55 [v0, v1, v2, v3, v4, vL w, v6] [] I = runs cal 153 57 [v0, v1, v2, v3, v4, vL w, v6] [vL w] I := runs_to (ins_of mI_153 (by rfl)) rfl rfl
theorem r153_57 : runs cal 153 57 [v0, v1, v2, v3, v4, v5, v6] [vL x0] I = runs cal 153 60 [v0, v1, v2, v3, v4, v5, v6] [vL (2), vL x0] I := runs_to (ins_of mI_153 (by rfl)) rfl (by simp only [stepI, ldk2, mC_153]; rfl)
theorem r153_60 : runs cal 153 60 [v0, v1, v2, v3, v4, v5, v6] [vL x0, vL x1] I = if x0 = 0 then none else runs cal 153 61 [v0, v1, v2, v3, v4, v5, v6] [vL (lrem x1 x0)] I := st_nzL (ins_of mI_153 (by rfl)) rfl rfl
theorem r153_61 : runs cal 153 61 [v0, vI u, v2, v3, v4, v5, v6] [vL x0] I = runs cal 153 62 [v0, vI u, vL x0, vR 0, v4, v5, v6] [] I := runs_to (ins_of mI_153 (by rfl)) rfl rfl
theorem r153_62 : runs cal 153 62 [v0, v1, v2, v3, vI w, v5, v6] [] I = runs cal 153 65 [v0, v1, v2, kill v3, vI (iadd w (-1)), v5, v6] [] I := runs_to (ins_of mI_153 (by rfl)) rfl rfl
theorem r153_65 : runs cal 153 65 [v0, v1, v2, v3, v4, v5, v6] [] I = runs cal 153 12 [v0, v1, v2, v3, v4, v5, v6] [] I := st_goto (ins_of mI_153 (by rfl)) (by decide)
theorem r153_68 : runs cal 153 68 [vR 70, v1, v2, v3, v4, v5, v6] [] I = runs cal 153 69 [vR 70, v1, v2, v3, v4, v5, v6] [vR 70] I := runs_to (ins_of mI_153 (by rfl)) rfl rfl
theorem r153_69 : runs cal 153 69 [v0, vI w, v2, v3, v4, v5, v6] [vR 70] I = runs cal 153 70 [v0, vI w, v2, v3, v4, v5, v6] [vI w, vR 70] I := runs_to (ins_of mI_153 (by rfl)) rfl rfl
theorem r153_70 : runs cal 153 70 [v0, v1, v2, v3, v4, v5, v6] [vI x0, vR 70] I = (cal 148 [vR 70, vI x0] I).bind (fun q => runs cal 153 73 [v0, v1, v2, v3, v4, v5, v6] (pushR q.1 []) q.2) := st_call (st := false) (ins_of mI_153 (by rfl)) mC_153 mr_11_73 (by decide) mS_148 mN_148 rfl (Nat.le_of_ble_eq_true rfl) rfl rfl (Or.inr ⟨_, _, rfl, rcv mC_148 rfl wid_153 (by decide +kernel)⟩) (Or.inl (wid_153.trans wid_148.symm))
theorem r153_73 : runs cal 153 73 [v0, v1, v2, v3, v4, v5, v6] [] I = some (none, I) := st_ret (q := none) (k := 3) (ins_of mI_153 (by rfl)) rfl (by decide) mR_153 rfl trivial
theorem r154_0 : runs cal 154 0 [vR 70, v1] [] I = runs cal 154 1 [vR 70, v1] [vR 70] I := runs_to (ins_of mI_154 (by rfl)) rfl rfl
theorem r154_1 : runs cal 154 1 [v0, v1] [vR 70] I = runs cal 154 4 [v0, v1] [vR 76] I := st_getR (ins_of mI_154 (by rfl)) mC_154 (by decide) fr_11_27 cT_70 (wdc wid_154 wd_70) rfl rfl
theorem r154_4 : runs cal 154 4 [v0, vI w] [vR 76] I = runs cal 154 5 [v0, vI w] [vI w, vR 76] I := runs_to (ins_of mI_154 (by rfl)) rfl rfl
theorem r154_5 : runs cal 154 5 [v0, v1] [vI x0, vR 76] I = if 0 ≤ x0 ∧ x0 < 8 then runs cal 154 6 [v0, v1] [vI (I 76 x0)] I else none := st_iald (ins_of mI_154 (by rfl)) cT_76 (wdc wid_154 wd_76)
theorem r154_6 : runs cal 154 6 [v0, v1] [vI x0] I = if x0 = 0 then runs cal 154 27 [v0, v1] [] I else runs cal 154 9 [v0, v1] [] I := st_if_eq (ins_of mI_154 (by rfl)) (by decide)
theorem r154_9 : runs cal 154 9 [vR 70, v1] [] I = runs cal 154 10 [vR 70, v1] [vR 70] I := runs_to (ins_of mI_154 (by rfl)) rfl rfl
theorem r154_10 : runs cal 154 10 [v0, v1] [vR 70] I = runs cal 154 13 [v0, v1] [vR 75] I := st_getR (ins_of mI_154 (by rfl)) mC_154 (by decide) fr_11_23 cT_70 (wdc wid_154 wd_70) rfl rfl
theorem r154_13 : runs cal 154 13 [v0, v1] [vR 75] I = runs cal 154 15 [v0, v1] [vI (64), vR 75] I := runs_to (ins_of mI_154 (by rfl)) rfl rfl
theorem r154_15 : runs cal 154 15 [v0, vI w] [vI x0, vR 75] I = runs cal 154 16 [v0, vI w] [vI w, vI x0, vR 75] I := runs_to (ins_of mI_154 (by rfl)) rfl rfl
theorem r154_16 : runs cal 154 16 [v0, v1] [vI x0, vI x1, vR 75] I = runs cal 154 17 [v0, v1] [vI (imul x1 x0), vR 75] I := runs_to (ins_of mI_154 (by rfl)) rfl rfl
theorem r154_17 : runs cal 154 17 [v0, v1] [vI x0, vR 75] I = if 0 ≤ x0 ∧ x0 < 512 then runs cal 154 18 [v0, v1] [vL (I 75 x0)] I else none := st_lald (ins_of mI_154 (by rfl)) cT_75 (wdc wid_154 wd_75)
theorem r154_18 : runs cal 154 18 [v0, v1] [vL x0] I = runs cal 154 21 [v0, v1] [vL (2), vL x0] I := runs_to (ins_of mI_154 (by rfl)) rfl (by simp only [stepI, ldk2, mC_154]; rfl)
theorem r154_21 : runs cal 154 21 [v0, v1] [vL x0, vL x1] I = if x0 = 0 then none else runs cal 154 22 [v0, v1] [vL (lrem x1 x0)] I := st_nzL (ins_of mI_154 (by rfl)) rfl rfl
theorem r154_22 : runs cal 154 22 [v0, v1] [vL x0] I = runs cal 154 23 [v0, v1] [vL 0, vL x0] I := runs_to (ins_of mI_154 (by rfl)) rfl rfl
theorem r154_23 : runs cal 154 23 [v0, v1] [vL x0, vL x1] I = if x1 = x0 then runs cal 154 27 [v0, v1] [] I else runs cal 154 31 [v0, v1] [] I := st_lc_ne (ins_of mI_154 (by rfl)) (ins_of mI_154 (by rfl)) (by decide)
theorem r154_24 : runs cal 154 24 [v0, v1] [vI x0] I = if x0 = 0 then runs cal 154 27 [v0, v1] [] I else runs cal 154 31 [v0, v1] [] I := st_if_ne (ins_of mI_154 (by rfl)) (by decide)
theorem r154_27 : runs cal 154 27 [v0, v1] [] I = runs cal 154 28 [v0, v1] [vI (1)] I := runs_to (ins_of mI_154 (by rfl)) rfl rfl
theorem r154_28 : runs cal 154 28 [v0, v1] [vI x0] I = runs cal 154 32 [v0, v1] [vI x0] I := st_goto (ins_of mI_154 (by rfl)) (by decide)
theorem r154_31 : runs cal 154 31 [v0, v1] [] I = runs cal 154 32 [v0, v1] [vI (0)] I := runs_to (ins_of mI_154 (by rfl)) rfl rfl
theorem r154_32 : runs cal 154 32 [v0, v1] [vI x0] I = if x0 = 0 ∨ x0 = 1 then some (some (vI x0), I) else none := st_retZ (ins_of mI_154 (by rfl)) mR_154 (Or.inl rfl)
theorem r155_0 : runs cal 155 0 [vR 70, v1, v2, v3, v4] [] I = runs cal 155 1 [vR 70, v1, v2, v3, v4] [vR 70] I := runs_to (ins_of mI_155 (by rfl)) rfl rfl
theorem r155_1 : runs cal 155 1 [v0, v1, v2, v3, v4] [vR 70] I = runs cal 155 2 [v0, v1, v2, v3, v4] [vI (4), vR 70] I := runs_to (ins_of mI_155 (by rfl)) rfl rfl
theorem r155_2 : runs cal 155 2 [v0, vI w, v2, v3, v4] [vI x0, vR 70] I = runs cal 155 3 [v0, vI w, v2, v3, v4] [vI w, vI x0, vR 70] I := runs_to (ins_of mI_155 (by rfl)) rfl rfl
theorem r155_3 : runs cal 155 3 [v0, v1, v2, v3, v4] [vI x0, vI x1, vR 70] I = (cal 147 [vR 70, vI x1, vI x0] I).bind (fun q => runs cal 155 6 [v0, v1, v2, v3, v4] (pushR q.1 []) q.2) := st_call (st := false) (ins_of mI_155 (by rfl)) mC_155 mr_11_79 (by decide) mS_147 mN_147 rfl (Nat.le_of_ble_eq_true rfl) rfl rfl (Or.inr ⟨_, _, rfl, rcv mC_147 rfl wid_155 (by decide +kernel)⟩) (Or.inl (wid_155.trans wid_147.symm))
theorem r155_6 : runs cal 155 6 [vR 70, v1, v2, v3, v4] [] I = runs cal 155 7 [vR 70, v1, v2, v3, v4] [vR 70] I := runs_to (ins_of mI_155 (by rfl)) rfl rfl
theorem r155_7 : runs cal 155 7 [v0, v1, v2, v3, v4] [vR 70] I = runs cal 155 8 [v0, v1, v2, v3, v4] [vI (5), vR 70] I := runs_to (ins_of mI_155 (by rfl)) rfl rfl
theorem r155_8 : runs cal 155 8 [v0, v1, vI w, v3, v4] [vI x0, vR 70] I = runs cal 155 9 [v0, v1, vI w, v3, v4] [vI w, vI x0, vR 70] I := runs_to (ins_of mI_155 (by rfl)) rfl rfl
theorem r155_9 : runs cal 155 9 [v0, v1, v2, v3, v4] [vI x0, vI x1, vR 70] I = (cal 147 [vR 70, vI x1, vI x0] I).bind (fun q => runs cal 155 12 [v0, v1, v2, v3, v4] (pushR q.1 []) q.2) := st_call (st := false) (ins_of mI_155 (by rfl)) mC_155 mr_11_79 (by decide) mS_147 mN_147 rfl (Nat.le_of_ble_eq_true rfl) rfl rfl (Or.inr ⟨_, _, rfl, rcv mC_147 rfl wid_155 (by decide +kernel)⟩) (Or.inl (wid_155.trans wid_147.symm))
theorem r155_12 : runs cal 155 12 [v0, v1, v2, v3, v4] [] I = runs cal 155 13 [v0, v1, v2, v3, v4] [vI (0)] I := runs_to (ins_of mI_155 (by rfl)) rfl rfl
theorem r155_13 : runs cal 155 13 [v0, v1, vI u, v3, v4] [vI x0] I = runs cal 155 14 [v0, v1, vI u, vI x0, v4] [] I := runs_to (ins_of mI_155 (by rfl)) rfl rfl
theorem r155_14 : runs cal 155 14 [vR 70, v1, v2, v3, v4] [] I = runs cal 155 15 [vR 70, v1, v2, v3, v4] [vR 70] I := runs_to (ins_of mI_155 (by rfl)) rfl rfl
theorem r155_15 : runs cal 155 15 [v0, v1, v2, v3, v4] [vR 70] I = runs cal 155 16 [v0, v1, v2, v3, v4] [vI (4), vR 70] I := runs_to (ins_of mI_155 (by rfl)) rfl rfl
theorem r155_16 : runs cal 155 16 [v0, v1, v2, v3, v4] [vI x0, vR 70] I = (cal 154 [vR 70, vI x0] I).bind (fun q => runs cal 155 19 [v0, v1, v2, v3, v4] (pushR q.1 []) q.2) := st_call (st := false) (ins_of mI_155 (by rfl)) mC_155 mr_11_83 (by decide) mS_154 mN_154 rfl (Nat.le_of_ble_eq_true rfl) rfl rfl (Or.inr ⟨_, _, rfl, rcv mC_154 rfl wid_155 (by decide +kernel)⟩) (Or.inl (wid_155.trans wid_154.symm))
theorem r155_19 : runs cal 155 19 [v0, v1, v2, v3, v4] [vI x0] I = if x0 = 0 then runs cal 155 46 [v0, v1, v2, v3, v4] [] I else runs cal 155 22 [v0, v1, v2, v3, v4] [] I := st_if_eq (ins_of mI_155 (by rfl)) (by decide)
theorem r155_22 : runs cal 155 22 [vR 70, v1, v2, v3, v4] [] I = runs cal 155 23 [vR 70, v1, v2, v3, v4] [vR 70] I := runs_to (ins_of mI_155 (by rfl)) rfl rfl
theorem r155_23 : runs cal 155 23 [v0, v1, v2, v3, v4] [vR 70] I = runs cal 155 24 [v0, v1, v2, v3, v4] [vI (5), vR 70] I := runs_to (ins_of mI_155 (by rfl)) rfl rfl
theorem r155_24 : runs cal 155 24 [v0, v1, v2, v3, v4] [vI x0, vR 70] I = (cal 154 [vR 70, vI x0] I).bind (fun q => runs cal 155 27 [v0, v1, v2, v3, v4] (pushR q.1 []) q.2) := st_call (st := false) (ins_of mI_155 (by rfl)) mC_155 mr_11_83 (by decide) mS_154 mN_154 rfl (Nat.le_of_ble_eq_true rfl) rfl rfl (Or.inr ⟨_, _, rfl, rcv mC_154 rfl wid_155 (by decide +kernel)⟩) (Or.inl (wid_155.trans wid_154.symm))
theorem r155_27 : runs cal 155 27 [v0, v1, v2, v3, v4] [vI x0] I = if x0 = 0 then runs cal 155 46 [v0, v1, v2, v3, v4] [] I else runs cal 155 30 [v0, v1, v2, v3, v4] [] I := st_if_eq (ins_of mI_155 (by rfl)) (by decide)
theorem r155_30 : runs cal 155 30 [vR 70, v1, v2, v3, v4] [] I = runs cal 155 31 [vR 70, v1, v2, v3, v4] [vR 70] I := runs_to (ins_of mI_155 (by rfl)) rfl rfl
theorem r155_31 : runs cal 155 31 [v0, v1, v2, v3, v4] [vR 70] I = runs cal 155 32 [v0, v1, v2, v3, v4] [vI (4), vR 70] I := runs_to (ins_of mI_155 (by rfl)) rfl rfl
theorem r155_32 : runs cal 155 32 [v0, v1, v2, v3, v4] [vI x0, vR 70] I = (cal 153 [vR 70, vI x0] I).bind (fun q => runs cal 155 35 [v0, v1, v2, v3, v4] (pushR q.1 []) q.2) := st_call (st := false) (ins_of mI_155 (by rfl)) mC_155 mr_11_87 (by decide) mS_153 mN_153 rfl (Nat.le_of_ble_eq_true rfl) rfl rfl (Or.inr ⟨_, _, rfl, rcv mC_153 rfl wid_155 (by decide +kernel)⟩) (Or.inl (wid_155.trans wid_153.symm))
theorem r155_35 : runs cal 155 35 [vR 70, v1, v2, v3, v4] [] I = runs cal 155 36 [vR 70, v1, v2, v3, v4] [vR 70] I := runs_to (ins_of mI_155 (by rfl)) rfl rfl
theorem r155_36 : runs cal 155 36 [v0, v1, v2, v3, v4] [vR 70] I = runs cal 155 37 [v0, v1, v2, v3, v4] [vI (5), vR 70] I := runs_to (ins_of mI_155 (by rfl)) rfl rfl
theorem r155_37 : runs cal 155 37 [v0, v1, v2, v3, v4] [vI x0, vR 70] I = (cal 153 [vR 70, vI x0] I).bind (fun q => runs cal 155 40 [v0, v1, v2, v3, v4] (pushR q.1 []) q.2) := st_call (st := false) (ins_of mI_155 (by rfl)) mC_155 mr_11_87 (by decide) mS_153 mN_153 rfl (Nat.le_of_ble_eq_true rfl) rfl rfl (Or.inr ⟨_, _, rfl, rcv mC_153 rfl wid_155 (by decide +kernel)⟩) (Or.inl (wid_155.trans wid_153.symm))
theorem r155_40 : runs cal 155 40 [v0, v1, vI u, vI w, v4] [] I = runs cal 155 43 [v0, v1, vI u, vI (iadd w (1)), v4] [] I := runs_to (ins_of mI_155 (by rfl)) rfl rfl
theorem r155_43 : runs cal 155 43 [v0, v1, v2, v3, v4] [] I = runs cal 155 14 [v0, v1, v2, v3, v4] [] I := st_goto (ins_of mI_155 (by rfl)) (by decide)
theorem r155_46 : runs cal 155 46 [vR 70, v1, v2, v3, v4] [] I = runs cal 155 47 [vR 70, v1, v2, v3, v4] [vR 70] I := runs_to (ins_of mI_155 (by rfl)) rfl rfl
theorem r155_47 : runs cal 155 47 [v0, v1, v2, v3, v4] [vR 70] I = runs cal 155 50 [v0, v1, v2, v3, v4] [vR 76] I := st_getR (ins_of mI_155 (by rfl)) mC_155 (by decide) fr_11_27 cT_70 (wdc wid_155 wd_70) rfl rfl
theorem r155_50 : runs cal 155 50 [v0, v1, v2, v3, v4] [vR 76] I = runs cal 155 51 [v0, v1, v2, v3, v4] [vI (5), vR 76] I := runs_to (ins_of mI_155 (by rfl)) rfl rfl
theorem r155_51 : runs cal 155 51 [v0, v1, v2, v3, v4] [vI x0, vR 76] I = if 0 ≤ x0 ∧ x0 < 8 then runs cal 155 52 [v0, v1, v2, v3, v4] [vI (I 76 x0)] I else none := st_iald (ins_of mI_155 (by rfl)) cT_76 (wdc wid_155 wd_76)
theorem r155_52 : runs cal 155 52 [v0, v1, v2, v3, v4] [vI x0] I = if 0 < x0 then runs cal 155 55 [v0, v1, v2, v3, v4] [] I else runs cal 155 125 [v0, v1, v2, v3, v4] [] I := st_if_le (ins_of mI_155 (by rfl)) (by decide)
theorem r155_55 : runs cal 155 55 [vR 70, v1, v2, v3, v4] [] I = runs cal 155 56 [vR 70, v1, v2, v3, v4] [vR 70] I := runs_to (ins_of mI_155 (by rfl)) rfl rfl
theorem r155_56 : runs cal 155 56 [v0, v1, v2, v3, v4] [vR 70] I = runs cal 155 57 [v0, v1, v2, v3, v4] [vI (4), vR 70] I := runs_to (ins_of mI_155 (by rfl)) rfl rfl
theorem r155_57 : runs cal 155 57 [v0, v1, v2, v3, v4] [vI x0, vR 70] I = (cal 154 [vR 70, vI x0] I).bind (fun q => runs cal 155 60 [v0, v1, v2, v3, v4] (pushR q.1 []) q.2) := st_call (st := false) (ins_of mI_155 (by rfl)) mC_155 mr_11_83 (by decide) mS_154 mN_154 rfl (Nat.le_of_ble_eq_true rfl) rfl rfl (Or.inr ⟨_, _, rfl, rcv mC_154 rfl wid_155 (by decide +kernel)⟩) (Or.inl (wid_155.trans wid_154.symm))
theorem r155_60 : runs cal 155 60 [v0, v1, v2, v3, v4] [vI x0] I = if x0 = 0 then runs cal 155 71 [v0, v1, v2, v3, v4] [] I else runs cal 155 63 [v0, v1, v2, v3, v4] [] I := st_if_eq (ins_of mI_155 (by rfl)) (by decide)
theorem r155_63 : runs cal 155 63 [vR 70, v1, v2, v3, v4] [] I = runs cal 155 64 [vR 70, v1, v2, v3, v4] [vR 70] I := runs_to (ins_of mI_155 (by rfl)) rfl rfl
theorem r155_64 : runs cal 155 64 [v0, v1, v2, v3, v4] [vR 70] I = runs cal 155 65 [v0, v1, v2, v3, v4] [vI (4), vR 70] I := runs_to (ins_of mI_155 (by rfl)) rfl rfl
theorem r155_65 : runs cal 155 65 [v0, v1, v2, v3, v4] [vI x0, vR 70] I = (cal 153 [vR 70, vI x0] I).bind (fun q => runs cal 155 68 [v0, v1, v2, v3, v4] (pushR q.1 []) q.2) := st_call (st := false) (ins_of mI_155 (by rfl)) mC_155 mr_11_87 (by decide) mS_153 mN_153 rfl (Nat.le_of_ble_eq_true rfl) rfl rfl (Or.inr ⟨_, _, rfl, rcv mC_153 rfl wid_155 (by decide +kernel)⟩) (Or.inl (wid_155.trans wid_153.symm))
theorem r155_68 : runs cal 155 68 [v0, v1, v2, v3, v4] [] I = runs cal 155 55 [v0, v1, v2, v3, v4] [] I := st_goto (ins_of mI_155 (by rfl)) (by decide)
theorem r155_71 : runs cal 155 71 [vR 70, v1, v2, v3, v4] [] I = runs cal 155 72 [vR 70, v1, v2, v3, v4] [vR 70] I := runs_to (ins_of mI_155 (by rfl)) rfl rfl
theorem r155_72 : runs cal 155 72 [v0, v1, v2, v3, v4] [vR 70] I = runs cal 155 73 [v0, v1, v2, v3, v4] [vI (5), vR 70] I := runs_to (ins_of mI_155 (by rfl)) rfl rfl
theorem r155_73 : runs cal 155 73 [v0, v1, v2, v3, v4] [vI x0, vR 70] I = (cal 154 [vR 70, vI x0] I).bind (fun q => runs cal 155 76 [v0, v1, v2, v3, v4] (pushR q.1 []) q.2) := st_call (st := false) (ins_of mI_155 (by rfl)) mC_155 mr_11_83 (by decide) mS_154 mN_154 rfl (Nat.le_of_ble_eq_true rfl) rfl rfl (Or.inr ⟨_, _, rfl, rcv mC_154 rfl wid_155 (by decide +kernel)⟩) (Or.inl (wid_155.trans wid_154.symm))
theorem r155_76 : runs cal 155 76 [v0, v1, v2, v3, v4] [vI x0] I = if x0 = 0 then runs cal 155 87 [v0, v1, v2, v3, v4] [] I else runs cal 155 79 [v0, v1, v2, v3, v4] [] I := st_if_eq (ins_of mI_155 (by rfl)) (by decide)
theorem r155_79 : runs cal 155 79 [vR 70, v1, v2, v3, v4] [] I = runs cal 155 80 [vR 70, v1, v2, v3, v4] [vR 70] I := runs_to (ins_of mI_155 (by rfl)) rfl rfl
theorem r155_80 : runs cal 155 80 [v0, v1, v2, v3, v4] [vR 70] I = runs cal 155 81 [v0, v1, v2, v3, v4] [vI (5), vR 70] I := runs_to (ins_of mI_155 (by rfl)) rfl rfl
theorem r155_81 : runs cal 155 81 [v0, v1, v2, v3, v4] [vI x0, vR 70] I = (cal 153 [vR 70, vI x0] I).bind (fun q => runs cal 155 84 [v0, v1, v2, v3, v4] (pushR q.1 []) q.2) := st_call (st := false) (ins_of mI_155 (by rfl)) mC_155 mr_11_87 (by decide) mS_153 mN_153 rfl (Nat.le_of_ble_eq_true rfl) rfl rfl (Or.inr ⟨_, _, rfl, rcv mC_153 rfl wid_155 (by decide +kernel)⟩) (Or.inl (wid_155.trans wid_153.symm))
theorem r155_84 : runs cal 155 84 [v0, v1, v2, v3, v4] [] I = runs cal 155 71 [v0, v1, v2, v3, v4] [] I := st_goto (ins_of mI_155 (by rfl)) (by decide)
theorem r155_87 : runs cal 155 87 [vR 70, v1, v2, v3, v4] [] I = runs cal 155 88 [vR 70, v1, v2, v3, v4] [vR 70] I := runs_to (ins_of mI_155 (by rfl)) rfl rfl
theorem r155_88 : runs cal 155 88 [v0, v1, v2, v3, v4] [vR 70] I = runs cal 155 89 [v0, v1, v2, v3, v4] [vI (4), vR 70] I := runs_to (ins_of mI_155 (by rfl)) rfl rfl
theorem r155_89 : runs cal 155 89 [v0, v1, v2, v3, v4] [vI x0, vR 70] I = runs cal 155 90 [v0, v1, v2, v3, v4] [vI (5), vI x0, vR 70] I := runs_to (ins_of mI_155 (by rfl)) rfl rfl
theorem r155_90 : runs cal 155 90 [v0, v1, v2, v3, v4] [vI x0, vI x1, vR 70] I = (cal 150 [vR 70, vI x1, vI x0] I).bind (fun q => runs cal 155 93 [v0, v1, v2, v3, v4] (pushR q.1 []) q.2) := st_call (st := false) (ins_of mI_155 (by rfl)) mC_155 mr_11_90 (by decide) mS_150 mN_150 rfl (Nat.le_of_ble_eq_true rfl) rfl rfl (Or.inr ⟨_, _, rfl, rcv mC_150 rfl wid_155 (by decide +kernel)⟩) (Or.inl (wid_155.trans wid_150.symm))
theorem r155_93 : runs cal 155 93 [v0, v1, v2, v3, v4] [vI x0] I = if 0 < x0 then runs cal 155 96 [v0, v1, v2, v3, v4] [] I else runs cal 155 116 [v0, v1, v2, v3, v4] [] I := st_if_le (ins_of mI_155 (by rfl)) (by decide)
theorem r155_96 : runs cal 155 96 [vR 70, v1, v2, v3, v4] [] I = runs cal 155 97 [vR 70, v1, v2, v3, v4] [vR 70] I := runs_to (ins_of mI_155 (by rfl)) rfl rfl
theorem r155_97 : runs cal 155 97 [v0, v1, v2, v3, v4] [vR 70] I = runs cal 155 99 [v0, v1, v2, v3, v4] [vI (6), vR 70] I := runs_to (ins_of mI_155 (by rfl)) rfl rfl
theorem r155_99 : runs cal 155 99 [v0, v1, v2, v3, v4] [vI x0, vR 70] I = runs cal 155 100 [v0, v1, v2, v3, v4] [vI (4), vI x0, vR 70] I := runs_to (ins_of mI_155 (by rfl)) rfl rfl
theorem r155_100 : runs cal 155 100 [v0, v1, v2, v3, v4] [vI x0, vI x1, vR 70] I = (cal 147 [vR 70, vI x1, vI x0] I).bind (fun q => runs cal 155 103 [v0, v1, v2, v3, v4] (pushR q.1 []) q.2) := st_call (st := false) (ins_of mI_155 (by rfl)) mC_155 mr_11_79 (by decide) mS_147 mN_147 rfl (Nat.le_of_ble_eq_true rfl) rfl rfl (Or.inr ⟨_, _, rfl, rcv mC_147 rfl wid_155 (by decide +kernel)⟩) (Or.inl (wid_155.trans wid_147.symm))
theorem r155_103 : runs cal 155 103 [vR 70, v1, v2, v3, v4] [] I = runs cal 155 104 [vR 70, v1, v2, v3, v4] [vR 70] I := runs_to (ins_of mI_155 (by rfl)) rfl rfl
theorem r155_104 : runs cal 155 104 [v0, v1, v2, v3, v4] [vR 70] I = runs cal 155 105 [v0, v1, v2, v3, v4] [vI (4), vR 70] I := runs_to (ins_of mI_155 (by rfl)) rfl rfl
theorem r155_105 : runs cal 155 105 [v0, v1, v2, v3, v4] [vI x0, vR 70] I = runs cal 155 106 [v0, v1, v2, v3, v4] [vI (5), vI x0, vR 70] I := runs_to (ins_of mI_155 (by rfl)) rfl rfl
theorem r155_106 : runs cal 155 106 [v0, v1, v2, v3, v4] [vI x0, vI x1, vR 70] I = (cal 147 [vR 70, vI x1, vI x0] I).bind (fun q => runs cal 155 109 [v0, v1, v2, v3, v4] (pushR q.1 []) q.2) := st_call (st := false) (ins_of mI_155 (by rfl)) mC_155 mr_11_79 (by decide) mS_147 mN_147 rfl (Nat.le_of_ble_eq_true rfl) rfl rfl (Or.inr ⟨_, _, rfl, rcv mC_147 rfl wid_155 (by decide +kernel)⟩) (Or.inl (wid_155.trans wid_147.symm))
theorem r155_109 : runs cal 155 109 [vR 70, v1, v2, v3, v4] [] I = runs cal 155 110 [vR 70, v1, v2, v3, v4] [vR 70] I := runs_to (ins_of mI_155 (by rfl)) rfl rfl
theorem r155_110 : runs cal 155 110 [v0, v1, v2, v3, v4] [vR 70] I = runs cal 155 111 [v0, v1, v2, v3, v4] [vI (5), vR 70] I := runs_to (ins_of mI_155 (by rfl)) rfl rfl
theorem r155_111 : runs cal 155 111 [v0, v1, v2, v3, v4] [vI x0, vR 70] I = runs cal 155 113 [v0, v1, v2, v3, v4] [vI (6), vI x0, vR 70] I := runs_to (ins_of mI_155 (by rfl)) rfl rfl
theorem r155_113 : runs cal 155 113 [v0, v1, v2, v3, v4] [vI x0, vI x1, vR 70] I = (cal 147 [vR 70, vI x1, vI x0] I).bind (fun q => runs cal 155 116 [v0, v1, v2, v3, v4] (pushR q.1 []) q.2) := st_call (st := false) (ins_of mI_155 (by rfl)) mC_155 mr_11_79 (by decide) mS_147 mN_147 rfl (Nat.le_of_ble_eq_true rfl) rfl rfl (Or.inr ⟨_, _, rfl, rcv mC_147 rfl wid_155 (by decide +kernel)⟩) (Or.inl (wid_155.trans wid_147.symm))
theorem r155_116 : runs cal 155 116 [vR 70, v1, v2, v3, v4] [] I = runs cal 155 117 [vR 70, v1, v2, v3, v4] [vR 70] I := runs_to (ins_of mI_155 (by rfl)) rfl rfl
theorem r155_117 : runs cal 155 117 [v0, v1, v2, v3, v4] [vR 70] I = runs cal 155 118 [v0, v1, v2, v3, v4] [vI (5), vR 70] I := runs_to (ins_of mI_155 (by rfl)) rfl rfl
theorem r155_118 : runs cal 155 118 [v0, v1, v2, v3, v4] [vI x0, vR 70] I = runs cal 155 119 [v0, v1, v2, v3, v4] [vI (4), vI x0, vR 70] I := runs_to (ins_of mI_155 (by rfl)) rfl rfl
theorem r155_119 : runs cal 155 119 [v0, v1, v2, v3, v4] [vI x0, vI x1, vR 70] I = (cal 152 [vR 70, vI x1, vI x0] I).bind (fun q => runs cal 155 122 [v0, v1, v2, v3, v4] (pushR q.1 []) q.2) := st_call (st := false) (ins_of mI_155 (by rfl)) mC_155 mr_11_94 (by decide) mS_152 mN_152 rfl (Nat.le_of_ble_eq_true rfl) rfl rfl (Or.inr ⟨_, _, rfl, rcv mC_152 rfl wid_155 (by decide +kernel)⟩) (Or.inl (wid_155.trans wid_152.symm))
theorem r155_122 : runs cal 155 122 [v0, v1, v2, v3, v4] [] I = runs cal 155 46 [v0, v1, v2, v3, v4] [] I := st_goto (ins_of mI_155 (by rfl)) (by decide)
theorem r155_125 : runs cal 155 125 [v0, v1, v2, v3, v4] [] I = runs cal 155 126 [v0, v1, v2, v3, v4] [vI (0)] I := runs_to (ins_of mI_155 (by rfl)) rfl rfl
theorem r155_126 : runs cal 155 126 [v0, v1, v2, vI u, v4] [vI x0] I = runs cal 155 128 [v0, v1, v2, vI u, vI x0] [] I := runs_to (ins_of mI_155 (by rfl)) rfl rfl
theorem r155_128 : runs cal 155 128 [v0, v1, v2, v3, vI w] [] I = runs cal 155 130 [v0, v1, v2, v3, vI w] [vI w] I := runs_to (ins_of mI_155 (by rfl)) rfl rfl
theorem r155_130 : runs cal 155 130 [v0, v1, v2, vI w, v4] [vI x0] I = runs cal 155 131 [v0, v1, v2, vI w, v4] [vI w, vI x0] I := runs_to (ins_of mI_155 (by rfl)) rfl rfl
theorem r155_131 : runs cal 155 131 [v0, v1, v2, v3, v4] [vI x0, vI x1] I = if x1 < x0 then runs cal 155 134 [v0, v1, v2, v3, v4] [] I else runs cal 155 148 [v0, v1, v2, v3, v4] [] I := st_cmp_ge (ins_of mI_155 (by rfl)) (by decide)
theorem r155_134 : runs cal 155 134 [vR 70, v1, v2, v3, v4] [] I = runs cal 155 135 [vR 70, v1, v2, v3, v4] [vR 70] I := runs_to (ins_of mI_155 (by rfl)) rfl rfl
theorem r155_135 : runs cal 155 135 [v0, v1, v2, v3, v4] [vR 70] I = runs cal 155 136 [v0, v1, v2, v3, v4] [vI (4), vR 70] I := runs_to (ins_of mI_155 (by rfl)) rfl rfl
theorem r155_136 : runs cal 155 136 [v0, v1, v2, v3, v4] [vI x0, vR 70] I = runs cal 155 139 [v0, v1, v2, v3, v4] [vL (2), vI x0, vR 70] I := runs_to (ins_of mI_155 (by rfl)) rfl (by simp only [stepI, ldk2, mC_155]; rfl)
theorem r155_139 : runs cal 155 139 [v0, v1, v2, v3, v4] [vL x0, vI x1, vR 70] I = (cal 149 [vR 70, vI x1, vL x0] I).bind (fun q => runs cal 155 142 [v0, v1, v2, v3, v4] (pushR q.1 []) q.2) := st_call (st := false) (ins_of mI_155 (by rfl)) mC_155 mr_11_97 (by decide) mS_149 mN_149 rfl (Nat.le_of_ble_eq_true rfl) rfl rfl (Or.inr ⟨_, _, rfl, rcv mC_149 rfl wid_155 (by decide +kernel)⟩) (Or.inl (wid_155.trans wid_149.symm))
theorem r155_142 : runs cal 155 142 [v0, v1, v2, vI u, vI w] [] I = runs cal 155 145 [v0, v1, v2, vI u, vI (iadd w (1))] [] I := runs_to (ins_of mI_155 (by rfl)) rfl rfl
theorem r155_145 : runs cal 155 145 [v0, v1, v2, v3, v4] [] I = runs cal 155 128 [v0, v1, v2, v3, v4] [] I := st_goto (ins_of mI_155 (by rfl)) (by decide)
theorem r155_148 : runs cal 155 148 [v0, v1, v2, v3, v4] [] I = some (none, I) := st_ret (q := none) (k := 3) (ins_of mI_155 (by rfl)) rfl (by decide) mR_155 rfl trivial
theorem r156_0 : runs cal 156 0 [vR 70, v1, v2, v3, v4, v5, v6] [] I = runs cal 156 1 [vR 70, v1, v2, v3, v4, v5, v6] [vR 70] I := runs_to (ins_of mI_156 (by rfl)) rfl rfl
theorem r156_1 : runs cal 156 1 [v0, v1, v2, v3, v4, v5, v6] [vR 70] I = runs cal 156 3 [v0, v1, v2, v3, v4, v5, v6] [vI (6), vR 70] I := runs_to (ins_of mI_156 (by rfl)) rfl rfl
theorem r156_3 : runs cal 156 3 [v0, vI w, v2, v3, v4, v5, v6] [vI x0, vR 70] I = runs cal 156 4 [v0, vI w, v2, v3, v4, v5, v6] [vI w, vI x0, vR 70] I := runs_to (ins_of mI_156 (by rfl)) rfl rfl
theorem r156_4 : runs cal 156 4 [v0, v1, v2, v3, v4, v5, v6] [vI x0, vI x1, vR 70] I = (cal 147 [vR 70, vI x1, vI x0] I).bind (fun q => runs cal 156 7 [v0, v1, v2, v3, v4, v5, v6] (pushR q.1 []) q.2) := st_call (st := false) (ins_of mI_156 (by rfl)) mC_156 mr_11_79 (by decide) mS_147 mN_147 rfl (Nat.le_of_ble_eq_true rfl) rfl rfl (Or.inr ⟨_, _, rfl, rcv mC_147 rfl wid_156 (by decide +kernel)⟩) (Or.inl (wid_156.trans wid_147.symm))
theorem r156_7 : runs cal 156 7 [vR 70, v1, v2, v3, v4, v5, v6] [] I = runs cal 156 8 [vR 70, v1, v2, v3, v4, v5, v6] [vR 70] I := runs_to (ins_of mI_156 (by rfl)) rfl rfl
theorem r156_8 : runs cal 156 8 [v0, v1, v2, v3, v4, v5, v6] [vR 70] I = runs cal 156 9 [v0, v1, v2, v3, v4, v5, v6] [vI (5), vR 70] I := runs_to (ins_of mI_156 (by rfl)) rfl rfl
theorem r156_9 : runs cal 156 9 [v0, v1, v2, v3, v4, v5, v6] [vI x0, vR 70] I = runs cal 156 10 [v0, v1, v2, v3, v4, v5, v6] [vL 0, vI x0, vR 70] I := runs_to (ins_of mI_156 (by rfl)) rfl rfl
theorem r156_10 : runs cal 156 10 [v0, v1, v2, v3, v4, v5, v6] [vL x0, vI x1, vR 70] I = (cal 146 [vR 70, vI x1, vL x0] I).bind (fun q => runs cal 156 13 [v0, v1, v2, v3, v4, v5, v6] (pushR q.1 []) q.2) := st_call (st := false) (ins_of mI_156 (by rfl)) mC_156 mr_11_67 (by decide) mS_146 mN_146 rfl (Nat.le_of_ble_eq_true rfl) rfl rfl (Or.inr ⟨_, _, rfl, rcv mC_146 rfl wid_156 (by decide +kernel)⟩) (Or.inl (wid_156.trans wid_146.symm))
theorem r156_13 : runs cal 156 13 [vR 70, v1, v2, v3, v4, v5, v6] [] I = runs cal 156 14 [vR 70, v1, v2, v3, v4, v5, v6] [vR 70] I := runs_to (ins_of mI_156 (by rfl)) rfl rfl
theorem r156_14 : runs cal 156 14 [v0, v1, v2, v3, v4, v5, v6] [vR 70] I = runs cal 156 17 [v0, v1, v2, v3, v4, v5, v6] [vR 76] I := st_getR (ins_of mI_156 (by rfl)) mC_156 (by decide) fr_11_27 cT_70 (wdc wid_156 wd_70) rfl rfl
theorem r156_17 : runs cal 156 17 [v0, v1, v2, v3, v4, v5, v6] [vR 76] I = runs cal 156 19 [v0, v1, v2, v3, v4, v5, v6] [vI (6), vR 76] I := runs_to (ins_of mI_156 (by rfl)) rfl rfl
theorem r156_19 : runs cal 156 19 [v0, v1, v2, v3, v4, v5, v6] [vI x0, vR 76] I = if 0 ≤ x0 ∧ x0 < 8 then runs cal 156 20 [v0, v1, v2, v3, v4, v5, v6] [vI (I 76 x0)] I else none := st_iald (ins_of mI_156 (by rfl)) cT_76 (wdc wid_156 wd_76)
theorem r156_20 : runs cal 156 20 [v0, vI u, v2, v3, v4, v5, v6] [vI x0] I = runs cal 156 21 [v0, vI u, vI x0, v3, v4, v5, v6] [] I := runs_to (ins_of mI_156 (by rfl)) rfl rfl
theorem r156_21 : runs cal 156 21 [v0, v1, v2, v3, v4, v5, v6] [] I = runs cal 156 22 [v0, v1, v2, v3, v4, v5, v6] [vI (0)] I := runs_to (ins_of mI_156 (by rfl)) rfl rfl
theorem r156_22 : runs cal 156 22 [v0, v1, vI u, v3, v4, v5, v6] [vI x0] I = runs cal 156 23 [v0, v1, vI u, vI x0, v4, v5, v6] [] I := runs_to (ins_of mI_156 (by rfl)) rfl rfl
theorem r156_23 : runs cal 156 23 [v0, v1, v2, vI w, v4, v5, v6] [] I = runs cal 156 24 [v0, v1, v2, vI w, v4, v5, v6] [vI w] I := runs_to (ins_of mI_156 (by rfl)) rfl rfl
theorem r156_24 : runs cal 156 24 [v0, v1, vI w, v3, v4, v5, v6] [vI x0] I = runs cal 156 25 [v0, v1, vI w, v3, v4, v5, v6] [vI w, vI x0] I := runs_to (ins_of mI_156 (by rfl)) rfl rfl
theorem r156_25 : runs cal 156 25 [v0, v1, v2, v3, v4, v5, v6] [vI x0, vI x1] I = if x1 < x0 then runs cal 156 28 [v0, v1, v2, v3, v4, v5, v6] [] I else runs cal 156 46 [v0, v1, v2, v3, v4, v5, v6] [] I := st_cmp_ge (ins_of mI_156 (by rfl)) (by decide)
theorem r156_28 : runs cal 156 28 [vR 70, v1, v2, v3, v4, v5, v6] [] I = runs cal 156 29 [vR 70, v1, v2, v3, v4, v5, v6] [vR 70] I := runs_to (ins_of mI_156 (by rfl)) rfl rfl
theorem r156_29 : runs cal 156 29 [v0, v1, v2, v3, v4, v5, v6] [vR 70] I = runs cal 156 32 [v0, v1, v2, v3, v4, v5, v6] [vR 75] I := st_getR (ins_of mI_156 (by rfl)) mC_156 (by decide) fr_11_23 cT_70 (wdc wid_156 wd_70) rfl rfl
theorem r156_32 : runs cal 156 32 [v0, v1, v2, v3, v4, v5, v6] [vR 75] I = runs cal 156 34 [v0, v1, v2, v3, v4, v5, v6] [vI (64), vR 75] I := runs_to (ins_of mI_156 (by rfl)) rfl rfl
theorem r156_34 : runs cal 156 34 [v0, vI w, v2, v3, v4, v5, v6] [vI x0, vR 75] I = runs cal 156 35 [v0, vI w, v2, v3, v4, v5, v6] [vI w, vI x0, vR 75] I := runs_to (ins_of mI_156 (by rfl)) rfl rfl
theorem r156_35 : runs cal 156 35 [v0, v1, v2, v3, v4, v5, v6] [vI x0, vI x1, vR 75] I = runs cal 156 36 [v0, v1, v2, v3, v4, v5, v6] [vI (imul x1 x0), vR 75] I := runs_to (ins_of mI_156 (by rfl)) rfl rfl
theorem r156_36 : runs cal 156 36 [v0, v1, v2, vI w, v4, v5, v6] [vI x0, vR 75] I = runs cal 156 37 [v0, v1, v2, vI w, v4, v5, v6] [vI w, vI x0, vR 75] I := runs_to (ins_of mI_156 (by rfl)) rfl rfl
theorem r156_37 : runs cal 156 37 [v0, v1, v2, v3, v4, v5, v6] [vI x0, vI x1, vR 75] I = runs cal 156 38 [v0, v1, v2, v3, v4, v5, v6] [vI (iadd x1 x0), vR 75] I := runs_to (ins_of mI_156 (by rfl)) rfl rfl
theorem r156_38 : runs cal 156 38 [v0, v1, v2, v3, v4, v5, v6] [vI x0, vR 75] I = runs cal 156 39 [v0, v1, v2, v3, v4, v5, v6] [vL 0, vI x0, vR 75] I := runs_to (ins_of mI_156 (by rfl)) rfl rfl
theorem r156_39 : runs cal 156 39 [v0, v1, v2, v3, v4, v5, v6] [vL x0, vI x1, vR 75] I = if 0 ≤ x1 ∧ x1 < 512 then runs cal 156 40 [v0, v1, v2, v3, v4, v5, v6] [] (mset I 75 x1 x0) else none := st_last (ins_of mI_156 (by rfl)) cT_75 (wdc wid_156 wd_75)
theorem r156_40 : runs cal 156 40 [v0, v1, vI u, vI w, v4, v5, v6] [] I = runs cal 156 43 [v0, v1, vI u, vI (iadd w (1)), v4, v5, v6] [] I := runs_to (ins_of mI_156 (by rfl)) rfl rfl
theorem r156_43 : runs cal 156 43 [v0, v1, v2, v3, v4, v5, v6] [] I = runs cal 156 23 [v0, v1, v2, v3, v4, v5, v6] [] I := st_goto (ins_of mI_156 (by rfl)) (by decide)
theorem r156_46 : runs cal 156 46 [v0, v1, vI w, v3, v4, v5, v6] [] I = runs cal 156 47 [v0, v1, vI w, v3, v4, v5, v6] [vI w] I := runs_to (ins_of mI_156 (by rfl)) rfl rfl
theorem r156_47 : runs cal 156 47 [v0, v1, v2, v3, v4, v5, v6] [vI x0] I = runs cal 156 48 [v0, v1, v2, v3, v4, v5, v6] [vI (1), vI x0] I := runs_to (ins_of mI_156 (by rfl)) rfl rfl
theorem r156_48 : runs cal 156 48 [v0, v1, v2, v3, v4, v5, v6] [vI x0, vI x1] I = runs cal 156 49 [v0, v1, v2, v3, v4, v5, v6] [vI (isub x1 x0)] I := runs_to (ins_of mI_156 (by rfl)) rfl rfl
theorem r156_49 : runs cal 156 49 [v0, v1, vI u, v3, v4, v5, v6] [vI x0] I = runs cal 156 50 [v0, v1, vI u, vI x0, v4, v5, v6] [] I := runs_to (ins_of mI_156 (by rfl)) rfl rfl
theorem r156_50 : runs cal 156 50 [v0, v1, v2, vI w, v4, v5, v6] [] I = runs cal 156 51 [v0, v1, v2, vI w, v4, v5, v6] [vI w] I := runs_to (ins_of mI_156 (by rfl)) rfl rfl
theorem r156_51 : runs cal 156 51 [v0, v1, v2, v3, v4, v5, v6] [vI x0] I = if x0 < 0 then runs cal 156 152 [v0, v1, v2, v3, v4, v5, v6] [] I else runs cal 156 54 [v0, v1, v2, v3, v4, v5, v6] [] I := st_if_lt (ins_of mI_156 (by rfl)) (by decide)
theorem r156_54 : runs cal 156 54 [v0, v1, v2, v3, v4, v5, v6] [] I = runs cal 156 55 [v0, v1, v2, v3, v4, v5, v6] [vL 0] I := runs_to (ins_of mI_156 (by rfl)) rfl rfl
theorem r156_55 : runs cal 156 55 [v0, v1, v2, vI u, v4, v5, v6] [vL x0] I = runs cal 156 57 [v0, v1, v2, vI u, vL x0, vR 0, v6] [] I := runs_to (ins_of mI_156 (by rfl)) rfl rfl
theorem r156_57 : runs cal 156 57 [v0, v1, v2, v3, v4, v5, v6] [] I = runs cal 156 59 [v0, v1, v2, v3, v4, v5, v6] [vI (29)] I := runs_to (ins_of mI_156 (by rfl)) rfl rfl
theorem r156_59 : runs cal 156 59 [v0, v1, v2, v3, v4, v5, v6] [vI x0] I = runs cal 156 61 [v0, v1, v2, v3, v4, kill v5, vI x0] [] I := runs_to (ins_of mI_156 (by rfl)) rfl rfl
theorem r156_61 : runs cal 156 61 [v0, v1, v2, v3, v4, v5, vI w] [] I = runs cal 156 63 [v0, v1, v2, v3, v4, v5, vI w] [vI w] I := runs_to (ins_of mI_156 (by rfl)) rfl rfl
theorem r156_63 : runs cal 156 63 [v0, v1, v2, v3, v4, v5, v6] [vI x0] I = if x0 < 0 then runs cal 156 133 [v0, v1, v2, v3, v4, v5, v6] [] I else runs cal 156 66 [v0, v1, v2, v3, v4, v5, v6] [] I := st_if_lt (ins_of mI_156 (by rfl)) (by decide)
theorem r156_66 : runs cal 156 66 [vR 70, v1, v2, v3, v4, v5, v6] [] I = runs cal 156 67 [vR 70, v1, v2, v3, v4, v5, v6] [vR 70] I := runs_to (ins_of mI_156 (by rfl)) rfl rfl
theorem r156_67 : runs cal 156 67 [v0, v1, v2, v3, v4, v5, v6] [vR 70] I = runs cal 156 68 [v0, v1, v2, v3, v4, v5, v6] [vI (5), vR 70] I := runs_to (ins_of mI_156 (by rfl)) rfl rfl
theorem r156_68 : runs cal 156 68 [v0, v1, v2, v3, v4, v5, v6] [vI x0, vR 70] I = runs cal 156 71 [v0, v1, v2, v3, v4, v5, v6] [vL (2), vI x0, vR 70] I := runs_to (ins_of mI_156 (by rfl)) rfl (by simp only [stepI, ldk2, mC_156]; rfl)
theorem r156_71 : runs cal 156 71 [v0, v1, v2, v3, v4, v5, v6] [vL x0, vI x1, vR 70] I = (cal 149 [vR 70, vI x1, vL x0] I).bind (fun q => runs cal 156 74 [v0, v1, v2, v3, v4, v5, v6] (pushR q.1 []) q.2) := st_call (st := false) (ins_of mI_156 (by rfl)) mC_156 mr_11_97 (by decide) mS_149 mN_149 rfl (Nat.le_of_ble_eq_true rfl) rfl rfl (Or.inr ⟨_, _, rfl, rcv mC_149 rfl wid_156 (by decide +kernel)⟩) (Or.inl (wid_156.trans wid_149.symm))
theorem r156_74 : runs cal 156 74 [vR 70, v1, v2, v3, v4, v5, v6] [] I = runs cal 156 75 [vR 70, v1, v2, v3, v4, v5, v6] [vR 70] I := runs_to (ins_of mI_156 (by rfl)) rfl rfl
theorem r156_75 : runs cal 156 75 [v0, v1, v2, v3, v4, v5, v6] [vR 70] I = runs cal 156 78 [v0, v1, v2, v3, v4, v5, v6] [vR 75] I := st_getR (ins_of mI_156 (by rfl)) mC_156 (by decide) fr_11_23 cT_70 (wdc wid_156 wd_70) rfl rfl
theorem r156_78 : runs cal 156 78 [v0, v1, v2, v3, v4, v5, v6] [vR 75] I = runs cal 156 81 [v0, v1, v2, v3, v4, v5, v6] [vI (384), vR 75] I := runs_to (ins_of mI_156 (by rfl)) rfl rfl
theorem r156_81 : runs cal 156 81 [v0, v1, v2, vI w, v4, v5, v6] [vI x0, vR 75] I = runs cal 156 82 [v0, v1, v2, vI w, v4, v5, v6] [vI w, vI x0, vR 75] I := runs_to (ins_of mI_156 (by rfl)) rfl rfl
theorem r156_82 : runs cal 156 82 [v0, v1, v2, v3, v4, v5, v6] [vI x0, vI x1, vR 75] I = runs cal 156 83 [v0, v1, v2, v3, v4, v5, v6] [vI (iadd x1 x0), vR 75] I := runs_to (ins_of mI_156 (by rfl)) rfl rfl
theorem r156_83 : runs cal 156 83 [v0, v1, v2, v3, v4, v5, v6] [vI x0, vR 75] I = if 0 ≤ x0 ∧ x0 < 512 then runs cal 156 84 [v0, v1, v2, v3, v4, v5, v6] [vL (I 75 x0)] I else none := st_lald (ins_of mI_156 (by rfl)) cT_75 (wdc wid_156 wd_75)
theorem r156_84 : runs cal 156 84 [v0, v1, v2, v3, v4, v5, vI w] [vL x0] I = runs cal 156 86 [v0, v1, v2, v3, v4, v5, vI w] [vI w, vL x0] I := runs_to (ins_of mI_156 (by rfl)) rfl rfl
theorem r156_86 : runs cal 156 86 [v0, v1, v2, v3, v4, v5, v6] [vI x0, vL x1] I = runs cal 156 87 [v0, v1, v2, v3, v4, v5, v6] [vL (lshr x1 x0)] I := runs_to (ins_of mI_156 (by rfl)) rfl rfl
theorem r156_87 : runs cal 156 87 [v0, v1, v2, v3, v4, v5, v6] [vL x0] I = runs cal 156 88 [v0, v1, v2, v3, v4, v5, v6] [vL 1, vL x0] I := runs_to (ins_of mI_156 (by rfl)) rfl rfl
theorem r156_88 : runs cal 156 88 [v0, v1, v2, v3, v4, v5, v6] [vL x0, vL x1] I = runs cal 156 89 [v0, v1, v2, v3, v4, v5, v6] [vL (land x1 x0)] I := runs_to (ins_of mI_156 (by rfl)) rfl rfl
theorem r156_89 : runs cal 156 89 [v0, v1, v2, v3, v4, v5, v6] [vL x0] I = runs cal 156 90 [v0, v1, v2, v3, v4, v5, v6] [vL 1, vL x0] I := runs_to (ins_of mI_156 (by rfl)) rfl rfl
theorem r156_90 : runs cal 156 90 [v0, v1, v2, v3, v4, v5, v6] [vL x0, vL x1] I = if x1 = x0 then runs cal 156 94 [v0, v1, v2, v3, v4, v5, v6] [] I else runs cal 156 98 [v0, v1, v2, v3, v4, v5, v6] [] I := st_lc_ne (ins_of mI_156 (by rfl)) (ins_of mI_156 (by rfl)) (by decide)
theorem r156_91 : runs cal 156 91 [v0, v1, v2, v3, v4, v5, v6] [vI x0] I = if x0 = 0 then runs cal 156 94 [v0, v1, v2, v3, v4, v5, v6] [] I else runs cal 156 98 [v0, v1, v2, v3, v4, v5, v6] [] I := st_if_ne (ins_of mI_156 (by rfl)) (by decide)
theorem r156_94 : runs cal 156 94 [vR 70, v1, v2, v3, v4, v5, v6] [] I = runs cal 156 95 [vR 70, v1, v2, v3, v4, v5, v6] [vR 70] I := runs_to (ins_of mI_156 (by rfl)) rfl rfl
theorem r156_95 : runs cal 156 95 [v0, v1, v2, v3, v4, v5, v6] [vR 70] I = (cal 157 [vR 70] I).bind (fun q => runs cal 156 98 [v0, v1, v2, v3, v4, v5, v6] (pushR q.1 []) q.2) := st_call (st := false) (ins_of mI_156 (by rfl)) mC_156 mr_11_100 (by decide) mS_157 mN_157 rfl (Nat.le_of_ble_eq_true rfl) rfl rfl (Or.inr ⟨_, _, rfl, rcv mC_157 rfl wid_156 (by decide +kernel)⟩) (Or.inl (wid_156.trans wid_157.symm))
theorem r156_98 : runs cal 156 98 [v0, v1, v2, v3, v4, v5, v6] [] I = runs cal 156 101 [v0, v1, v2, v3, v4, v5, v6] [vL (2)] I := runs_to (ins_of mI_156 (by rfl)) rfl (by simp only [stepI, ldk2, mC_156]; rfl)
theorem r156_101 : runs cal 156 101 [v0, v1, v2, v3, vL w, v5, v6] [vL x0] I = runs cal 156 103 [v0, v1, v2, v3, vL w, v5, v6] [vL w, vL x0] I := runs_to (ins_of mI_156 (by rfl)) rfl rfl
theorem r156_103 : runs cal 156 103 [v0, v1, v2, v3, v4, v5, v6] [vL x0, vL x1] I = runs cal 156 104 [v0, v1, v2, v3, v4, v5, v6] [vL (lmul x1 x0)] I := runs_to (ins_of mI_156 (by rfl)) rfl rfl
theorem r156_104 : runs cal 156 104 [v0, v1, v2, vI u, v4, v5, v6] [vL x0] I = runs cal 156 106 [v0, v1, v2, vI u, vL x0, vR 0, v6] [] I := runs_to (ins_of mI_156 (by rfl)) rfl rfl
theorem r156_106 : runs cal 156 106 [vR 70, v1, v2, v3, v4, v5, v6] [] I = runs cal 156 107 [vR 70, v1, v2, v3, v4, v5, v6] [vR 70] I := runs_to (ins_of mI_156 (by rfl)) rfl rfl
theorem r156_107 : runs cal 156 107 [v0, v1, v2, v3, v4, v5, v6] [vR 70] I = runs cal 156 108 [v0, v1, v2, v3, v4, v5, v6] [vI (5), vR 70] I := runs_to (ins_of mI_156 (by rfl)) rfl rfl
theorem r156_108 : runs cal 156 108 [v0, v1, v2, v3, v4, v5, v6] [vI x0, vR 70] I = runs cal 156 109 [v0, v1, v2, v3, v4, v5, v6] [vI (4), vI x0, vR 70] I := runs_to (ins_of mI_156 (by rfl)) rfl rfl
theorem r156_109 : runs cal 156 109 [v0, v1, v2, v3, v4, v5, v6] [vI x0, vI x1, vR 70] I = (cal 150 [vR 70, vI x1, vI x0] I).bind (fun q => runs cal 156 112 [v0, v1, v2, v3, v4, v5, v6] (pushR q.1 []) q.2) := st_call (st := false) (ins_of mI_156 (by rfl)) mC_156 mr_11_90 (by decide) mS_150 mN_150 rfl (Nat.le_of_ble_eq_true rfl) rfl rfl (Or.inr ⟨_, _, rfl, rcv mC_150 rfl wid_156 (by decide +kernel)⟩) (Or.inl (wid_156.trans wid_150.symm))
theorem r156_112 : runs cal 156 112 [v0, v1, v2, v3, v4, v5, v6] [vI x0] I = if x0 < 0 then runs cal 156 127 [v0, v1, v2, v3, v4, v5, v6] [] I else runs cal 156 115 [v0, v1, v2, v3, v4, v5, v6] [] I := st_if_lt (ins_of mI_156 (by rfl)) (by decide)
theorem r156_115 : runs cal 156 115 [vR 70, v1, v2, v3, v4, v5, v6] [] I = runs cal 156 116 [vR 70, v1, v2, v3, v4, v5, v6] [vR 70] I := runs_to (ins_of mI_156 (by rfl)) rfl rfl
theorem r156_116 : runs cal 156 116 [v0, v1, v2, v3, v4, v5, v6] [vR 70] I = runs cal 156 117 [v0, v1, v2, v3, v4, v5, v6] [vI (5), vR 70] I := runs_to (ins_of mI_156 (by rfl)) rfl rfl
theorem r156_117 : runs cal 156 117 [v0, v1, v2, v3, v4, v5, v6] [vI x0, vR 70] I = runs cal 156 118 [v0, v1, v2, v3, v4, v5, v6] [vI (4), vI x0, vR 70] I := runs_to (ins_of mI_156 (by rfl)) rfl rfl
theorem r156_118 : runs cal 156 118 [v0, v1, v2, v3, v4, v5, v6] [vI x0, vI x1, vR 70] I = (cal 152 [vR 70, vI x1, vI x0] I).bind (fun q => runs cal 156 121 [v0, v1, v2, v3, v4, v5, v6] (pushR q.1 []) q.2) := st_call (st := false) (ins_of mI_156 (by rfl)) mC_156 mr_11_94 (by decide) mS_152 mN_152 rfl (Nat.le_of_ble_eq_true rfl) rfl rfl (Or.inr ⟨_, _, rfl, rcv mC_152 rfl wid_156 (by decide +kernel)⟩) (Or.inl (wid_156.trans wid_152.symm))
theorem r156_121 : runs cal 156 121 [v0, v1, v2, v3, vL w, v5, v6] [] I = runs cal 156 123 [v0, v1, v2, v3, vL w, v5, v6] [vL w] I := runs_to (ins_of mI_156 (by rfl)) rfl rfl
theorem r156_123 : runs cal 156 123 [v0, v1, v2, v3, v4, v5, v6] [vL x0] I = runs cal 156 124 [v0, v1, v2, v3, v4, v5, v6] [vL 1, vL x0] I := runs_to (ins_of mI_156 (by rfl)) rfl rfl
theorem r156_124 : runs cal 156 124 [v0, v1, v2, v3, v4, v5, v6] [vL x0, vL x1] I = runs cal 156 125 [v0, v1, v2, v3, v4, v5, v6] [vL (ladd x1 x0)] I := runs_to (ins_of mI_156 (by rfl)) rfl rfl
theorem r156_125 : runs cal 156 125 [v0, v1, v2, vI u, v4, v5, v6] [vL x0] I = runs cal 156 127 [v0, v1, v2, vI u, vL x0, vR 0, v6] [] I := runs_to (ins_of mI_156 (by rfl)) rfl rfl
theorem r156_127 : runs cal 156 127 [v0, v1, v2, v3, v4, v5, vI w] [] I = runs cal 156 130 [v0, v1, v2, v3, v4, kill v5, vI (iadd w (-1))] [] I := runs_to (ins_of mI_156 (by rfl)) rfl rfl
theorem r156_130 : runs cal 156 130 [v0, v1, v2, v3, v4, v5, v6] [] I = runs cal 156 61 [v0, v1, v2, v3, v4, v5, v6] [] I := st_goto (ins_of mI_156 (by rfl)) (by decide)
theorem r156_133 : runs cal 156 133 [vR 70, v1, v2, v3, v4, v5, v6] [] I = runs cal 156 134 [vR 70, v1, v2, v3, v4, v5, v6] [vR 70] I := runs_to (ins_of mI_156 (by rfl)) rfl rfl
theorem r156_134 : runs cal 156 134 [v0, v1, v2, v3, v4, v5, v6] [vR 70] I = runs cal 156 137 [v0, v1, v2, v3, v4, v5, v6] [vR 75] I := st_getR (ins_of mI_156 (by rfl)) mC_156 (by decide) fr_11_23 cT_70 (wdc wid_156 wd_70) rfl rfl
theorem r156_137 : runs cal 156 137 [v0, v1, v2, v3, v4, v5, v6] [vR 75] I = runs cal 156 139 [v0, v1, v2, v3, v4, v5, v6] [vI (64), vR 75] I := runs_to (ins_of mI_156 (by rfl)) rfl rfl
theorem r156_139 : runs cal 156 139 [v0, vI w, v2, v3, v4, v5, v6] [vI x0, vR 75] I = runs cal 156 140 [v0, vI w, v2, v3, v4, v5, v6] [vI w, vI x0, vR 75] I := runs_to (ins_of mI_156 (by rfl)) rfl rfl
theorem r156_140 : runs cal 156 140 [v0, v1, v2, v3, v4, v5, v6] [vI x0, vI x1, vR 75] I = runs cal 156 141 [v0, v1, v2, v3, v4, v5, v6] [vI (imul x1 x0), vR 75] I := runs_to (ins_of mI_156 (by rfl)) rfl rfl
theorem r156_141 : runs cal 156 141 [v0, v1, v2, vI w, v4, v5, v6] [vI x0, vR 75] I = runs cal 156 142 [v0, v1, v2, vI w, v4, v5, v6] [vI w, vI x0, vR 75] I := runs_to (ins_of mI_156 (by rfl)) rfl rfl
theorem r156_142 : runs cal 156 142 [v0, v1, v2, v3, v4, v5, v6] [vI x0, vI x1, vR 75] I = runs cal 156 143 [v0, v1, v2, v3, v4, v5, v6] [vI (iadd x1 x0), vR 75] I := runs_to (ins_of mI_156 (by rfl)) rfl rfl
theorem r156_143 : runs cal 156 143 [v0, v1, v2, v3, vL w, v5, v6] [vI x0, vR 75] I = runs cal 156 145 [v0, v1, v2, v3, vL w, v5, v6] [vL w, vI x0, vR 75] I := runs_to (ins_of mI_156 (by rfl)) rfl rfl
theorem r156_145 : runs cal 156 145 [v0, v1, v2, v3, v4, v5, v6] [vL x0, vI x1, vR 75] I = if 0 ≤ x1 ∧ x1 < 512 then runs cal 156 146 [v0, v1, v2, v3, v4, v5, v6] [] (mset I 75 x1 x0) else none := st_last (ins_of mI_156 (by rfl)) cT_75 (wdc wid_156 wd_75)
theorem r156_146 : runs cal 156 146 [v0, v1, vI u, vI w, v4, v5, v6] [] I = runs cal 156 149 [v0, v1, vI u, vI (iadd w (-1)), v4, v5, v6] [] I := runs_to (ins_of mI_156 (by rfl)) rfl rfl
theorem r156_149 : runs cal 156 149 [v0, v1, v2, v3, v4, v5, v6] [] I = runs cal 156 50 [v0, v1, v2, v3, v4, v5, v6] [] I := st_goto (ins_of mI_156 (by rfl)) (by decide)
theorem r156_152 : runs cal 156 152 [vR 70, v1, v2, v3, v4, v5, v6] [] I = runs cal 156 153 [vR 70, v1, v2, v3, v4, v5, v6] [vR 70] I := runs_to (ins_of mI_156 (by rfl)) rfl rfl
theorem r156_153 : runs cal 156 153 [v0, vI w, v2, v3, v4, v5, v6] [vR 70] I = runs cal 156 154 [v0, vI w, v2, v3, v4, v5, v6] [vI w, vR 70] I := runs_to (ins_of mI_156 (by rfl)) rfl rfl
theorem r156_154 : runs cal 156 154 [v0, v1, v2, v3, v4, v5, v6] [vI x0, vR 70] I = (cal 148 [vR 70, vI x0] I).bind (fun q => runs cal 156 157 [v0, v1, v2, v3, v4, v5, v6] (pushR q.1 []) q.2) := st_call (st := false) (ins_of mI_156 (by rfl)) mC_156 mr_11_73 (by decide) mS_148 mN_148 rfl (Nat.le_of_ble_eq_true rfl) rfl rfl (Or.inr ⟨_, _, rfl, rcv mC_148 rfl wid_156 (by decide +kernel)⟩) (Or.inl (wid_156.trans wid_148.symm))
theorem r156_157 : runs cal 156 157 [v0, v1, v2, v3, v4, v5, v6] [] I = some (none, I) := st_ret (q := none) (k := 3) (ins_of mI_156 (by rfl)) rfl (by decide) mR_156 rfl trivial
theorem r157_0 : runs cal 157 0 [vR 70] [] I = runs cal 157 1 [vR 70] [vR 70] I := runs_to (ins_of mI_157 (by rfl)) rfl rfl
theorem r157_1 : runs cal 157 1 [v0] [vR 70] I = runs cal 157 4 [v0] [vR 76] I := st_getR (ins_of mI_157 (by rfl)) mC_157 (by decide) fr_11_27 cT_70 (wdc wid_157 wd_70) rfl rfl
theorem r157_4 : runs cal 157 4 [v0] [vR 76] I = runs cal 157 5 [v0] [vI (5), vR 76] I := runs_to (ins_of mI_157 (by rfl)) rfl rfl
theorem r157_5 : runs cal 157 5 [v0] [vI x0, vR 76] I = if 0 ≤ x0 ∧ x0 < 8 then runs cal 157 6 [v0] [vI (I 76 x0)] I else none := st_iald (ins_of mI_157 (by rfl)) cT_76 (wdc wid_157 wd_76)
theorem r157_6 : runs cal 157 6 [v0] [vI x0] I = if x0 = 0 then runs cal 157 9 [v0] [] I else runs cal 157 18 [v0] [] I := st_if_ne (ins_of mI_157 (by rfl)) (by decide)
theorem r157_9 : runs cal 157 9 [vR 70] [] I = runs cal 157 10 [vR 70] [vR 70] I := runs_to (ins_of mI_157 (by rfl)) rfl rfl
theorem r157_10 : runs cal 157 10 [v0] [vR 70] I = runs cal 157 11 [v0] [vI (5), vR 70] I := runs_to (ins_of mI_157 (by rfl)) rfl rfl
theorem r157_11 : runs cal 157 11 [v0] [vI x0, vR 70] I = runs cal 157 12 [v0] [vL 1, vI x0, vR 70] I := runs_to (ins_of mI_157 (by rfl)) rfl rfl
theorem r157_12 : runs cal 157 12 [v0] [vL x0, vI x1, vR 70] I = (cal 146 [vR 70, vI x1, vL x0] I).bind (fun q => runs cal 157 15 [v0] (pushR q.1 []) q.2) := st_call (st := false) (ins_of mI_157 (by rfl)) mC_157 mr_11_67 (by decide) mS_146 mN_146 rfl (Nat.le_of_ble_eq_true rfl) rfl rfl (Or.inr ⟨_, _, rfl, rcv mC_146 rfl wid_157 (by decide +kernel)⟩) (Or.inl (wid_157.trans wid_146.symm))
theorem r157_15 : runs cal 157 15 [v0] [] I = runs cal 157 30 [v0] [] I := st_goto (ins_of mI_157 (by rfl)) (by decide)
theorem r157_18 : runs cal 157 18 [vR 70] [] I = runs cal 157 19 [vR 70] [vR 70] I := runs_to (ins_of mI_157 (by rfl)) rfl rfl
theorem r157_19 : runs cal 157 19 [v0] [vR 70] I = runs cal 157 22 [v0] [vR 75] I := st_getR (ins_of mI_157 (by rfl)) mC_157 (by decide) fr_11_23 cT_70 (wdc wid_157 wd_70) rfl rfl
theorem r157_22 : runs cal 157 22 [v0] [vR 75] I = runs cal 157 25 [v0] [vI (320), vR 75] I := runs_to (ins_of mI_157 (by rfl)) rfl rfl
theorem r157_25 : runs cal 157 25 [v0] [vI x0, vR 75] I = runs cal 157 26 [v0] [vI x0, vR 75, vI x0, vR 75] I := runs_to (ins_of mI_157 (by rfl)) rfl rfl
theorem r157_26 : runs cal 157 26 [v0] [vI x0, vR 75, vI x2, vR 75] I = if 0 ≤ x0 ∧ x0 < 512 then runs cal 157 27 [v0] [vL (I 75 x0), vI x2, vR 75] I else none := st_lald (ins_of mI_157 (by rfl)) cT_75 (wdc wid_157 wd_75)
theorem r157_27 : runs cal 157 27 [v0] [vL x0, vI x1, vR 75] I = runs cal 157 28 [v0] [vL 1, vL x0, vI x1, vR 75] I := runs_to (ins_of mI_157 (by rfl)) rfl rfl
theorem r157_28 : runs cal 157 28 [v0] [vL x0, vL x1, vI x2, vR 75] I = runs cal 157 29 [v0] [vL (ladd x1 x0), vI x2, vR 75] I := runs_to (ins_of mI_157 (by rfl)) rfl rfl
theorem r157_29 : runs cal 157 29 [v0] [vL x0, vI x1, vR 75] I = if 0 ≤ x1 ∧ x1 < 512 then runs cal 157 30 [v0] [] (mset I 75 x1 x0) else none := st_last (ins_of mI_157 (by rfl)) cT_75 (wdc wid_157 wd_75)
theorem r157_30 : runs cal 157 30 [v0] [] I = some (none, I) := st_ret (q := none) (k := 3) (ins_of mI_157 (by rfl)) rfl (by decide) mR_157 rfl trivial
theorem r158_0 : runs cal 158 0 [vR 70, v1, v2, v3] [] I = runs cal 158 1 [vR 70, v1, v2, v3] [vR 70] I := runs_to (ins_of mI_158 (by rfl)) rfl rfl
theorem r158_1 : runs cal 158 1 [v0, v1, v2, v3] [vR 70] I = runs cal 158 4 [v0, v1, v2, v3] [vR 76] I := st_getR (ins_of mI_158 (by rfl)) mC_158 (by decide) fr_11_27 cT_70 (wdc wid_158 wd_70) rfl rfl
theorem r158_4 : runs cal 158 4 [v0, vI w, v2, v3] [vR 76] I = runs cal 158 5 [v0, vI w, v2, v3] [vI w, vR 76] I := runs_to (ins_of mI_158 (by rfl)) rfl rfl
theorem r158_5 : runs cal 158 5 [v0, v1, v2, v3] [vI x0, vR 76] I = if 0 ≤ x0 ∧ x0 < 8 then runs cal 158 6 [v0, v1, v2, v3] [vI (I 76 x0)] I else none := st_iald (ins_of mI_158 (by rfl)) cT_76 (wdc wid_158 wd_76)
theorem r158_6 : runs cal 158 6 [v0, v1, v2, v3] [vI x0] I = if x0 = 0 then runs cal 158 9 [v0, v1, v2, v3] [] I else runs cal 158 27 [v0, v1, v2, v3] [] I := st_if_ne (ins_of mI_158 (by rfl)) (by decide)
theorem r158_9 : runs cal 158 9 [vR 70, v1, v2, v3] [] I = runs cal 158 10 [vR 70, v1, v2, v3] [vR 70] I := runs_to (ins_of mI_158 (by rfl)) rfl rfl
theorem r158_10 : runs cal 158 10 [v0, v1, v2, v3] [vR 70] I = runs cal 158 11 [v0, v1, v2, v3] [vI (0), vR 70] I := runs_to (ins_of mI_158 (by rfl)) rfl rfl
theorem r158_11 : runs cal 158 11 [v0, v1, v2, v3] [vI x0, vR 70] I = runs cal 158 12 [v0, v1, v2, v3] [vL 0, vI x0, vR 70] I := runs_to (ins_of mI_158 (by rfl)) rfl rfl
theorem r158_12 : runs cal 158 12 [v0, v1, v2, v3] [vL x0, vI x1, vR 70] I = (cal 146 [vR 70, vI x1, vL x0] I).bind (fun q => runs cal 158 15 [v0, v1, v2, v3] (pushR q.1 []) q.2) := st_call (st := false) (ins_of mI_158 (by rfl)) mC_158 mr_11_67 (by decide) mS_146 mN_146 rfl (Nat.le_of_ble_eq_true rfl) rfl rfl (Or.inr ⟨_, _, rfl, rcv mC_146 rfl wid_158 (by decide +kernel)⟩) (Or.inl (wid_158.trans wid_146.symm))
theorem r158_15 : runs cal 158 15 [vR 70, v1, v2, v3] [] I = runs cal 158 16 [vR 70, v1, v2, v3] [vR 70] I := runs_to (ins_of mI_158 (by rfl)) rfl rfl
theorem r158_16 : runs cal 158 16 [v0, v1, v2, v3] [vR 70] I = runs cal 158 17 [v0, v1, v2, v3] [vI (1), vR 70] I := runs_to (ins_of mI_158 (by rfl)) rfl rfl
theorem r158_17 : runs cal 158 17 [v0, v1, v2, v3] [vI x0, vR 70] I = runs cal 158 18 [v0, v1, v2, v3] [vL 1, vI x0, vR 70] I := runs_to (ins_of mI_158 (by rfl)) rfl rfl
theorem r158_18 : runs cal 158 18 [v0, v1, v2, v3] [vL x0, vI x1, vR 70] I = (cal 146 [vR 70, vI x1, vL x0] I).bind (fun q => runs cal 158 21 [v0, v1, v2, v3] (pushR q.1 []) q.2) := st_call (st := false) (ins_of mI_158 (by rfl)) mC_158 mr_11_67 (by decide) mS_146 mN_146 rfl (Nat.le_of_ble_eq_true rfl) rfl rfl (Or.inr ⟨_, _, rfl, rcv mC_146 rfl wid_158 (by decide +kernel)⟩) (Or.inl (wid_158.trans wid_146.symm))
theorem r158_21 : runs cal 158 21 [vR 70, v1, v2, v3] [] I = runs cal 158 22 [vR 70, v1, v2, v3] [vR 70] I := runs_to (ins_of mI_158 (by rfl)) rfl rfl
theorem r158_22 : runs cal 158 22 [v0, v1, v2, v3] [vR 70] I = runs cal 158 23 [v0, v1, v2, v3] [vI (0), vR 70] I := runs_to (ins_of mI_158 (by rfl)) rfl rfl
theorem r158_23 : runs cal 158 23 [v0, v1, v2, v3] [vI x0, vR 70] I = runs cal 158 26 [v0, v1, v2, v3] [] (mset I 70 6 x0) := st_putI (ins_of mI_158 (by rfl)) mC_158 fr_11_103 cT_70 (wdc wid_158 wd_70) rfl
theorem r158_26 : runs cal 158 26 [v0, v1, v2, v3] [] I = some (none, I) := st_ret (q := none) (k := 3) (ins_of mI_158 (by rfl)) rfl (by decide) mR_158 rfl trivial
theorem r158_27 : runs cal 158 27 [vR 70, v1, v2, v3] [] I = runs cal 158 28 [vR 70, v1, v2, v3] [vR 70] I := runs_to (ins_of mI_158 (by rfl)) rfl rfl
theorem r158_28 : runs cal 158 28 [v0, vI w, v2, v3] [vR 70] I = runs cal 158 29 [v0, vI w, v2, v3] [vI w, vR 70] I := runs_to (ins_of mI_158 (by rfl)) rfl rfl
theorem r158_29 : runs cal 158 29 [v0, v1, vI w, v3] [vI x0, vR 70] I = runs cal 158 30 [v0, v1, vI w, v3] [vI w, vI x0, vR 70] I := runs_to (ins_of mI_158 (by rfl)) rfl rfl
theorem r158_30 : runs cal 158 30 [v0, v1, v2, v3] [vI x0, vI x1, vR 70] I = (cal 155 [vR 70, vI x1, vI x0] I).bind (fun q => runs cal 158 33 [v0, v1, v2, v3] (pushR q.1 []) q.2) := st_call (st := false) (ins_of mI_158 (by rfl)) mC_158 mr_11_107 (by decide) mS_155 mN_155 rfl (Nat.le_of_ble_eq_true rfl) rfl rfl (Or.inr ⟨_, _, rfl, rcv mC_155 rfl wid_158 (by decide +kernel)⟩) (Or.inl (wid_158.trans wid_155.symm))
theorem r158_33 : runs cal 158 33 [vR 70, v1, v2, v3] [] I = runs cal 158 34 [vR 70, v1, v2, v3] [vR 70] I := runs_to (ins_of mI_158 (by rfl)) rfl rfl
theorem r158_34 : runs cal 158 34 [v0, v1, v2, v3] [vR 70] I = runs cal 158 35 [v0, v1, v2, v3] [vI (0), vR 70] I := runs_to (ins_of mI_158 (by rfl)) rfl rfl
theorem r158_35 : runs cal 158 35 [v0, vI w, v2, v3] [vI x0, vR 70] I = runs cal 158 36 [v0, vI w, v2, v3] [vI w, vI x0, vR 70] I := runs_to (ins_of mI_158 (by rfl)) rfl rfl
theorem r158_36 : runs cal 158 36 [v0, v1, v2, v3] [vI x0, vI x1, vR 70] I = (cal 147 [vR 70, vI x1, vI x0] I).bind (fun q => runs cal 158 39 [v0, v1, v2, v3] (pushR q.1 []) q.2) := st_call (st := false) (ins_of mI_158 (by rfl)) mC_158 mr_11_79 (by decide) mS_147 mN_147 rfl (Nat.le_of_ble_eq_true rfl) rfl rfl (Or.inr ⟨_, _, rfl, rcv mC_147 rfl wid_158 (by decide +kernel)⟩) (Or.inl (wid_158.trans wid_147.symm))
theorem r158_39 : runs cal 158 39 [vR 70, v1, v2, v3] [] I = runs cal 158 40 [vR 70, v1, v2, v3] [vR 70] I := runs_to (ins_of mI_158 (by rfl)) rfl rfl
theorem r158_40 : runs cal 158 40 [v0, v1, v2, v3] [vR 70] I = runs cal 158 41 [v0, v1, v2, v3] [vI (0), vR 70] I := runs_to (ins_of mI_158 (by rfl)) rfl rfl
theorem r158_41 : runs cal 158 41 [v0, v1, v2, v3] [vI x0, vR 70] I = (cal 156 [vR 70, vI x0] I).bind (fun q => runs cal 158 44 [v0, v1, v2, v3] (pushR q.1 []) q.2) := st_call (st := false) (ins_of mI_158 (by rfl)) mC_158 mr_11_110 (by decide) mS_156 mN_156 rfl (Nat.le_of_ble_eq_true rfl) rfl rfl (Or.inr ⟨_, _, rfl, rcv mC_156 rfl wid_158 (by decide +kernel)⟩) (Or.inl (wid_158.trans wid_156.symm))
theorem r158_44 : runs cal 158 44 [vR 70, v1, v2, v3] [] I = runs cal 158 45 [vR 70, v1, v2, v3] [vR 70] I := runs_to (ins_of mI_158 (by rfl)) rfl rfl
theorem r158_45 : runs cal 158 45 [v0, v1, v2, v3] [vR 70] I = runs cal 158 46 [v0, v1, v2, v3] [vI (1), vR 70] I := runs_to (ins_of mI_158 (by rfl)) rfl rfl
theorem r158_46 : runs cal 158 46 [v0, v1, vI w, v3] [vI x0, vR 70] I = runs cal 158 47 [v0, v1, vI w, v3] [vI w, vI x0, vR 70] I := runs_to (ins_of mI_158 (by rfl)) rfl rfl
theorem r158_47 : runs cal 158 47 [v0, v1, v2, v3] [vI x0, vI x1, vR 70] I = (cal 147 [vR 70, vI x1, vI x0] I).bind (fun q => runs cal 158 50 [v0, v1, v2, v3] (pushR q.1 []) q.2) := st_call (st := false) (ins_of mI_158 (by rfl)) mC_158 mr_11_79 (by decide) mS_147 mN_147 rfl (Nat.le_of_ble_eq_true rfl) rfl rfl (Or.inr ⟨_, _, rfl, rcv mC_147 rfl wid_158 (by decide +kernel)⟩) (Or.inl (wid_158.trans wid_147.symm))
theorem r158_50 : runs cal 158 50 [vR 70, v1, v2, v3] [] I = runs cal 158 51 [vR 70, v1, v2, v3] [vR 70] I := runs_to (ins_of mI_158 (by rfl)) rfl rfl
theorem r158_51 : runs cal 158 51 [v0, v1, v2, v3] [vR 70] I = runs cal 158 52 [v0, v1, v2, v3] [vI (1), vR 70] I := runs_to (ins_of mI_158 (by rfl)) rfl rfl
theorem r158_52 : runs cal 158 52 [v0, v1, v2, v3] [vI x0, vR 70] I = (cal 156 [vR 70, vI x0] I).bind (fun q => runs cal 158 55 [v0, v1, v2, v3] (pushR q.1 []) q.2) := st_call (st := false) (ins_of mI_158 (by rfl)) mC_158 mr_11_110 (by decide) mS_156 mN_156 rfl (Nat.le_of_ble_eq_true rfl) rfl rfl (Or.inr ⟨_, _, rfl, rcv mC_156 rfl wid_158 (by decide +kernel)⟩) (Or.inl (wid_158.trans wid_156.symm))
theorem r158_55 : runs cal 158 55 [vR 70, v1, v2, v3] [] I = runs cal 158 56 [vR 70, v1, v2, v3] [vR 70] I := runs_to (ins_of mI_158 (by rfl)) rfl rfl
theorem r158_56 : runs cal 158 56 [v0, v1, v2, vI w] [vR 70] I = runs cal 158 57 [v0, v1, v2, vI w] [vI w, vR 70] I := runs_to (ins_of mI_158 (by rfl)) rfl rfl
theorem r158_57 : runs cal 158 57 [v0, v1, v2, v3] [vI x0, vR 70] I = if x0 = 0 then runs cal 158 64 [v0, v1, v2, v3] [vR 70] I else runs cal 158 60 [v0, v1, v2, v3] [vR 70] I := st_if_eq (ins_of mI_158 (by rfl)) (by decide)
theorem r158_60 : runs cal 158 60 [v0, v1, v2, v3] [vR 70] I = runs cal 158 61 [v0, v1, v2, v3] [vI (-1), vR 70] I := runs_to (ins_of mI_158 (by rfl)) rfl rfl
theorem r158_61 : runs cal 158 61 [v0, v1, v2, v3] [vI x0, vR 70] I = runs cal 158 65 [v0, v1, v2, v3] [vI x0, vR 70] I := st_goto (ins_of mI_158 (by rfl)) (by decide)
theorem r158_64 : runs cal 158 64 [v0, v1, v2, v3] [vR 70] I = runs cal 158 65 [v0, v1, v2, v3] [vI (1), vR 70] I := runs_to (ins_of mI_158 (by rfl)) rfl rfl
theorem r158_65 : runs cal 158 65 [v0, v1, v2, v3] [vI x0, vR 70] I = runs cal 158 68 [v0, v1, v2, v3] [] (mset I 70 6 x0) := st_putI (ins_of mI_158 (by rfl)) mC_158 fr_11_103 cT_70 (wdc wid_158 wd_70) rfl
theorem r158_68 : runs cal 158 68 [v0, v1, v2, v3] [] I = some (none, I) := st_ret (q := none) (k := 3) (ins_of mI_158 (by rfl)) rfl (by decide) mR_158 rfl trivial
theorem r159_0 : runs cal 159 0 [vR 70] [] I = runs cal 159 1 [vR 70] [vR 70] I := runs_to (ins_of mI_159 (by rfl)) rfl rfl
theorem r159_1 : runs cal 159 1 [v0] [vR 70] I = runs cal 159 4 [v0] [vR 71] I := st_getR (ins_of mI_159 (by rfl)) mC_159 (by decide) fr_11_7 cT_70 (wdc wid_159 wd_70) rfl rfl
theorem r159_4 : runs cal 159 4 [v0] [vR 71] I = runs cal 159 6 [v0] [vI (67), vR 71] I := runs_to (ins_of mI_159 (by rfl)) rfl rfl
theorem r159_6 : runs cal 159 6 [v0] [vI x0, vR 71] I = if 0 ≤ x0 ∧ x0 < 110 then runs cal 159 7 [v0] [vI (I 71 x0)] I else none := st_iald (ins_of mI_159 (by rfl)) cT_71 (wdc wid_159 wd_71)
theorem r159_7 : runs cal 159 7 [v0] [vI x0] I = some (some (vI x0), I) := st_ret (q := some (vI x0)) (k := 0) (ins_of mI_159 (by rfl)) rfl (by decide) mR_159 rfl trivial
theorem r160_0 : runs cal 160 0 [vR 70] [] I = runs cal 160 1 [vR 70] [vR 70] I := runs_to (ins_of mI_160 (by rfl)) rfl rfl
theorem r160_1 : runs cal 160 1 [v0] [vR 70] I = runs cal 160 4 [v0] [vR 71] I := st_getR (ins_of mI_160 (by rfl)) mC_160 (by decide) fr_11_7 cT_70 (wdc wid_160 wd_70) rfl rfl
theorem r160_4 : runs cal 160 4 [v0] [vR 71] I = runs cal 160 6 [v0] [vI (68), vR 71] I := runs_to (ins_of mI_160 (by rfl)) rfl rfl
theorem r160_6 : runs cal 160 6 [v0] [vI x0, vR 71] I = if 0 ≤ x0 ∧ x0 < 110 then runs cal 160 7 [v0] [vI (I 71 x0)] I else none := st_iald (ins_of mI_160 (by rfl)) cT_71 (wdc wid_160 wd_71)
theorem r160_7 : runs cal 160 7 [v0] [vI x0] I = some (some (vI x0), I) := st_ret (q := some (vI x0)) (k := 0) (ins_of mI_160 (by rfl)) rfl (by decide) mR_160 rfl trivial
theorem r161_0 : runs cal 161 0 [v0, vI w] [] I = runs cal 161 1 [v0, vI w] [vI w] I := runs_to (ins_of mI_161 (by rfl)) rfl rfl
theorem r161_1 : runs cal 161 1 [v0, v1] [vI x0] I = runs cal 161 2 [v0, v1] [vL x0] I := runs_to (ins_of mI_161 (by rfl)) rfl rfl
theorem r161_2 : runs cal 161 2 [v0, v1] [vL x0] I = runs cal 161 3 [v0, v1] [vL 0, vL x0] I := runs_to (ins_of mI_161 (by rfl)) rfl rfl
theorem r161_3 : runs cal 161 3 [vR 70, v1] [vL x0, vL x1] I = runs cal 161 4 [vR 70, v1] [vR 70, vL x0, vL x1] I := runs_to (ins_of mI_161 (by rfl)) rfl rfl
theorem r161_4 : runs cal 161 4 [v0, v1] [vR 70, vL x1, vL x2] I = (cal 159 [vR 70] I).bind (fun q => runs cal 161 7 [v0, v1] (pushR q.1 [vL x1, vL x2]) q.2) := st_call (st := false) (ins_of mI_161 (by rfl)) mC_161 mr_11_117 (by decide) mS_159 mN_159 rfl (Nat.le_of_ble_eq_true rfl) rfl rfl (Or.inr ⟨_, _, rfl, rcv mC_159 rfl wid_161 (by decide +kernel)⟩) (Or.inl (wid_161.trans wid_159.symm))
theorem r161_7 : runs cal 161 7 [v0, v1] [vI x0, vL x1, vL x2] I = runs cal 161 8 [v0, v1] [vI (1), vI x0, vL x1, vL x2] I := runs_to (ins_of mI_161 (by rfl)) rfl rfl
theorem r161_8 : runs cal 161 8 [v0, v1] [vI x0, vI x1, vL x2, vL x3] I = runs cal 161 9 [v0, v1] [vI (isub x1 x0), vL x2, vL x3] I := runs_to (ins_of mI_161 (by rfl)) rfl rfl
theorem r161_9 : runs cal 161 9 [v0, v1] [vI x0, vL x1, vL x2] I = runs cal 161 10 [v0, v1] [vL x0, vL x1, vL x2] I := runs_to (ins_of mI_161 (by rfl)) rfl rfl
theorem r161_10 : runs cal 161 10 [v0, v1] [vL x0, vL x1, vL x2] I = (cal 142 [vL x2, vL x1, vL x0] I).bind (fun q => runs cal 161 13 [v0, v1] (pushR q.1 []) q.2) := st_call (st := true) (ins_of mI_161 (by rfl)) mC_161 mr_11_121 (by decide) mS_142 mN_142 rfl (Nat.le_of_ble_eq_true rfl) rfl rfl (Or.inl rfl) (Or.inl (wid_161.trans wid_142.symm))
theorem r161_13 : runs cal 161 13 [v0, v1] [vI x0] I = if x0 = 0 ∨ x0 = 1 then some (some (vI x0), I) else none := st_retZ (ins_of mI_161 (by rfl)) mR_161 (Or.inl rfl)
theorem r162_0 : runs cal 162 0 [v0, vI w] [] I = runs cal 162 1 [v0, vI w] [vI w] I := runs_to (ins_of mI_162 (by rfl)) rfl rfl
theorem r162_1 : runs cal 162 1 [v0, v1] [vI x0] I = runs cal 162 2 [v0, v1] [vL x0] I := runs_to (ins_of mI_162 (by rfl)) rfl rfl
theorem r162_2 : runs cal 162 2 [v0, v1] [vL x0] I = runs cal 162 3 [v0, v1] [vL 0, vL x0] I := runs_to (ins_of mI_162 (by rfl)) rfl rfl
theorem r162_3 : runs cal 162 3 [vR 70, v1] [vL x0, vL x1] I = runs cal 162 4 [vR 70, v1] [vR 70, vL x0, vL x1] I := runs_to (ins_of mI_162 (by rfl)) rfl rfl
theorem r162_4 : runs cal 162 4 [v0, v1] [vR 70, vL x1, vL x2] I = (cal 160 [vR 70] I).bind (fun q => runs cal 162 7 [v0, v1] (pushR q.1 [vL x1, vL x2]) q.2) := st_call (st := false) (ins_of mI_162 (by rfl)) mC_162 mr_11_125 (by decide) mS_160 mN_160 rfl (Nat.le_of_ble_eq_true rfl) rfl rfl (Or.inr ⟨_, _, rfl, rcv mC_160 rfl wid_162 (by decide +kernel)⟩) (Or.inl (wid_162.trans wid_160.symm))
theorem r162_7 : runs cal 162 7 [v0, v1] [vI x0, vL x1, vL x2] I = runs cal 162 8 [v0, v1] [vI (1), vI x0, vL x1, vL x2] I := runs_to (ins_of mI_162 (by rfl)) rfl rfl
theorem r162_8 : runs cal 162 8 [v0, v1] [vI x0, vI x1, vL x2, vL x3] I = runs cal 162 9 [v0, v1] [vI (isub x1 x0), vL x2, vL x3] I := runs_to (ins_of mI_162 (by rfl)) rfl rfl
theorem r162_9 : runs cal 162 9 [v0, v1] [vI x0, vL x1, vL x2] I = runs cal 162 10 [v0, v1] [vL x0, vL x1, vL x2] I := runs_to (ins_of mI_162 (by rfl)) rfl rfl
theorem r162_10 : runs cal 162 10 [v0, v1] [vL x0, vL x1, vL x2] I = (cal 142 [vL x2, vL x1, vL x0] I).bind (fun q => runs cal 162 13 [v0, v1] (pushR q.1 []) q.2) := st_call (st := true) (ins_of mI_162 (by rfl)) mC_162 mr_11_121 (by decide) mS_142 mN_142 rfl (Nat.le_of_ble_eq_true rfl) rfl rfl (Or.inl rfl) (Or.inl (wid_162.trans wid_142.symm))
theorem r162_13 : runs cal 162 13 [v0, v1] [vI x0] I = if x0 = 0 ∨ x0 = 1 then some (some (vI x0), I) else none := st_retZ (ins_of mI_162 (by rfl)) mR_162 (Or.inl rfl)
theorem r163_0 : runs cal 163 0 [vR 70] [] I = runs cal 163 1 [vR 70] [vR 70] I := runs_to (ins_of mI_163 (by rfl)) rfl rfl
theorem r163_1 : runs cal 163 1 [v0] [vR 70] I = runs cal 163 4 [v0] [vR 71] I := st_getR (ins_of mI_163 (by rfl)) mC_163 (by decide) fr_11_7 cT_70 (wdc wid_163 wd_70) rfl rfl
theorem r163_4 : runs cal 163 4 [v0] [vR 71] I = runs cal 163 6 [v0] [vI (8), vR 71] I := runs_to (ins_of mI_163 (by rfl)) rfl rfl
theorem r163_6 : runs cal 163 6 [v0] [vI x0, vR 71] I = if 0 ≤ x0 ∧ x0 < 110 then runs cal 163 7 [v0] [vI (I 71 x0)] I else none := st_iald (ins_of mI_163 (by rfl)) cT_71 (wdc wid_163 wd_71)
theorem r163_7 : runs cal 163 7 [v0] [vI x0] I = some (some (vI x0), I) := st_ret (q := some (vI x0)) (k := 0) (ins_of mI_163 (by rfl)) rfl (by decide) mR_163 rfl trivial
theorem r164_0 : runs cal 164 0 [v0, v1] [] I = runs cal 164 1 [v0, v1] [vI (0)] I := runs_to (ins_of mI_164 (by rfl)) rfl rfl
theorem r164_1 : runs cal 164 1 [vR b0, v1] [vI x0] I = runs cal 164 2 [vR b0, vI x0] [] I := runs_to (ins_of mI_164 (by rfl)) rfl rfl
theorem r164_2 : runs cal 164 2 [v0, vI w] [] I = runs cal 164 3 [v0, vI w] [vI w] I := runs_to (ins_of mI_164 (by rfl)) rfl rfl
theorem r164_3 : runs cal 164 3 [v0, v1] [vI x0] I = runs cal 164 4 [v0, v1] [vI (3), vI x0] I := runs_to (ins_of mI_164 (by rfl)) rfl rfl
theorem r164_4 : runs cal 164 4 [v0, v1] [vI x0, vI x1] I = if x1 < x0 then runs cal 164 7 [v0, v1] [] I else runs cal 164 32 [v0, v1] [] I := st_cmp_ge (ins_of mI_164 (by rfl)) (by decide)
theorem r164_7 : runs cal 164 7 [vR 70, v1] [] I = runs cal 164 8 [vR 70, v1] [vR 70] I := runs_to (ins_of mI_164 (by rfl)) rfl rfl
theorem r164_8 : runs cal 164 8 [v0, v1] [vR 70] I = runs cal 164 11 [v0, v1] [vR 77] I := st_getR (ins_of mI_164 (by rfl)) mC_164 (by decide) fr_11_30 cT_70 (wdc wid_164 wd_70) rfl rfl
theorem r164_11 : runs cal 164 11 [v0, vI w] [vR 77] I = runs cal 164 12 [v0, vI w] [vI w, vR 77] I := runs_to (ins_of mI_164 (by rfl)) rfl rfl
theorem r164_12 : runs cal 164 12 [vR 70, v1] [vI x0, vR 77] I = runs cal 164 13 [vR 70, v1] [vR 70, vI x0, vR 77] I := runs_to (ins_of mI_164 (by rfl)) rfl rfl
theorem r164_13 : runs cal 164 13 [v0, v1] [vR 70, vI x1, vR 77] I = runs cal 164 16 [v0, v1] [vR 71, vI x1, vR 77] I := st_getR (ins_of mI_164 (by rfl)) mC_164 (by decide) fr_11_7 cT_70 (wdc wid_164 wd_70) rfl rfl
theorem r164_16 : runs cal 164 16 [v0, v1] [vR 71, vI x1, vR 77] I = runs cal 164 18 [v0, v1] [vI (9), vR 71, vI x1, vR 77] I := runs_to (ins_of mI_164 (by rfl)) rfl rfl
theorem r164_18 : runs cal 164 18 [v0, v1] [vI x0, vR 71, vI x2, vR 77] I = runs cal 164 19 [v0, v1] [vI (3), vI x0, vR 71, vI x2, vR 77] I := runs_to (ins_of mI_164 (by rfl)) rfl rfl
theorem r164_19 : runs cal 164 19 [v0, vI w] [vI x0, vI x1, vR 71, vI x3, vR 77] I = runs cal 164 20 [v0, vI w] [vI w, vI x0, vI x1, vR 71, vI x3, vR 77] I := runs_to (ins_of mI_164 (by rfl)) rfl rfl
theorem r164_20 : runs cal 164 20 [v0, v1] [vI x0, vI x1, vI x2, vR 71, vI x4, vR 77] I = runs cal 164 21 [v0, v1] [vI (imul x1 x0), vI x2, vR 71, vI x4, vR 77] I := runs_to (ins_of mI_164 (by rfl)) rfl rfl
theorem r164_21 : runs cal 164 21 [v0, v1] [vI x0, vI x1, vR 71, vI x3, vR 77] I = runs cal 164 22 [v0, v1] [vI (iadd x1 x0), vR 71, vI x3, vR 77] I := runs_to (ins_of mI_164 (by rfl)) rfl rfl
theorem r164_22 : runs cal 164 22 [v0, v1] [vI x0, vR 71, vI x2, vR 77] I = runs cal 164 23 [v0, v1] [vI (1), vI x0, vR 71, vI x2, vR 77] I := runs_to (ins_of mI_164 (by rfl)) rfl rfl
theorem r164_23 : runs cal 164 23 [v0, v1] [vI x0, vI x1, vR 71, vI x3, vR 77] I = runs cal 164 24 [v0, v1] [vI (iadd x1 x0), vR 71, vI x3, vR 77] I := runs_to (ins_of mI_164 (by rfl)) rfl rfl
theorem r164_24 : runs cal 164 24 [v0, v1] [vI x0, vR 71, vI x2, vR 77] I = if 0 ≤ x0 ∧ x0 < 110 then runs cal 164 25 [v0, v1] [vI (I 71 x0), vI x2, vR 77] I else none := st_iald (ins_of mI_164 (by rfl)) cT_71 (wdc wid_164 wd_71)
theorem r164_25 : runs cal 164 25 [v0, v1] [vI x0, vI x1, vR 77] I = if 0 ≤ x1 ∧ x1 < 3 then runs cal 164 26 [v0, v1] [] (mset I 77 x1 x0) else none := st_iast (ins_of mI_164 (by rfl)) cT_77 (wdc wid_164 wd_77)
theorem r164_26 : runs cal 164 26 [vR b0, vI w] [] I = runs cal 164 29 [vR b0, vI (iadd w (1))] [] I := runs_to (ins_of mI_164 (by rfl)) rfl rfl
theorem r164_29 : runs cal 164 29 [v0, v1] [] I = runs cal 164 2 [v0, v1] [] I := st_goto (ins_of mI_164 (by rfl)) (by decide)
theorem r164_32 : runs cal 164 32 [v0, v1] [] I = runs cal 164 33 [v0, v1] [vI (0)] I := runs_to (ins_of mI_164 (by rfl)) rfl rfl
theorem r164_33 : runs cal 164 33 [vR b0, v1] [vI x0] I = runs cal 164 34 [vR b0, vI x0] [] I := runs_to (ins_of mI_164 (by rfl)) rfl rfl
theorem r164_34 : runs cal 164 34 [v0, vI w] [] I = runs cal 164 35 [v0, vI w] [vI w] I := runs_to (ins_of mI_164 (by rfl)) rfl rfl
theorem r164_35 : runs cal 164 35 [v0, v1] [vI x0] I = runs cal 164 36 [v0, v1] [vI (2), vI x0] I := runs_to (ins_of mI_164 (by rfl)) rfl rfl
theorem r164_36 : runs cal 164 36 [v0, v1] [vI x0, vI x1] I = if x1 < x0 then runs cal 164 39 [v0, v1] [] I else runs cal 164 64 [v0, v1] [] I := st_cmp_ge (ins_of mI_164 (by rfl)) (by decide)
theorem r164_39 : runs cal 164 39 [vR 70, v1] [] I = runs cal 164 40 [vR 70, v1] [vR 70] I := runs_to (ins_of mI_164 (by rfl)) rfl rfl
theorem r164_40 : runs cal 164 40 [v0, v1] [vR 70] I = runs cal 164 43 [v0, v1] [vR 78] I := st_getR (ins_of mI_164 (by rfl)) mC_164 (by decide) fr_11_33 cT_70 (wdc wid_164 wd_70) rfl rfl
theorem r164_43 : runs cal 164 43 [v0, vI w] [vR 78] I = runs cal 164 44 [v0, vI w] [vI w, vR 78] I := runs_to (ins_of mI_164 (by rfl)) rfl rfl
theorem r164_44 : runs cal 164 44 [vR 70, v1] [vI x0, vR 78] I = runs cal 164 45 [vR 70, v1] [vR 70, vI x0, vR 78] I := runs_to (ins_of mI_164 (by rfl)) rfl rfl
theorem r164_45 : runs cal 164 45 [v0, v1] [vR 70, vI x1, vR 78] I = runs cal 164 48 [v0, v1] [vR 71, vI x1, vR 78] I := st_getR (ins_of mI_164 (by rfl)) mC_164 (by decide) fr_11_7 cT_70 (wdc wid_164 wd_70) rfl rfl
theorem r164_48 : runs cal 164 48 [v0, v1] [vR 71, vI x1, vR 78] I = runs cal 164 50 [v0, v1] [vI (18), vR 71, vI x1, vR 78] I := runs_to (ins_of mI_164 (by rfl)) rfl rfl
theorem r164_50 : runs cal 164 50 [v0, v1] [vI x0, vR 71, vI x2, vR 78] I = runs cal 164 51 [v0, v1] [vI (4), vI x0, vR 71, vI x2, vR 78] I := runs_to (ins_of mI_164 (by rfl)) rfl rfl
theorem r164_51 : runs cal 164 51 [v0, vI w] [vI x0, vI x1, vR 71, vI x3, vR 78] I = runs cal 164 52 [v0, vI w] [vI w, vI x0, vI x1, vR 71, vI x3, vR 78] I := runs_to (ins_of mI_164 (by rfl)) rfl rfl
theorem r164_52 : runs cal 164 52 [v0, v1] [vI x0, vI x1, vI x2, vR 71, vI x4, vR 78] I = runs cal 164 53 [v0, v1] [vI (imul x1 x0), vI x2, vR 71, vI x4, vR 78] I := runs_to (ins_of mI_164 (by rfl)) rfl rfl
theorem r164_53 : runs cal 164 53 [v0, v1] [vI x0, vI x1, vR 71, vI x3, vR 78] I = runs cal 164 54 [v0, v1] [vI (iadd x1 x0), vR 71, vI x3, vR 78] I := runs_to (ins_of mI_164 (by rfl)) rfl rfl
theorem r164_54 : runs cal 164 54 [v0, v1] [vI x0, vR 71, vI x2, vR 78] I = runs cal 164 55 [v0, v1] [vI (3), vI x0, vR 71, vI x2, vR 78] I := runs_to (ins_of mI_164 (by rfl)) rfl rfl
theorem r164_55 : runs cal 164 55 [v0, v1] [vI x0, vI x1, vR 71, vI x3, vR 78] I = runs cal 164 56 [v0, v1] [vI (iadd x1 x0), vR 71, vI x3, vR 78] I := runs_to (ins_of mI_164 (by rfl)) rfl rfl
theorem r164_56 : runs cal 164 56 [v0, v1] [vI x0, vR 71, vI x2, vR 78] I = if 0 ≤ x0 ∧ x0 < 110 then runs cal 164 57 [v0, v1] [vI (I 71 x0), vI x2, vR 78] I else none := st_iald (ins_of mI_164 (by rfl)) cT_71 (wdc wid_164 wd_71)
theorem r164_57 : runs cal 164 57 [v0, v1] [vI x0, vI x1, vR 78] I = if 0 ≤ x1 ∧ x1 < 2 then runs cal 164 58 [v0, v1] [] (mset I 78 x1 x0) else none := st_iast (ins_of mI_164 (by rfl)) cT_78 (wdc wid_164 wd_78)
theorem r164_58 : runs cal 164 58 [vR b0, vI w] [] I = runs cal 164 61 [vR b0, vI (iadd w (1))] [] I := runs_to (ins_of mI_164 (by rfl)) rfl rfl
theorem r164_61 : runs cal 164 61 [v0, v1] [] I = runs cal 164 34 [v0, v1] [] I := st_goto (ins_of mI_164 (by rfl)) (by decide)
theorem r164_64 : runs cal 164 64 [v0, v1] [] I = some (none, I) := st_ret (q := none) (k := 3) (ins_of mI_164 (by rfl)) rfl (by decide) mR_164 rfl trivial
theorem r165_0 : runs cal 165 0 [v0, v1] [] I = runs cal 165 1 [v0, v1] [vI (0)] I := runs_to (ins_of mI_165 (by rfl)) rfl rfl
theorem r165_1 : runs cal 165 1 [vR b0, v1] [vI x0] I = runs cal 165 2 [vR b0, vI x0] [] I := runs_to (ins_of mI_165 (by rfl)) rfl rfl
theorem r165_2 : runs cal 165 2 [v0, vI w] [] I = runs cal 165 3 [v0, vI w] [vI w] I := runs_to (ins_of mI_165 (by rfl)) rfl rfl
theorem r165_3 : runs cal 165 3 [vR 70, v1] [vI x0] I = runs cal 165 4 [vR 70, v1] [vR 70, vI x0] I := runs_to (ins_of mI_165 (by rfl)) rfl rfl
theorem r165_4 : runs cal 165 4 [v0, v1] [vR 70, vI x1] I = (cal 159 [vR 70] I).bind (fun q => runs cal 165 7 [v0, v1] (pushR q.1 [vI x1]) q.2) := st_call (st := false) (ins_of mI_165 (by rfl)) mC_165 mr_11_117 (by decide) mS_159 mN_159 rfl (Nat.le_of_ble_eq_true rfl) rfl rfl (Or.inr ⟨_, _, rfl, rcv mC_159 rfl wid_165 (by decide +kernel)⟩) (Or.inl (wid_165.trans wid_159.symm))
theorem r165_7 : runs cal 165 7 [v0, v1] [vI x0, vI x1] I = if x1 < x0 then runs cal 165 10 [v0, v1] [] I else runs cal 165 35 [v0, v1] [] I := st_cmp_ge (ins_of mI_165 (by rfl)) (by decide)
theorem r165_10 : runs cal 165 10 [vR 70, v1] [] I = runs cal 165 11 [vR 70, v1] [vR 70] I := runs_to (ins_of mI_165 (by rfl)) rfl rfl
theorem r165_11 : runs cal 165 11 [v0, v1] [vR 70] I = runs cal 165 14 [v0, v1] [vR 71] I := st_getR (ins_of mI_165 (by rfl)) mC_165 (by decide) fr_11_7 cT_70 (wdc wid_165 wd_70) rfl rfl
theorem r165_14 : runs cal 165 14 [v0, v1] [vR 71] I = runs cal 165 16 [v0, v1] [vI (9), vR 71] I := runs_to (ins_of mI_165 (by rfl)) rfl rfl
theorem r165_16 : runs cal 165 16 [v0, v1] [vI x0, vR 71] I = runs cal 165 17 [v0, v1] [vI (3), vI x0, vR 71] I := runs_to (ins_of mI_165 (by rfl)) rfl rfl
theorem r165_17 : runs cal 165 17 [v0, vI w] [vI x0, vI x1, vR 71] I = runs cal 165 18 [v0, vI w] [vI w, vI x0, vI x1, vR 71] I := runs_to (ins_of mI_165 (by rfl)) rfl rfl
theorem r165_18 : runs cal 165 18 [v0, v1] [vI x0, vI x1, vI x2, vR 71] I = runs cal 165 19 [v0, v1] [vI (imul x1 x0), vI x2, vR 71] I := runs_to (ins_of mI_165 (by rfl)) rfl rfl
theorem r165_19 : runs cal 165 19 [v0, v1] [vI x0, vI x1, vR 71] I = runs cal 165 20 [v0, v1] [vI (iadd x1 x0), vR 71] I := runs_to (ins_of mI_165 (by rfl)) rfl rfl
theorem r165_20 : runs cal 165 20 [v0, v1] [vI x0, vR 71] I = runs cal 165 21 [v0, v1] [vI (1), vI x0, vR 71] I := runs_to (ins_of mI_165 (by rfl)) rfl rfl
theorem r165_21 : runs cal 165 21 [v0, v1] [vI x0, vI x1, vR 71] I = runs cal 165 22 [v0, v1] [vI (iadd x1 x0), vR 71] I := runs_to (ins_of mI_165 (by rfl)) rfl rfl
theorem r165_22 : runs cal 165 22 [vR 70, v1] [vI x0, vR 71] I = runs cal 165 23 [vR 70, v1] [vR 70, vI x0, vR 71] I := runs_to (ins_of mI_165 (by rfl)) rfl rfl
theorem r165_23 : runs cal 165 23 [v0, v1] [vR 70, vI x1, vR 71] I = runs cal 165 26 [v0, v1] [vR 77, vI x1, vR 71] I := st_getR (ins_of mI_165 (by rfl)) mC_165 (by decide) fr_11_30 cT_70 (wdc wid_165 wd_70) rfl rfl
theorem r165_26 : runs cal 165 26 [v0, vI w] [vR 77, vI x1, vR 71] I = runs cal 165 27 [v0, vI w] [vI w, vR 77, vI x1, vR 71] I := runs_to (ins_of mI_165 (by rfl)) rfl rfl
theorem r165_27 : runs cal 165 27 [v0, v1] [vI x0, vR 77, vI x2, vR 71] I = if 0 ≤ x0 ∧ x0 < 3 then runs cal 165 28 [v0, v1] [vI (I 77 x0), vI x2, vR 71] I else none := st_iald (ins_of mI_165 (by rfl)) cT_77 (wdc wid_165 wd_77)
theorem r165_28 : runs cal 165 28 [v0, v1] [vI x0, vI x1, vR 71] I = if 0 ≤ x1 ∧ x1 < 110 then runs cal 165 29 [v0, v1] [] (mset I 71 x1 x0) else none := st_iast (ins_of mI_165 (by rfl)) cT_71 (wdc wid_165 wd_71)
theorem r165_29 : runs cal 165 29 [vR b0, vI w] [] I = runs cal 165 32 [vR b0, vI (iadd w (1))] [] I := runs_to (ins_of mI_165 (by rfl)) rfl rfl
theorem r165_32 : runs cal 165 32 [v0, v1] [] I = runs cal 165 2 [v0, v1] [] I := st_goto (ins_of mI_165 (by rfl)) (by decide)
theorem r165_35 : runs cal 165 35 [v0, v1] [] I = runs cal 165 36 [v0, v1] [vI (0)] I := runs_to (ins_of mI_165 (by rfl)) rfl rfl
theorem r165_36 : runs cal 165 36 [vR b0, v1] [vI x0] I = runs cal 165 37 [vR b0, vI x0] [] I := runs_to (ins_of mI_165 (by rfl)) rfl rfl
theorem r165_37 : runs cal 165 37 [v0, vI w] [] I = runs cal 165 38 [v0, vI w] [vI w] I := runs_to (ins_of mI_165 (by rfl)) rfl rfl
theorem r165_38 : runs cal 165 38 [vR 70, v1] [vI x0] I = runs cal 165 39 [vR 70, v1] [vR 70, vI x0] I := runs_to (ins_of mI_165 (by rfl)) rfl rfl
theorem r165_39 : runs cal 165 39 [v0, v1] [vR 70, vI x1] I = (cal 160 [vR 70] I).bind (fun q => runs cal 165 42 [v0, v1] (pushR q.1 [vI x1]) q.2) := st_call (st := false) (ins_of mI_165 (by rfl)) mC_165 mr_11_125 (by decide) mS_160 mN_160 rfl (Nat.le_of_ble_eq_true rfl) rfl rfl (Or.inr ⟨_, _, rfl, rcv mC_160 rfl wid_165 (by decide +kernel)⟩) (Or.inl (wid_165.trans wid_160.symm))
theorem r165_42 : runs cal 165 42 [v0, v1] [vI x0, vI x1] I = if x1 < x0 then runs cal 165 45 [v0, v1] [] I else runs cal 165 70 [v0, v1] [] I := st_cmp_ge (ins_of mI_165 (by rfl)) (by decide)
theorem r165_45 : runs cal 165 45 [vR 70, v1] [] I = runs cal 165 46 [vR 70, v1] [vR 70] I := runs_to (ins_of mI_165 (by rfl)) rfl rfl
theorem r165_46 : runs cal 165 46 [v0, v1] [vR 70] I = runs cal 165 49 [v0, v1] [vR 71] I := st_getR (ins_of mI_165 (by rfl)) mC_165 (by decide) fr_11_7 cT_70 (wdc wid_165 wd_70) rfl rfl
theorem r165_49 : runs cal 165 49 [v0, v1] [vR 71] I = runs cal 165 51 [v0, v1] [vI (18), vR 71] I := runs_to (ins_of mI_165 (by rfl)) rfl rfl
theorem r165_51 : runs cal 165 51 [v0, v1] [vI x0, vR 71] I = runs cal 165 52 [v0, v1] [vI (4), vI x0, vR 71] I := runs_to (ins_of mI_165 (by rfl)) rfl rfl
theorem r165_52 : runs cal 165 52 [v0, vI w] [vI x0, vI x1, vR 71] I = runs cal 165 53 [v0, vI w] [vI w, vI x0, vI x1, vR 71] I := runs_to (ins_of mI_165 (by rfl)) rfl rfl
theorem r165_53 : runs cal 165 53 [v0, v1] [vI x0, vI x1, vI x2, vR 71] I = runs cal 165 54 [v0, v1] [vI (imul x1 x0), vI x2, vR 71] I := runs_to (ins_of mI_165 (by rfl)) rfl rfl
theorem r165_54 : runs cal 165 54 [v0, v1] [vI x0, vI x1, vR 71] I = runs cal 165 55 [v0, v1] [vI (iadd x1 x0), vR 71] I := runs_to (ins_of mI_165 (by rfl)) rfl rfl
theorem r165_55 : runs cal 165 55 [v0, v1] [vI x0, vR 71] I = runs cal 165 56 [v0, v1] [vI (3), vI x0, vR 71] I := runs_to (ins_of mI_165 (by rfl)) rfl rfl
theorem r165_56 : runs cal 165 56 [v0, v1] [vI x0, vI x1, vR 71] I = runs cal 165 57 [v0, v1] [vI (iadd x1 x0), vR 71] I := runs_to (ins_of mI_165 (by rfl)) rfl rfl
theorem r165_57 : runs cal 165 57 [vR 70, v1] [vI x0, vR 71] I = runs cal 165 58 [vR 70, v1] [vR 70, vI x0, vR 71] I := runs_to (ins_of mI_165 (by rfl)) rfl rfl
theorem r165_58 : runs cal 165 58 [v0, v1] [vR 70, vI x1, vR 71] I = runs cal 165 61 [v0, v1] [vR 78, vI x1, vR 71] I := st_getR (ins_of mI_165 (by rfl)) mC_165 (by decide) fr_11_33 cT_70 (wdc wid_165 wd_70) rfl rfl
theorem r165_61 : runs cal 165 61 [v0, vI w] [vR 78, vI x1, vR 71] I = runs cal 165 62 [v0, vI w] [vI w, vR 78, vI x1, vR 71] I := runs_to (ins_of mI_165 (by rfl)) rfl rfl
theorem r165_62 : runs cal 165 62 [v0, v1] [vI x0, vR 78, vI x2, vR 71] I = if 0 ≤ x0 ∧ x0 < 2 then runs cal 165 63 [v0, v1] [vI (I 78 x0), vI x2, vR 71] I else none := st_iald (ins_of mI_165 (by rfl)) cT_78 (wdc wid_165 wd_78)
theorem r165_63 : runs cal 165 63 [v0, v1] [vI x0, vI x1, vR 71] I = if 0 ≤ x1 ∧ x1 < 110 then runs cal 165 64 [v0, v1] [] (mset I 71 x1 x0) else none := st_iast (ins_of mI_165 (by rfl)) cT_71 (wdc wid_165 wd_71)
theorem r165_64 : runs cal 165 64 [vR b0, vI w] [] I = runs cal 165 67 [vR b0, vI (iadd w (1))] [] I := runs_to (ins_of mI_165 (by rfl)) rfl rfl
theorem r165_67 : runs cal 165 67 [v0, v1] [] I = runs cal 165 37 [v0, v1] [] I := st_goto (ins_of mI_165 (by rfl)) (by decide)
theorem r165_70 : runs cal 165 70 [v0, v1] [] I = some (none, I) := st_ret (q := none) (k := 3) (ins_of mI_165 (by rfl)) rfl (by decide) mR_165 rfl trivial
theorem r166_0 : runs cal 166 0 [vI w, v1] [] I = runs cal 166 1 [vI w, v1] [vI w] I := runs_to (ins_of mI_166 (by rfl)) rfl rfl
theorem r166_1 : runs cal 166 1 [v0, v1] [vI x0] I = runs cal 166 2 [v0, v1] [vI (2), vI x0] I := runs_to (ins_of mI_166 (by rfl)) rfl rfl
theorem r166_2 : runs cal 166 2 [v0, v1] [vI x0, vI x1] I = if x1 = x0 then runs cal 166 10 [v0, v1] [] I else runs cal 166 5 [v0, v1] [] I := st_cmp_eq (ins_of mI_166 (by rfl)) (by decide)
theorem r166_5 : runs cal 166 5 [vI w, v1] [] I = runs cal 166 6 [vI w, v1] [vI w] I := runs_to (ins_of mI_166 (by rfl)) rfl rfl
theorem r166_6 : runs cal 166 6 [v0, v1] [vI x0] I = runs cal 166 7 [v0, v1] [vI (4), vI x0] I := runs_to (ins_of mI_166 (by rfl)) rfl rfl
theorem r166_7 : runs cal 166 7 [v0, v1] [vI x0, vI x1] I = if x1 = x0 then runs cal 166 10 [v0, v1] [] I else runs cal 166 16 [v0, v1] [] I := st_cmp_ne (ins_of mI_166 (by rfl)) (by decide)
theorem r166_10 : runs cal 166 10 [v0, vI w] [] I = runs cal 166 11 [v0, vI w] [vI w] I := runs_to (ins_of mI_166 (by rfl)) rfl rfl
theorem r166_11 : runs cal 166 11 [v0, v1] [vI x0] I = runs cal 166 12 [v0, v1] [vI (1), vI x0] I := runs_to (ins_of mI_166 (by rfl)) rfl rfl
theorem r166_12 : runs cal 166 12 [v0, v1] [vI x0, vI x1] I = runs cal 166 13 [v0, v1] [vI (iadd x1 x0)] I := runs_to (ins_of mI_166 (by rfl)) rfl rfl
theorem r166_13 : runs cal 166 13 [v0, v1] [vI x0] I = runs cal 166 17 [v0, v1] [vI x0] I := st_goto (ins_of mI_166 (by rfl)) (by decide)
theorem r166_16 : runs cal 166 16 [v0, vI w] [] I = runs cal 166 17 [v0, vI w] [vI w] I := runs_to (ins_of mI_166 (by rfl)) rfl rfl
theorem r166_17 : runs cal 166 17 [v0, v1] [vI x0] I = some (some (vI x0), I) := st_ret (q := some (vI x0)) (k := 0) (ins_of mI_166 (by rfl)) rfl (by decide) mR_166 rfl trivial
theorem r167_0 : runs cal 167 0 [vR 70, v1] [] I = runs cal 167 1 [vR 70, v1] [vR 70] I := runs_to (ins_of mI_167 (by rfl)) rfl rfl
theorem r167_1 : runs cal 167 1 [v0, v1] [vR 70] I = runs cal 167 4 [v0, v1] [vR 71] I := st_getR (ins_of mI_167 (by rfl)) mC_167 (by decide) fr_11_7 cT_70 (wdc wid_167 wd_70) rfl rfl
theorem r167_4 : runs cal 167 4 [v0, v1] [vR 71] I = runs cal 167 6 [v0, v1] [vI (18), vR 71] I := runs_to (ins_of mI_167 (by rfl)) rfl rfl
theorem r167_6 : runs cal 167 6 [v0, v1] [vI x0, vR 71] I = runs cal 167 7 [v0, v1] [vI (4), vI x0, vR 71] I := runs_to (ins_of mI_167 (by rfl)) rfl rfl
theorem r167_7 : runs cal 167 7 [v0, vI w] [vI x0, vI x1, vR 71] I = runs cal 167 8 [v0, vI w] [vI w, vI x0, vI x1, vR 71] I := runs_to (ins_of mI_167 (by rfl)) rfl rfl
theorem r167_8 : runs cal 167 8 [v0, v1] [vI x0, vI x1, vI x2, vR 71] I = runs cal 167 9 [v0, v1] [vI (imul x1 x0), vI x2, vR 71] I := runs_to (ins_of mI_167 (by rfl)) rfl rfl
theorem r167_9 : runs cal 167 9 [v0, v1] [vI x0, vI x1, vR 71] I = runs cal 167 10 [v0, v1] [vI (iadd x1 x0), vR 71] I := runs_to (ins_of mI_167 (by rfl)) rfl rfl
theorem r167_10 : runs cal 167 10 [v0, v1] [vI x0, vR 71] I = if 0 ≤ x0 ∧ x0 < 110 then runs cal 167 11 [v0, v1] [vI (I 71 x0)] I else none := st_iald (ins_of mI_167 (by rfl)) cT_71 (wdc wid_167 wd_71)
theorem r167_11 : runs cal 167 11 [vR 70, v1] [vI x0] I = runs cal 167 12 [vR 70, v1] [vR 70, vI x0] I := runs_to (ins_of mI_167 (by rfl)) rfl rfl
theorem r167_12 : runs cal 167 12 [v0, v1] [vR 70, vI x1] I = runs cal 167 15 [v0, v1] [vR 71, vI x1] I := st_getR (ins_of mI_167 (by rfl)) mC_167 (by decide) fr_11_7 cT_70 (wdc wid_167 wd_70) rfl rfl
theorem r167_15 : runs cal 167 15 [v0, v1] [vR 71, vI x1] I = runs cal 167 17 [v0, v1] [vI (18), vR 71, vI x1] I := runs_to (ins_of mI_167 (by rfl)) rfl rfl
theorem r167_17 : runs cal 167 17 [v0, v1] [vI x0, vR 71, vI x2] I = runs cal 167 18 [v0, v1] [vI (4), vI x0, vR 71, vI x2] I := runs_to (ins_of mI_167 (by rfl)) rfl rfl
theorem r167_18 : runs cal 167 18 [v0, vI w] [vI x0, vI x1, vR 71, vI x3] I = runs cal 167 19 [v0, vI w] [vI w, vI x0, vI x1, vR 71, vI x3] I := runs_to (ins_of mI_167 (by rfl)) rfl rfl
theorem r167_19 : runs cal 167 19 [v0, v1] [vI x0, vI x1, vI x2, vR 71, vI x4] I = runs cal 167 20 [v0, v1] [vI (imul x1 x0), vI x2, vR 71, vI x4] I := runs_to (ins_of mI_167 (by rfl)) rfl rfl
theorem r167_20 : runs cal 167 20 [v0, v1] [vI x0, vI x1, vR 71, vI x3] I = runs cal 167 21 [v0, v1] [vI (iadd x1 x0), vR 71, vI x3] I := runs_to (ins_of mI_167 (by rfl)) rfl rfl
theorem r167_21 : runs cal 167 21 [v0, v1] [vI x0, vR 71, vI x2] I = runs cal 167 22 [v0, v1] [vI (1), vI x0, vR 71, vI x2] I := runs_to (ins_of mI_167 (by rfl)) rfl rfl
theorem r167_22 : runs cal 167 22 [v0, v1] [vI x0, vI x1, vR 71, vI x3] I = runs cal 167 23 [v0, v1] [vI (iadd x1 x0), vR 71, vI x3] I := runs_to (ins_of mI_167 (by rfl)) rfl rfl
theorem r167_23 : runs cal 167 23 [v0, v1] [vI x0, vR 71, vI x2] I = if 0 ≤ x0 ∧ x0 < 110 then runs cal 167 24 [v0, v1] [vI (I 71 x0), vI x2] I else none := st_iald (ins_of mI_167 (by rfl)) cT_71 (wdc wid_167 wd_71)
theorem r167_24 : runs cal 167 24 [v0, v1] [vI x0, vI x1] I = (cal 166 [vI x1, vI x0] I).bind (fun q => runs cal 167 27 [v0, v1] (pushR q.1 []) q.2) := st_call (st := true) (ins_of mI_167 (by rfl)) mC_167 mr_11_128 (by decide) mS_166 mN_166 rfl (Nat.le_of_ble_eq_true rfl) rfl rfl (Or.inl rfl) (Or.inl (wid_167.trans wid_166.symm))
theorem r167_27 : runs cal 167 27 [v0, v1] [vI x0] I = some (some (vI x0), I) := st_ret (q := some (vI x0)) (k := 0) (ins_of mI_167 (by rfl)) rfl (by decide) mR_167 rfl trivial
theorem r168_0 : runs cal 168 0 [vR 70, v1, v2, v3] [] I = runs cal 168 1 [vR 70, v1, v2, v3] [vR 70] I := runs_to (ins_of mI_168 (by rfl)) rfl rfl
theorem r168_1 : runs cal 168 1 [v0, v1, v2, v3] [vR 70] I = runs cal 168 4 [v0, v1, v2, v3] [vR 71] I := st_getR (ins_of mI_168 (by rfl)) mC_168 (by decide) fr_11_7 cT_70 (wdc wid_168 wd_70) rfl rfl
theorem r168_4 : runs cal 168 4 [v0, v1, v2, v3] [vR 71] I = runs cal 168 6 [v0, v1, v2, v3] [vI (18), vR 71] I := runs_to (ins_of mI_168 (by rfl)) rfl rfl
theorem r168_6 : runs cal 168 6 [v0, v1, v2, v3] [vI x0, vR 71] I = runs cal 168 7 [v0, v1, v2, v3] [vI (4), vI x0, vR 71] I := runs_to (ins_of mI_168 (by rfl)) rfl rfl
theorem r168_7 : runs cal 168 7 [v0, vI w, v2, v3] [vI x0, vI x1, vR 71] I = runs cal 168 8 [v0, vI w, v2, v3] [vI w, vI x0, vI x1, vR 71] I := runs_to (ins_of mI_168 (by rfl)) rfl rfl
theorem r168_8 : runs cal 168 8 [v0, v1, v2, v3] [vI x0, vI x1, vI x2, vR 71] I = runs cal 168 9 [v0, v1, v2, v3] [vI (imul x1 x0), vI x2, vR 71] I := runs_to (ins_of mI_168 (by rfl)) rfl rfl
theorem r168_9 : runs cal 168 9 [v0, v1, v2, v3] [vI x0, vI x1, vR 71] I = runs cal 168 10 [v0, v1, v2, v3] [vI (iadd x1 x0), vR 71] I := runs_to (ins_of mI_168 (by rfl)) rfl rfl
theorem r168_10 : runs cal 168 10 [v0, v1, v2, v3] [vI x0, vR 71] I = if 0 ≤ x0 ∧ x0 < 110 then runs cal 168 11 [v0, v1, v2, v3] [vI (I 71 x0)] I else none := st_iald (ins_of mI_168 (by rfl)) cT_71 (wdc wid_168 wd_71)
theorem r168_11 : runs cal 168 11 [v0, vI u, v2, v3] [vI x0] I = runs cal 168 12 [v0, vI u, vI x0, v3] [] I := runs_to (ins_of mI_168 (by rfl)) rfl rfl
theorem r168_12 : runs cal 168 12 [vR 70, v1, v2, v3] [] I = runs cal 168 13 [vR 70, v1, v2, v3] [vR 70] I := runs_to (ins_of mI_168 (by rfl)) rfl rfl
theorem r168_13 : runs cal 168 13 [v0, v1, v2, v3] [vR 70] I = runs cal 168 16 [v0, v1, v2, v3] [vR 71] I := st_getR (ins_of mI_168 (by rfl)) mC_168 (by decide) fr_11_7 cT_70 (wdc wid_168 wd_70) rfl rfl
theorem r168_16 : runs cal 168 16 [v0, v1, v2, v3] [vR 71] I = runs cal 168 18 [v0, v1, v2, v3] [vI (18), vR 71] I := runs_to (ins_of mI_168 (by rfl)) rfl rfl
theorem r168_18 : runs cal 168 18 [v0, v1, v2, v3] [vI x0, vR 71] I = runs cal 168 19 [v0, v1, v2, v3] [vI (4), vI x0, vR 71] I := runs_to (ins_of mI_168 (by rfl)) rfl rfl
theorem r168_19 : runs cal 168 19 [v0, vI w, v2, v3] [vI x0, vI x1, vR 71] I = runs cal 168 20 [v0, vI w, v2, v3] [vI w, vI x0, vI x1, vR 71] I := runs_to (ins_of mI_168 (by rfl)) rfl rfl
theorem r168_20 : runs cal 168 20 [v0, v1, v2, v3] [vI x0, vI x1, vI x2, vR 71] I = runs cal 168 21 [v0, v1, v2, v3] [vI (imul x1 x0), vI x2, vR 71] I := runs_to (ins_of mI_168 (by rfl)) rfl rfl
theorem r168_21 : runs cal 168 21 [v0, v1, v2, v3] [vI x0, vI x1, vR 71] I = runs cal 168 22 [v0, v1, v2, v3] [vI (iadd x1 x0), vR 71] I := runs_to (ins_of mI_168 (by rfl)) rfl rfl
theorem r168_22 : runs cal 168 22 [v0, v1, v2, v3] [vI x0, vR 71] I = runs cal 168 23 [v0, v1, v2, v3] [vI (2), vI x0, vR 71] I := runs_to (ins_of mI_168 (by rfl)) rfl rfl
theorem r168_23 : runs cal 168 23 [v0, v1, v2, v3] [vI x0, vI x1, vR 71] I = runs cal 168 24 [v0, v1, v2, v3] [vI (iadd x1 x0), vR 71] I := runs_to (ins_of mI_168 (by rfl)) rfl rfl
theorem r168_24 : runs cal 168 24 [v0, v1, v2, v3] [vI x0, vR 71] I = if 0 ≤ x0 ∧ x0 < 110 then runs cal 168 25 [v0, v1, v2, v3] [vI (I 71 x0)] I else none := st_iald (ins_of mI_168 (by rfl)) cT_71 (wdc wid_168 wd_71)
theorem r168_25 : runs cal 168 25 [v0, v1, vI u, v3] [vI x0] I = runs cal 168 26 [v0, v1, vI u, vI x0] [] I := runs_to (ins_of mI_168 (by rfl)) rfl rfl
theorem r168_26 : runs cal 168 26 [v0, v1, vI w, v3] [] I = runs cal 168 27 [v0, v1, vI w, v3] [vI w] I := runs_to (ins_of mI_168 (by rfl)) rfl rfl
theorem r168_27 : runs cal 168 27 [v0, v1, v2, v3] [vI x0] I = runs cal 168 28 [v0, v1, v2, v3] [vI (1), vI x0] I := runs_to (ins_of mI_168 (by rfl)) rfl rfl
theorem r168_28 : runs cal 168 28 [v0, v1, v2, v3] [vI x0, vI x1] I = if x1 = x0 then runs cal 168 31 [v0, v1, v2, v3] [] I else runs cal 168 37 [v0, v1, v2, v3] [] I := st_cmp_ne (ins_of mI_168 (by rfl)) (by decide)
theorem r168_31 : runs cal 168 31 [v0, v1, v2, vI w] [] I = runs cal 168 32 [v0, v1, v2, vI w] [vI w] I := runs_to (ins_of mI_168 (by rfl)) rfl rfl
theorem r168_32 : runs cal 168 32 [v0, v1, v2, v3] [vI x0] I = runs cal 168 33 [v0, v1, v2, v3] [vI (2), vI x0] I := runs_to (ins_of mI_168 (by rfl)) rfl rfl
theorem r168_33 : runs cal 168 33 [v0, v1, v2, v3] [vI x0, vI x1] I = if x0 = 0 then none else runs cal 168 34 [v0, v1, v2, v3] [vI (idiv x1 x0)] I := st_nz (ins_of mI_168 (by rfl)) rfl rfl
theorem r168_34 : runs cal 168 34 [v0, v1, v2, v3] [vI x0] I = runs cal 168 54 [v0, v1, v2, v3] [vI x0] I := st_goto (ins_of mI_168 (by rfl)) (by decide)
theorem r168_37 : runs cal 168 37 [v0, v1, vI w, v3] [] I = runs cal 168 38 [v0, v1, vI w, v3] [vI w] I := runs_to (ins_of mI_168 (by rfl)) rfl rfl
theorem r168_38 : runs cal 168 38 [v0, v1, v2, v3] [vI x0] I = runs cal 168 39 [v0, v1, v2, v3] [vI (3), vI x0] I := runs_to (ins_of mI_168 (by rfl)) rfl rfl
theorem r168_39 : runs cal 168 39 [v0, v1, v2, v3] [vI x0, vI x1] I = if x1 = x0 then runs cal 168 47 [v0, v1, v2, v3] [] I else runs cal 168 42 [v0, v1, v2, v3] [] I := st_cmp_eq (ins_of mI_168 (by rfl)) (by decide)
theorem r168_42 : runs cal 168 42 [v0, v1, vI w, v3] [] I = runs cal 168 43 [v0, v1, vI w, v3] [vI w] I := runs_to (ins_of mI_168 (by rfl)) rfl rfl
theorem r168_43 : runs cal 168 43 [v0, v1, v2, v3] [vI x0] I = runs cal 168 44 [v0, v1, v2, v3] [vI (5), vI x0] I := runs_to (ins_of mI_168 (by rfl)) rfl rfl
theorem r168_44 : runs cal 168 44 [v0, v1, v2, v3] [vI x0, vI x1] I = if x1 = x0 then runs cal 168 47 [v0, v1, v2, v3] [] I else runs cal 168 53 [v0, v1, v2, v3] [] I := st_cmp_ne (ins_of mI_168 (by rfl)) (by decide)
theorem r168_47 : runs cal 168 47 [v0, v1, v2, v3] [] I = runs cal 168 48 [v0, v1, v2, v3] [vI (2)] I := runs_to (ins_of mI_168 (by rfl)) rfl rfl
theorem r168_48 : runs cal 168 48 [v0, v1, v2, vI w] [vI x0] I = runs cal 168 49 [v0, v1, v2, vI w] [vI w, vI x0] I := runs_to (ins_of mI_168 (by rfl)) rfl rfl
theorem r168_49 : runs cal 168 49 [v0, v1, v2, v3] [vI x0, vI x1] I = runs cal 168 50 [v0, v1, v2, v3] [vI (imul x1 x0)] I := runs_to (ins_of mI_168 (by rfl)) rfl rfl
theorem r168_50 : runs cal 168 50 [v0, v1, v2, v3] [vI x0] I = runs cal 168 54 [v0, v1, v2, v3] [vI x0] I := st_goto (ins_of mI_168 (by rfl)) (by decide)
theorem r168_53 : runs cal 168 53 [v0, v1, v2, vI w] [] I = runs cal 168 54 [v0, v1, v2, vI w] [vI w] I := runs_to (ins_of mI_168 (by rfl)) rfl rfl
theorem r168_54 : runs cal 168 54 [v0, v1, v2, v3] [vI x0] I = some (some (vI x0), I) := st_ret (q := some (vI x0)) (k := 0) (ins_of mI_168 (by rfl)) rfl (by decide) mR_168 rfl trivial
theorem r169_0 : runs cal 169 0 [vR 70, v1] [] I = runs cal 169 1 [vR 70, v1] [vR 70] I := runs_to (ins_of mI_169 (by rfl)) rfl rfl
theorem r169_1 : runs cal 169 1 [v0, v1] [vR 70] I = runs cal 169 4 [v0, v1] [vR 78] I := st_getR (ins_of mI_169 (by rfl)) mC_169 (by decide) fr_11_33 cT_70 (wdc wid_169 wd_70) rfl rfl
theorem r169_4 : runs cal 169 4 [v0, vI w] [vR 78] I = runs cal 169 5 [v0, vI w] [vI w, vR 78] I := runs_to (ins_of mI_169 (by rfl)) rfl rfl
theorem r169_5 : runs cal 169 5 [v0, v1] [vI x0, vR 78] I = if 0 ≤ x0 ∧ x0 < 2 then runs cal 169 6 [v0, v1] [vI (I 78 x0)] I else none := st_iald (ins_of mI_169 (by rfl)) cT_78 (wdc wid_169 wd_78)
theorem r169_6 : runs cal 169 6 [v0, v1] [vI x0] I = runs cal 169 8 [v0, v1] [vI (8), vI x0] I := runs_to (ins_of mI_169 (by rfl)) rfl rfl
theorem r169_8 : runs cal 169 8 [v0, v1] [vI x0, vI x1] I = if x1 < x0 then runs cal 169 11 [v0, v1] [] I else runs cal 169 15 [v0, v1] [] I := st_cmp_ge (ins_of mI_169 (by rfl)) (by decide)
theorem r169_11 : runs cal 169 11 [v0, v1] [] I = runs cal 169 12 [v0, v1] [vI (1)] I := runs_to (ins_of mI_169 (by rfl)) rfl rfl
theorem r169_12 : runs cal 169 12 [v0, v1] [vI x0] I = runs cal 169 16 [v0, v1] [vI x0] I := st_goto (ins_of mI_169 (by rfl)) (by decide)
theorem r169_15 : runs cal 169 15 [v0, v1] [] I = runs cal 169 16 [v0, v1] [vI (0)] I := runs_to (ins_of mI_169 (by rfl)) rfl rfl
theorem r169_16 : runs cal 169 16 [v0, v1] [vI x0] I = if x0 = 0 ∨ x0 = 1 then some (some (vI x0), I) else none := st_retZ (ins_of mI_169 (by rfl)) mR_169 (Or.inl rfl)
theorem r170_0 : runs cal 170 0 [vR 70, v1, v2] [] I = runs cal 170 1 [vR 70, v1, v2] [vR 70] I := runs_to (ins_of mI_170 (by rfl)) rfl rfl
theorem r170_1 : runs cal 170 1 [v0, vI w, v2] [vR 70] I = runs cal 170 2 [v0, vI w, v2] [vI w, vR 70] I := runs_to (ins_of mI_170 (by rfl)) rfl rfl
theorem r170_2 : runs cal 170 2 [v0, v1, v2] [vI x0, vR 70] I = (cal 169 [vR 70, vI x0] I).bind (fun q => runs cal 170 5 [v0, v1, v2] (pushR q.1 []) q.2) := st_call (st := false) (ins_of mI_170 (by rfl)) mC_170 mr_11_131 (by decide) mS_169 mN_169 rfl (Nat.le_of_ble_eq_true rfl) rfl rfl (Or.inr ⟨_, _, rfl, rcv mC_169 rfl wid_170 (by decide +kernel)⟩) (Or.inl (wid_170.trans wid_169.symm))
theorem r170_5 : runs cal 170 5 [v0, v1, v2] [vI x0] I = if x0 = 0 then runs cal 170 42 [v0, v1, v2] [] I else runs cal 170 8 [v0, v1, v2] [] I := st_if_eq (ins_of mI_170 (by rfl)) (by decide)
theorem r170_8 : runs cal 170 8 [v0, v1, vI w] [] I = runs cal 170 9 [v0, v1, vI w] [vI w] I := runs_to (ins_of mI_170 (by rfl)) rfl rfl
theorem r170_9 : runs cal 170 9 [v0, v1, v2] [vI x0] I = runs cal 170 10 [v0, v1, v2] [vL x0] I := runs_to (ins_of mI_170 (by rfl)) rfl rfl
theorem r170_10 : runs cal 170 10 [vR 70, v1, v2] [vL x0] I = runs cal 170 11 [vR 70, v1, v2] [vR 70, vL x0] I := runs_to (ins_of mI_170 (by rfl)) rfl rfl
theorem r170_11 : runs cal 170 11 [v0, v1, v2] [vR 70, vL x1] I = runs cal 170 14 [v0, v1, v2] [vR 78, vL x1] I := st_getR (ins_of mI_170 (by rfl)) mC_170 (by decide) fr_11_33 cT_70 (wdc wid_170 wd_70) rfl rfl
theorem r170_14 : runs cal 170 14 [v0, vI w, v2] [vR 78, vL x1] I = runs cal 170 15 [v0, vI w, v2] [vI w, vR 78, vL x1] I := runs_to (ins_of mI_170 (by rfl)) rfl rfl
theorem r170_15 : runs cal 170 15 [v0, v1, v2] [vI x0, vR 78, vL x2] I = if 0 ≤ x0 ∧ x0 < 2 then runs cal 170 16 [v0, v1, v2] [vI (I 78 x0), vL x2] I else none := st_iald (ins_of mI_170 (by rfl)) cT_78 (wdc wid_170 wd_78)
theorem r170_16 : runs cal 170 16 [v0, v1, v2] [vI x0, vL x1] I = runs cal 170 17 [v0, v1, v2] [vL x0, vL x1] I := runs_to (ins_of mI_170 (by rfl)) rfl rfl
theorem r170_17 : runs cal 170 17 [vR 70, v1, v2] [vL x0, vL x1] I = runs cal 170 18 [vR 70, v1, v2] [vR 70, vL x0, vL x1] I := runs_to (ins_of mI_170 (by rfl)) rfl rfl
theorem r170_18 : runs cal 170 18 [v0, v1, v2] [vR 70, vL x1, vL x2] I = runs cal 170 21 [v0, v1, v2] [vR 78, vL x1, vL x2] I := st_getR (ins_of mI_170 (by rfl)) mC_170 (by decide) fr_11_33 cT_70 (wdc wid_170 wd_70) rfl rfl
theorem r170_21 : runs cal 170 21 [v0, vI w, v2] [vR 78, vL x1, vL x2] I = runs cal 170 22 [v0, vI w, v2] [vI w, vR 78, vL x1, vL x2] I := runs_to (ins_of mI_170 (by rfl)) rfl rfl
theorem r170_22 : runs cal 170 22 [v0, v1, v2] [vI x0, vR 78, vL x2, vL x3] I = if 0 ≤ x0 ∧ x0 < 2 then runs cal 170 23 [v0, v1, v2] [vI (I 78 x0), vL x2, vL x3] I else none := st_iald (ins_of mI_170 (by rfl)) cT_78 (wdc wid_170 wd_78)
theorem r170_23 : runs cal 170 23 [vR 70, v1, v2] [vI x0, vL x1, vL x2] I = runs cal 170 24 [vR 70, v1, v2] [vR 70, vI x0, vL x1, vL x2] I := runs_to (ins_of mI_170 (by rfl)) rfl rfl
theorem r170_24 : runs cal 170 24 [v0, vI w, v2] [vR 70, vI x1, vL x2, vL x3] I = runs cal 170 25 [v0, vI w, v2] [vI w, vR 70, vI x1, vL x2, vL x3] I := runs_to (ins_of mI_170 (by rfl)) rfl rfl
theorem r170_25 : runs cal 170 25 [v0, v1, v2] [vI x0, vR 70, vI x2, vL x3, vL x4] I = (cal 167 [vR 70, vI x0] I).bind (fun q => runs cal 170 28 [v0, v1, v2] (pushR q.1 [vI x2, vL x3, vL x4]) q.2) := st_call (st := false) (ins_of mI_170 (by rfl)) mC_170 mr_11_134 (by decide) mS_167 mN_167 rfl (Nat.le_of_ble_eq_true rfl) rfl rfl (Or.inr ⟨_, _, rfl, rcv mC_167 rfl wid_170 (by decide +kernel)⟩) (Or.inl (wid_170.trans wid_167.symm))
theorem r170_28 : runs cal 170 28 [v0, v1, v2] [vI x0, vI x1, vL x2, vL x3] I = runs cal 170 29 [v0, v1, v2] [vI (iadd x1 x0), vL x2, vL x3] I := runs_to (ins_of mI_170 (by rfl)) rfl rfl
theorem r170_29 : runs cal 170 29 [v0, v1, v2] [vI x0, vL x1, vL x2] I = runs cal 170 30 [v0, v1, v2] [vI (1), vI x0, vL x1, vL x2] I := runs_to (ins_of mI_170 (by rfl)) rfl rfl
theorem r170_30 : runs cal 170 30 [v0, v1, v2] [vI x0, vI x1, vL x2, vL x3] I = runs cal 170 31 [v0, v1, v2] [vI (isub x1 x0), vL x2, vL x3] I := runs_to (ins_of mI_170 (by rfl)) rfl rfl
theorem r170_31 : runs cal 170 31 [v0, v1, v2] [vI x0, vL x1, vL x2] I = runs cal 170 32 [v0, v1, v2] [vL x0, vL x1, vL x2] I := runs_to (ins_of mI_170 (by rfl)) rfl rfl
theorem r170_32 : runs cal 170 32 [v0, v1, v2] [vL x0, vL x1, vL x2] I = (cal 142 [vL x2, vL x1, vL x0] I).bind (fun q => runs cal 170 35 [v0, v1, v2] (pushR q.1 []) q.2) := st_call (st := true) (ins_of mI_170 (by rfl)) mC_170 mr_11_121 (by decide) mS_142 mN_142 rfl (Nat.le_of_ble_eq_true rfl) rfl rfl (Or.inl rfl) (Or.inl (wid_170.trans wid_142.symm))
theorem r170_35 : runs cal 170 35 [v0, v1, v2] [vI x0] I = if x0 = 0 then runs cal 170 42 [v0, v1, v2] [] I else runs cal 170 38 [v0, v1, v2] [] I := st_if_eq (ins_of mI_170 (by rfl)) (by decide)
theorem r170_38 : runs cal 170 38 [v0, v1, v2] [] I = runs cal 170 39 [v0, v1, v2] [vI (1)] I := runs_to (ins_of mI_170 (by rfl)) rfl rfl
theorem r170_39 : runs cal 170 39 [v0, v1, v2] [vI x0] I = runs cal 170 43 [v0, v1, v2] [vI x0] I := st_goto (ins_of mI_170 (by rfl)) (by decide)
theorem r170_42 : runs cal 170 42 [v0, v1, v2] [] I = runs cal 170 43 [v0, v1, v2] [vI (0)] I := runs_to (ins_of mI_170 (by rfl)) rfl rfl
theorem r170_43 : runs cal 170 43 [v0, v1, v2] [vI x0] I = if x0 = 0 ∨ x0 = 1 then some (some (vI x0), I) else none := st_retZ (ins_of mI_170 (by rfl)) mR_170 (Or.inl rfl)
theorem r171_0 : runs cal 171 0 [v0, v1, v2, v3] [] I = runs cal 171 1 [v0, v1, v2, v3] [vI (0)] I := runs_to (ins_of mI_171 (by rfl)) rfl rfl
theorem r171_1 : runs cal 171 1 [v0, vI u, v2, v3] [vI x0] I = runs cal 171 2 [v0, vI u, vI x0, v3] [] I := runs_to (ins_of mI_171 (by rfl)) rfl rfl
theorem r171_2 : runs cal 171 2 [v0, v1, v2, v3] [] I = runs cal 171 3 [v0, v1, v2, v3] [vI (0)] I := runs_to (ins_of mI_171 (by rfl)) rfl rfl
theorem r171_3 : runs cal 171 3 [v0, v1, vI u, v3] [vI x0] I = runs cal 171 4 [v0, v1, vI u, vI x0] [] I := runs_to (ins_of mI_171 (by rfl)) rfl rfl
theorem r171_4 : runs cal 171 4 [v0, v1, v2, vI w] [] I = runs cal 171 5 [v0, v1, v2, vI w] [vI w] I := runs_to (ins_of mI_171 (by rfl)) rfl rfl
theorem r171_5 : runs cal 171 5 [vR 70, v1, v2, v3] [vI x0] I = runs cal 171 6 [vR 70, v1, v2, v3] [vR 70, vI x0] I := runs_to (ins_of mI_171 (by rfl)) rfl rfl
theorem r171_6 : runs cal 171 6 [v0, v1, v2, v3] [vR 70, vI x1] I = (cal 160 [vR 70] I).bind (fun q => runs cal 171 9 [v0, v1, v2, v3] (pushR q.1 [vI x1]) q.2) := st_call (st := false) (ins_of mI_171 (by rfl)) mC_171 mr_11_125 (by decide) mS_160 mN_160 rfl (Nat.le_of_ble_eq_true rfl) rfl rfl (Or.inr ⟨_, _, rfl, rcv mC_160 rfl wid_171 (by decide +kernel)⟩) (Or.inl (wid_171.trans wid_160.symm))
theorem r171_9 : runs cal 171 9 [v0, v1, v2, v3] [vI x0, vI x1] I = if x1 < x0 then runs cal 171 12 [v0, v1, v2, v3] [] I else runs cal 171 37 [v0, v1, v2, v3] [] I := st_cmp_ge (ins_of mI_171 (by rfl)) (by decide)
theorem r171_12 : runs cal 171 12 [v0, v1, vI w, v3] [] I = runs cal 171 13 [v0, v1, vI w, v3] [vI w] I := runs_to (ins_of mI_171 (by rfl)) rfl rfl
theorem r171_13 : runs cal 171 13 [v0, v1, v2, v3] [vI x0] I = if x0 = 0 then runs cal 171 16 [v0, v1, v2, v3] [] I else runs cal 171 25 [v0, v1, v2, v3] [] I := st_if_ne (ins_of mI_171 (by rfl)) (by decide)
theorem r171_16 : runs cal 171 16 [vR 70, v1, v2, v3] [] I = runs cal 171 17 [vR 70, v1, v2, v3] [vR 70] I := runs_to (ins_of mI_171 (by rfl)) rfl rfl
theorem r171_17 : runs cal 171 17 [v0, v1, v2, vI w] [vR 70] I = runs cal 171 18 [v0, v1, v2, vI w] [vI w, vR 70] I := runs_to (ins_of mI_171 (by rfl)) rfl rfl
theorem r171_18 : runs cal 171 18 [v0, vI w, v2, v3] [vI x0, vR 70] I = runs cal 171 19 [v0, vI w, v2, v3] [vI w, vI x0, vR 70] I := runs_to (ins_of mI_171 (by rfl)) rfl rfl
theorem r171_19 : runs cal 171 19 [v0, v1, v2, v3] [vI x0, vI x1, vR 70] I = (cal 170 [vR 70, vI x1, vI x0] I).bind (fun q => runs cal 171 22 [v0, v1, v2, v3] (pushR q.1 []) q.2) := st_call (st := false) (ins_of mI_171 (by rfl)) mC_171 mr_11_138 (by decide) mS_170 mN_170 rfl (Nat.le_of_ble_eq_true rfl) rfl rfl (Or.inr ⟨_, _, rfl, rcv mC_170 rfl wid_171 (by decide +kernel)⟩) (Or.inl (wid_171.trans wid_170.symm))
theorem r171_22 : runs cal 171 22 [v0, v1, v2, v3] [vI x0] I = if x0 = 0 then runs cal 171 29 [v0, v1, v2, v3] [] I else runs cal 171 25 [v0, v1, v2, v3] [] I := st_if_eq (ins_of mI_171 (by rfl)) (by decide)
theorem r171_25 : runs cal 171 25 [v0, v1, v2, v3] [] I = runs cal 171 26 [v0, v1, v2, v3] [vI (1)] I := runs_to (ins_of mI_171 (by rfl)) rfl rfl
theorem r171_26 : runs cal 171 26 [v0, v1, v2, v3] [vI x0] I = runs cal 171 30 [v0, v1, v2, v3] [vI x0] I := st_goto (ins_of mI_171 (by rfl)) (by decide)
theorem r171_29 : runs cal 171 29 [v0, v1, v2, v3] [] I = runs cal 171 30 [v0, v1, v2, v3] [vI (0)] I := runs_to (ins_of mI_171 (by rfl)) rfl rfl
theorem r171_30 : runs cal 171 30 [v0, vI u, v2, v3] [vI x0] I = runs cal 171 31 [v0, vI u, vI x0, v3] [] I := runs_to (ins_of mI_171 (by rfl)) rfl rfl
theorem r171_31 : runs cal 171 31 [v0, v1, vI u, vI w] [] I = runs cal 171 34 [v0, v1, vI u, vI (iadd w (1))] [] I := runs_to (ins_of mI_171 (by rfl)) rfl rfl
theorem r171_34 : runs cal 171 34 [v0, v1, v2, v3] [] I = runs cal 171 4 [v0, v1, v2, v3] [] I := st_goto (ins_of mI_171 (by rfl)) (by decide)
theorem r171_37 : runs cal 171 37 [v0, v1, vI w, v3] [] I = runs cal 171 38 [v0, v1, vI w, v3] [vI w] I := runs_to (ins_of mI_171 (by rfl)) rfl rfl
theorem r171_38 : runs cal 171 38 [v0, v1, v2, v3] [vI x0] I = if x0 = 0 ∨ x0 = 1 then some (some (vI x0), I) else none := st_retZ (ins_of mI_171 (by rfl)) mR_171 (Or.inl rfl)
theorem r172_0 : runs cal 172 0 [v0, vI w] [] I = runs cal 172 1 [v0, vI w] [vI w] I := runs_to (ins_of mI_172 (by rfl)) rfl rfl
theorem r172_1 : runs cal 172 1 [v0, v1] [vI x0] I = runs cal 172 2 [v0, v1] [vL x0] I := runs_to (ins_of mI_172 (by rfl)) rfl rfl
theorem r172_2 : runs cal 172 2 [v0, v1] [vL x0] I = runs cal 172 3 [v0, v1] [vL 0, vL x0] I := runs_to (ins_of mI_172 (by rfl)) rfl rfl
theorem r172_3 : runs cal 172 3 [vR 70, v1] [vL x0, vL x1] I = runs cal 172 4 [vR 70, v1] [vR 70, vL x0, vL x1] I := runs_to (ins_of mI_172 (by rfl)) rfl rfl
theorem r172_4 : runs cal 172 4 [v0, v1] [vR 70, vL x1, vL x2] I = (cal 163 [vR 70] I).bind (fun q => runs cal 172 7 [v0, v1] (pushR q.1 [vL x1, vL x2]) q.2) := st_call (st := false) (ins_of mI_172 (by rfl)) mC_172 mr_11_142 (by decide) mS_163 mN_163 rfl (Nat.le_of_ble_eq_true rfl) rfl rfl (Or.inr ⟨_, _, rfl, rcv mC_163 rfl wid_172 (by decide +kernel)⟩) (Or.inl (wid_172.trans wid_163.symm))
theorem r172_7 : runs cal 172 7 [v0, v1] [vI x0, vL x1, vL x2] I = runs cal 172 8 [v0, v1] [vL x0, vL x1, vL x2] I := runs_to (ins_of mI_172 (by rfl)) rfl rfl
theorem r172_8 : runs cal 172 8 [v0, v1] [vL x0, vL x1, vL x2] I = (cal 142 [vL x2, vL x1, vL x0] I).bind (fun q => runs cal 172 11 [v0, v1] (pushR q.1 []) q.2) := st_call (st := true) (ins_of mI_172 (by rfl)) mC_172 mr_11_121 (by decide) mS_142 mN_142 rfl (Nat.le_of_ble_eq_true rfl) rfl rfl (Or.inl rfl) (Or.inl (wid_172.trans wid_142.symm))
theorem r172_11 : runs cal 172 11 [v0, v1] [vI x0] I = if x0 = 0 then runs cal 172 38 [v0, v1] [] I else runs cal 172 14 [v0, v1] [] I := st_if_eq (ins_of mI_172 (by rfl)) (by decide)
theorem r172_14 : runs cal 172 14 [vR 70, v1] [] I = runs cal 172 15 [vR 70, v1] [vR 70] I := runs_to (ins_of mI_172 (by rfl)) rfl rfl
theorem r172_15 : runs cal 172 15 [v0, v1] [vR 70] I = runs cal 172 18 [v0, v1] [vR 71] I := st_getR (ins_of mI_172 (by rfl)) mC_172 (by decide) fr_11_7 cT_70 (wdc wid_172 wd_70) rfl rfl
theorem r172_18 : runs cal 172 18 [v0, v1] [vR 71] I = runs cal 172 19 [v0, v1] [vI (0), vR 71] I := runs_to (ins_of mI_172 (by rfl)) rfl rfl
theorem r172_19 : runs cal 172 19 [v0, vI w] [vI x0, vR 71] I = runs cal 172 20 [v0, vI w] [vI w, vI x0, vR 71] I := runs_to (ins_of mI_172 (by rfl)) rfl rfl
theorem r172_20 : runs cal 172 20 [v0, v1] [vI x0, vI x1, vR 71] I = runs cal 172 21 [v0, v1] [vI (iadd x1 x0), vR 71] I := runs_to (ins_of mI_172 (by rfl)) rfl rfl
theorem r172_21 : runs cal 172 21 [v0, v1] [vI x0, vR 71] I = if 0 ≤ x0 ∧ x0 < 110 then runs cal 172 22 [v0, v1] [vI (I 71 x0)] I else none := st_iald (ins_of mI_172 (by rfl)) cT_71 (wdc wid_172 wd_71)
theorem r172_22 : runs cal 172 22 [v0, v1] [vI x0] I = runs cal 172 23 [v0, v1] [vI (2), vI x0] I := runs_to (ins_of mI_172 (by rfl)) rfl rfl
theorem r172_23 : runs cal 172 23 [v0, v1] [vI x0, vI x1] I = if x1 = x0 then runs cal 172 26 [v0, v1] [] I else runs cal 172 34 [v0, v1] [] I := st_cmp_ne (ins_of mI_172 (by rfl)) (by decide)
theorem r172_26 : runs cal 172 26 [vR 70, v1] [] I = runs cal 172 27 [vR 70, v1] [vR 70] I := runs_to (ins_of mI_172 (by rfl)) rfl rfl
theorem r172_27 : runs cal 172 27 [v0, vI w] [vR 70] I = runs cal 172 28 [v0, vI w] [vI w, vR 70] I := runs_to (ins_of mI_172 (by rfl)) rfl rfl
theorem r172_28 : runs cal 172 28 [v0, v1] [vI x0, vR 70] I = (cal 171 [vR 70, vI x0] I).bind (fun q => runs cal 172 31 [v0, v1] (pushR q.1 []) q.2) := st_call (st := false) (ins_of mI_172 (by rfl)) mC_172 mr_11_145 (by decide) mS_171 mN_171 rfl (Nat.le_of_ble_eq_true rfl) rfl rfl (Or.inr ⟨_, _, rfl, rcv mC_171 rfl wid_172 (by decide +kernel)⟩) (Or.inl (wid_172.trans wid_171.symm))
theorem r172_31 : runs cal 172 31 [v0, v1] [vI x0] I = if x0 = 0 then runs cal 172 38 [v0, v1] [] I else runs cal 172 34 [v0, v1] [] I := st_if_eq (ins_of mI_172 (by rfl)) (by decide)
theorem r172_34 : runs cal 172 34 [v0, v1] [] I = runs cal 172 35 [v0, v1] [vI (1)] I := runs_to (ins_of mI_172 (by rfl)) rfl rfl
theorem r172_35 : runs cal 172 35 [v0, v1] [vI x0] I = runs cal 172 39 [v0, v1] [vI x0] I := st_goto (ins_of mI_172 (by rfl)) (by decide)
theorem r172_38 : runs cal 172 38 [v0, v1] [] I = runs cal 172 39 [v0, v1] [vI (0)] I := runs_to (ins_of mI_172 (by rfl)) rfl rfl
theorem r172_39 : runs cal 172 39 [v0, v1] [vI x0] I = if x0 = 0 ∨ x0 = 1 then some (some (vI x0), I) else none := st_retZ (ins_of mI_172 (by rfl)) mR_172 (Or.inl rfl)
theorem r173_0 : runs cal 173 0 [v0, v1, v2, v3] [] I = runs cal 173 1 [v0, v1, v2, v3] [vI (-1)] I := runs_to (ins_of mI_173 (by rfl)) rfl rfl
theorem r173_1 : runs cal 173 1 [v0, vI u, v2, v3] [vI x0] I = runs cal 173 2 [v0, vI u, vI x0, v3] [] I := runs_to (ins_of mI_173 (by rfl)) rfl rfl
theorem r173_2 : runs cal 173 2 [v0, v1, v2, v3] [] I = runs cal 173 3 [v0, v1, v2, v3] [vI (0)] I := runs_to (ins_of mI_173 (by rfl)) rfl rfl
theorem r173_3 : runs cal 173 3 [v0, v1, vI u, v3] [vI x0] I = runs cal 173 4 [v0, v1, vI u, vI x0] [] I := runs_to (ins_of mI_173 (by rfl)) rfl rfl
theorem r173_4 : runs cal 173 4 [v0, v1, v2, vI w] [] I = runs cal 173 5 [v0, v1, v2, vI w] [vI w] I := runs_to (ins_of mI_173 (by rfl)) rfl rfl
theorem r173_5 : runs cal 173 5 [vR 70, v1, v2, v3] [vI x0] I = runs cal 173 6 [vR 70, v1, v2, v3] [vR 70, vI x0] I := runs_to (ins_of mI_173 (by rfl)) rfl rfl
theorem r173_6 : runs cal 173 6 [v0, v1, v2, v3] [vR 70, vI x1] I = (cal 160 [vR 70] I).bind (fun q => runs cal 173 9 [v0, v1, v2, v3] (pushR q.1 [vI x1]) q.2) := st_call (st := false) (ins_of mI_173 (by rfl)) mC_173 mr_11_125 (by decide) mS_160 mN_160 rfl (Nat.le_of_ble_eq_true rfl) rfl rfl (Or.inr ⟨_, _, rfl, rcv mC_160 rfl wid_173 (by decide +kernel)⟩) (Or.inl (wid_173.trans wid_160.symm))
theorem r173_9 : runs cal 173 9 [v0, v1, v2, v3] [vI x0, vI x1] I = if x1 < x0 then runs cal 173 12 [v0, v1, v2, v3] [] I else runs cal 173 37 [v0, v1, v2, v3] [] I := st_cmp_ge (ins_of mI_173 (by rfl)) (by decide)
theorem r173_12 : runs cal 173 12 [vR 70, v1, v2, v3] [] I = runs cal 173 13 [vR 70, v1, v2, v3] [vR 70] I := runs_to (ins_of mI_173 (by rfl)) rfl rfl
theorem r173_13 : runs cal 173 13 [v0, v1, v2, v3] [vR 70] I = runs cal 173 16 [v0, v1, v2, v3] [vR 78] I := st_getR (ins_of mI_173 (by rfl)) mC_173 (by decide) fr_11_33 cT_70 (wdc wid_173 wd_70) rfl rfl
theorem r173_16 : runs cal 173 16 [v0, v1, v2, vI w] [vR 78] I = runs cal 173 17 [v0, v1, v2, vI w] [vI w, vR 78] I := runs_to (ins_of mI_173 (by rfl)) rfl rfl
theorem r173_17 : runs cal 173 17 [v0, v1, v2, v3] [vI x0, vR 78] I = if 0 ≤ x0 ∧ x0 < 2 then runs cal 173 18 [v0, v1, v2, v3] [vI (I 78 x0)] I else none := st_iald (ins_of mI_173 (by rfl)) cT_78 (wdc wid_173 wd_78)
theorem r173_18 : runs cal 173 18 [v0, v1, v2, v3] [vI x0] I = runs cal 173 20 [v0, v1, v2, v3] [vI (8), vI x0] I := runs_to (ins_of mI_173 (by rfl)) rfl rfl
theorem r173_20 : runs cal 173 20 [v0, vI w, v2, v3] [vI x0, vI x1] I = runs cal 173 21 [v0, vI w, v2, v3] [vI w, vI x0, vI x1] I := runs_to (ins_of mI_173 (by rfl)) rfl rfl
theorem r173_21 : runs cal 173 21 [v0, v1, v2, v3] [vI x0, vI x1, vI x2] I = runs cal 173 22 [v0, v1, v2, v3] [vI (iadd x1 x0), vI x2] I := runs_to (ins_of mI_173 (by rfl)) rfl rfl
theorem r173_22 : runs cal 173 22 [v0, v1, v2, v3] [vI x0, vI x1] I = if x1 = x0 then runs cal 173 25 [v0, v1, v2, v3] [] I else runs cal 173 29 [v0, v1, v2, v3] [] I := st_cmp_ne (ins_of mI_173 (by rfl)) (by decide)
theorem r173_25 : runs cal 173 25 [v0, v1, v2, vI w] [] I = runs cal 173 26 [v0, v1, v2, vI w] [vI w] I := runs_to (ins_of mI_173 (by rfl)) rfl rfl
theorem r173_26 : runs cal 173 26 [v0, v1, v2, v3] [vI x0] I = runs cal 173 30 [v0, v1, v2, v3] [vI x0] I := st_goto (ins_of mI_173 (by rfl)) (by decide)
theorem r173_29 : runs cal 173 29 [v0, v1, vI w, v3] [] I = runs cal 173 30 [v0, v1, vI w, v3] [vI w] I := runs_to (ins_of mI_173 (by rfl)) rfl rfl
theorem r173_30 : runs cal 173 30 [v0, vI u, v2, v3] [vI x0] I = runs cal 173 31 [v0, vI u, vI x0, v3] [] I := runs_to (ins_of mI_173 (by rfl)) rfl rfl
theorem r173_31 : runs cal 173 31 [v0, v1, vI u, vI w] [] I = runs cal 173 34 [v0, v1, vI u, vI (iadd w (1))] [] I := runs_to (ins_of mI_173 (by rfl)) rfl rfl
theorem r173_34 : runs cal 173 34 [v0, v1, v2, v3] [] I = runs cal 173 4 [v0, v1, v2, v3] [] I := st_goto (ins_of mI_173 (by rfl)) (by decide)
theorem r173_37 : runs cal 173 37 [v0, v1, vI w, v3] [] I = runs cal 173 38 [v0, v1, vI w, v3] [vI w] I := runs_to (ins_of mI_173 (by rfl)) rfl rfl
theorem r173_38 : runs cal 173 38 [v0, v1, v2, v3] [vI x0] I = some (some (vI x0), I) := st_ret (q := some (vI x0)) (k := 0) (ins_of mI_173 (by rfl)) rfl (by decide) mR_173 rfl trivial
theorem r174_0 : runs cal 174 0 [vR 70, v1] [] I = runs cal 174 1 [vR 70, v1] [vR 70] I := runs_to (ins_of mI_174 (by rfl)) rfl rfl
theorem r174_1 : runs cal 174 1 [v0, v1] [vR 70] I = runs cal 174 4 [v0, v1] [vR 71] I := st_getR (ins_of mI_174 (by rfl)) mC_174 (by decide) fr_11_7 cT_70 (wdc wid_174 wd_70) rfl rfl
theorem r174_4 : runs cal 174 4 [v0, v1] [vR 71] I = runs cal 174 6 [v0, v1] [vI (9), vR 71] I := runs_to (ins_of mI_174 (by rfl)) rfl rfl
theorem r174_6 : runs cal 174 6 [v0, v1] [vI x0, vR 71] I = runs cal 174 7 [v0, v1] [vI (3), vI x0, vR 71] I := runs_to (ins_of mI_174 (by rfl)) rfl rfl
theorem r174_7 : runs cal 174 7 [v0, vI w] [vI x0, vI x1, vR 71] I = runs cal 174 8 [v0, vI w] [vI w, vI x0, vI x1, vR 71] I := runs_to (ins_of mI_174 (by rfl)) rfl rfl
theorem r174_8 : runs cal 174 8 [v0, v1] [vI x0, vI x1, vI x2, vR 71] I = runs cal 174 9 [v0, v1] [vI (imul x1 x0), vI x2, vR 71] I := runs_to (ins_of mI_174 (by rfl)) rfl rfl
theorem r174_9 : runs cal 174 9 [v0, v1] [vI x0, vI x1, vR 71] I = runs cal 174 10 [v0, v1] [vI (iadd x1 x0), vR 71] I := runs_to (ins_of mI_174 (by rfl)) rfl rfl
theorem r174_10 : runs cal 174 10 [v0, v1] [vI x0, vR 71] I = if 0 ≤ x0 ∧ x0 < 110 then runs cal 174 11 [v0, v1] [vI (I 71 x0)] I else none := st_iald (ins_of mI_174 (by rfl)) cT_71 (wdc wid_174 wd_71)
theorem r174_11 : runs cal 174 11 [vR 70, v1] [vI x0] I = runs cal 174 12 [vR 70, v1] [vR 70, vI x0] I := runs_to (ins_of mI_174 (by rfl)) rfl rfl
theorem r174_12 : runs cal 174 12 [v0, vI w] [vR 70, vI x1] I = runs cal 174 13 [v0, vI w] [vI w, vR 70, vI x1] I := runs_to (ins_of mI_174 (by rfl)) rfl rfl
theorem r174_13 : runs cal 174 13 [v0, v1] [vI x0, vR 70, vI x2] I = (cal 173 [vR 70, vI x0] I).bind (fun q => runs cal 174 16 [v0, v1] (pushR q.1 [vI x2]) q.2) := st_call (st := false) (ins_of mI_174 (by rfl)) mC_174 mr_11_148 (by decide) mS_173 mN_173 rfl (Nat.le_of_ble_eq_true rfl) rfl rfl (Or.inr ⟨_, _, rfl, rcv mC_173 rfl wid_174 (by decide +kernel)⟩) (Or.inl (wid_174.trans wid_173.symm))
theorem r174_16 : runs cal 174 16 [v0, v1] [vI x0, vI x1] I = runs cal 174 17 [v0, v1] [vI (-1), vI x0, vI x1] I := runs_to (ins_of mI_174 (by rfl)) rfl rfl
theorem r174_17 : runs cal 174 17 [v0, v1] [vI x0, vI x1, vI x2] I = if x1 = x0 then runs cal 174 20 [v0, v1] [vI x2] I else runs cal 174 24 [v0, v1] [vI x2] I := st_cmp_ne (ins_of mI_174 (by rfl)) (by decide)
theorem r174_20 : runs cal 174 20 [v0, v1] [vI x0] I = runs cal 174 21 [v0, v1] [vI (0), vI x0] I := runs_to (ins_of mI_174 (by rfl)) rfl rfl
theorem r174_21 : runs cal 174 21 [v0, v1] [vI x0, vI x1] I = runs cal 174 25 [v0, v1] [vI x0, vI x1] I := st_goto (ins_of mI_174 (by rfl)) (by decide)
theorem r174_24 : runs cal 174 24 [v0, v1] [vI x0] I = runs cal 174 25 [v0, v1] [vI (2), vI x0] I := runs_to (ins_of mI_174 (by rfl)) rfl rfl
theorem r174_25 : runs cal 174 25 [v0, v1] [vI x0, vI x1] I = runs cal 174 26 [v0, v1] [vI (iadd x1 x0)] I := runs_to (ins_of mI_174 (by rfl)) rfl rfl
theorem r174_26 : runs cal 174 26 [v0, v1] [vI x0] I = some (some (vI x0), I) := st_ret (q := some (vI x0)) (k := 0) (ins_of mI_174 (by rfl)) rfl (by decide) mR_174 rfl trivial
theorem r175_0 : runs cal 175 0 [v0, v1, v2, v3] [] I = runs cal 175 1 [v0, v1, v2, v3] [vI (0)] I := runs_to (ins_of mI_175 (by rfl)) rfl rfl
theorem r175_1 : runs cal 175 1 [v0, vI u, v2, v3] [vI x0] I = runs cal 175 2 [v0, vI u, vI x0, v3] [] I := runs_to (ins_of mI_175 (by rfl)) rfl rfl
theorem r175_2 : runs cal 175 2 [v0, v1, v2, v3] [] I = runs cal 175 3 [v0, v1, v2, v3] [vI (0)] I := runs_to (ins_of mI_175 (by rfl)) rfl rfl
theorem r175_3 : runs cal 175 3 [v0, v1, vI u, v3] [vI x0] I = runs cal 175 4 [v0, v1, vI u, vI x0] [] I := runs_to (ins_of mI_175 (by rfl)) rfl rfl
theorem r175_4 : runs cal 175 4 [v0, v1, v2, vI w] [] I = runs cal 175 5 [v0, v1, v2, vI w] [vI w] I := runs_to (ins_of mI_175 (by rfl)) rfl rfl
theorem r175_5 : runs cal 175 5 [vR 70, v1, v2, v3] [vI x0] I = runs cal 175 6 [vR 70, v1, v2, v3] [vR 70, vI x0] I := runs_to (ins_of mI_175 (by rfl)) rfl rfl
theorem r175_6 : runs cal 175 6 [v0, v1, v2, v3] [vR 70, vI x1] I = (cal 159 [vR 70] I).bind (fun q => runs cal 175 9 [v0, v1, v2, v3] (pushR q.1 [vI x1]) q.2) := st_call (st := false) (ins_of mI_175 (by rfl)) mC_175 mr_11_117 (by decide) mS_159 mN_159 rfl (Nat.le_of_ble_eq_true rfl) rfl rfl (Or.inr ⟨_, _, rfl, rcv mC_159 rfl wid_175 (by decide +kernel)⟩) (Or.inl (wid_175.trans wid_159.symm))
theorem r175_9 : runs cal 175 9 [v0, v1, v2, v3] [vI x0, vI x1] I = if x1 < x0 then runs cal 175 12 [v0, v1, v2, v3] [] I else runs cal 175 44 [v0, v1, v2, v3] [] I := st_cmp_ge (ins_of mI_175 (by rfl)) (by decide)
theorem r175_12 : runs cal 175 12 [v0, v1, vI w, v3] [] I = runs cal 175 13 [v0, v1, vI w, v3] [vI w] I := runs_to (ins_of mI_175 (by rfl)) rfl rfl
theorem r175_13 : runs cal 175 13 [vR 70, v1, v2, v3] [vI x0] I = runs cal 175 14 [vR 70, v1, v2, v3] [vR 70, vI x0] I := runs_to (ins_of mI_175 (by rfl)) rfl rfl
theorem r175_14 : runs cal 175 14 [v0, vI w, v2, v3] [vR 70, vI x1] I = runs cal 175 15 [v0, vI w, v2, v3] [vI w, vR 70, vI x1] I := runs_to (ins_of mI_175 (by rfl)) rfl rfl
theorem r175_15 : runs cal 175 15 [vR 70, v1, v2, v3] [vI x0, vR 70, vI x2] I = runs cal 175 16 [vR 70, v1, v2, v3] [vR 70, vI x0, vR 70, vI x2] I := runs_to (ins_of mI_175 (by rfl)) rfl rfl
theorem r175_16 : runs cal 175 16 [v0, v1, v2, v3] [vR 70, vI x1, vR 70, vI x3] I = runs cal 175 19 [v0, v1, v2, v3] [vR 77, vI x1, vR 70, vI x3] I := st_getR (ins_of mI_175 (by rfl)) mC_175 (by decide) fr_11_30 cT_70 (wdc wid_175 wd_70) rfl rfl
theorem r175_19 : runs cal 175 19 [v0, v1, v2, vI w] [vR 77, vI x1, vR 70, vI x3] I = runs cal 175 20 [v0, v1, v2, vI w] [vI w, vR 77, vI x1, vR 70, vI x3] I := runs_to (ins_of mI_175 (by rfl)) rfl rfl
theorem r175_20 : runs cal 175 20 [v0, v1, v2, v3] [vI x0, vR 77, vI x2, vR 70, vI x4] I = if 0 ≤ x0 ∧ x0 < 3 then runs cal 175 21 [v0, v1, v2, v3] [vI (I 77 x0), vI x2, vR 70, vI x4] I else none := st_iald (ins_of mI_175 (by rfl)) cT_77 (wdc wid_175 wd_77)
theorem r175_21 : runs cal 175 21 [v0, v1, v2, v3] [vI x0, vI x1, vR 70, vI x3] I = (cal 170 [vR 70, vI x1, vI x0] I).bind (fun q => runs cal 175 24 [v0, v1, v2, v3] (pushR q.1 [vI x3]) q.2) := st_call (st := false) (ins_of mI_175 (by rfl)) mC_175 mr_11_138 (by decide) mS_170 mN_170 rfl (Nat.le_of_ble_eq_true rfl) rfl rfl (Or.inr ⟨_, _, rfl, rcv mC_170 rfl wid_175 (by decide +kernel)⟩) (Or.inl (wid_175.trans wid_170.symm))
theorem r175_24 : runs cal 175 24 [v0, v1, v2, v3] [vI x0, vI x1] I = if x0 = 0 then runs cal 175 35 [v0, v1, v2, v3] [vI x1] I else runs cal 175 27 [v0, v1, v2, v3] [vI x1] I := st_if_eq (ins_of mI_175 (by rfl)) (by decide)
theorem r175_27 : runs cal 175 27 [vR 70, v1, v2, v3] [vI x0] I = runs cal 175 28 [vR 70, v1, v2, v3] [vR 70, vI x0] I := runs_to (ins_of mI_175 (by rfl)) rfl rfl
theorem r175_28 : runs cal 175 28 [v0, v1, v2, vI w] [vR 70, vI x1] I = runs cal 175 29 [v0, v1, v2, vI w] [vI w, vR 70, vI x1] I := runs_to (ins_of mI_175 (by rfl)) rfl rfl
theorem r175_29 : runs cal 175 29 [v0, v1, v2, v3] [vI x0, vR 70, vI x2] I = (cal 174 [vR 70, vI x0] I).bind (fun q => runs cal 175 32 [v0, v1, v2, v3] (pushR q.1 [vI x2]) q.2) := st_call (st := false) (ins_of mI_175 (by rfl)) mC_175 mr_11_151 (by decide) mS_174 mN_174 rfl (Nat.le_of_ble_eq_true rfl) rfl rfl (Or.inr ⟨_, _, rfl, rcv mC_174 rfl wid_175 (by decide +kernel)⟩) (Or.inl (wid_175.trans wid_174.symm))
theorem r175_32 : runs cal 175 32 [v0, v1, v2, v3] [vI x0, vI x1] I = runs cal 175 36 [v0, v1, v2, v3] [vI x0, vI x1] I := st_goto (ins_of mI_175 (by rfl)) (by decide)
theorem r175_35 : runs cal 175 35 [v0, v1, v2, v3] [vI x0] I = runs cal 175 36 [v0, v1, v2, v3] [vI (0), vI x0] I := runs_to (ins_of mI_175 (by rfl)) rfl rfl
theorem r175_36 : runs cal 175 36 [v0, v1, v2, v3] [vI x0, vI x1] I = runs cal 175 37 [v0, v1, v2, v3] [vI (iadd x1 x0)] I := runs_to (ins_of mI_175 (by rfl)) rfl rfl
theorem r175_37 : runs cal 175 37 [v0, vI u, v2, v3] [vI x0] I = runs cal 175 38 [v0, vI u, vI x0, v3] [] I := runs_to (ins_of mI_175 (by rfl)) rfl rfl
theorem r175_38 : runs cal 175 38 [v0, v1, vI u, vI w] [] I = runs cal 175 41 [v0, v1, vI u, vI (iadd w (1))] [] I := runs_to (ins_of mI_175 (by rfl)) rfl rfl
theorem r175_41 : runs cal 175 41 [v0, v1, v2, v3] [] I = runs cal 175 4 [v0, v1, v2, v3] [] I := st_goto (ins_of mI_175 (by rfl)) (by decide)
theorem r175_44 : runs cal 175 44 [v0, v1, vI w, v3] [] I = runs cal 175 45 [v0, v1, vI w, v3] [vI w] I := runs_to (ins_of mI_175 (by rfl)) rfl rfl
theorem r175_45 : runs cal 175 45 [v0, v1, v2, v3] [vI x0] I = some (some (vI x0), I) := st_ret (q := some (vI x0)) (k := 0) (ins_of mI_175 (by rfl)) rfl (by decide) mR_175 rfl trivial
theorem r176_0 : runs cal 176 0 [v0, v1, v2] [] I = runs cal 176 1 [v0, v1, v2] [vI (1)] I := runs_to (ins_of mI_176 (by rfl)) rfl rfl
theorem r176_1 : runs cal 176 1 [vR b0, v1, v2] [vI x0] I = runs cal 176 2 [vR b0, vI x0, v2] [] I := runs_to (ins_of mI_176 (by rfl)) rfl rfl
theorem r176_2 : runs cal 176 2 [v0, v1, v2] [] I = runs cal 176 3 [v0, v1, v2] [vI (0)] I := runs_to (ins_of mI_176 (by rfl)) rfl rfl
theorem r176_3 : runs cal 176 3 [v0, vI u, v2] [vI x0] I = runs cal 176 4 [v0, vI u, vI x0] [] I := runs_to (ins_of mI_176 (by rfl)) rfl rfl
theorem r176_4 : runs cal 176 4 [v0, v1, vI w] [] I = runs cal 176 5 [v0, v1, vI w] [vI w] I := runs_to (ins_of mI_176 (by rfl)) rfl rfl
theorem r176_5 : runs cal 176 5 [vR 70, v1, v2] [vI x0] I = runs cal 176 6 [vR 70, v1, v2] [vR 70, vI x0] I := runs_to (ins_of mI_176 (by rfl)) rfl rfl
theorem r176_6 : runs cal 176 6 [v0, v1, v2] [vR 70, vI x1] I = (cal 159 [vR 70] I).bind (fun q => runs cal 176 9 [v0, v1, v2] (pushR q.1 [vI x1]) q.2) := st_call (st := false) (ins_of mI_176 (by rfl)) mC_176 mr_11_117 (by decide) mS_159 mN_159 rfl (Nat.le_of_ble_eq_true rfl) rfl rfl (Or.inr ⟨_, _, rfl, rcv mC_159 rfl wid_176 (by decide +kernel)⟩) (Or.inl (wid_176.trans wid_159.symm))
theorem r176_9 : runs cal 176 9 [v0, v1, v2] [vI x0, vI x1] I = if x1 < x0 then runs cal 176 12 [v0, v1, v2] [] I else runs cal 176 41 [v0, v1, v2] [] I := st_cmp_ge (ins_of mI_176 (by rfl)) (by decide)
theorem r176_12 : runs cal 176 12 [v0, vI w, v2] [] I = runs cal 176 13 [v0, vI w, v2] [vI w] I := runs_to (ins_of mI_176 (by rfl)) rfl rfl
theorem r176_13 : runs cal 176 13 [v0, v1, v2] [vI x0] I = if x0 = 0 then runs cal 176 33 [v0, v1, v2] [] I else runs cal 176 16 [v0, v1, v2] [] I := st_if_eq (ins_of mI_176 (by rfl)) (by decide)
theorem r176_16 : runs cal 176 16 [vR 70, v1, v2] [] I = runs cal 176 17 [vR 70, v1, v2] [vR 70] I := runs_to (ins_of mI_176 (by rfl)) rfl rfl
theorem r176_17 : runs cal 176 17 [vR 70, v1, v2] [vR 70] I = runs cal 176 18 [vR 70, v1, v2] [vR 70, vR 70] I := runs_to (ins_of mI_176 (by rfl)) rfl rfl
theorem r176_18 : runs cal 176 18 [v0, v1, v2] [vR 70, vR 70] I = runs cal 176 21 [v0, v1, v2] [vR 77, vR 70] I := st_getR (ins_of mI_176 (by rfl)) mC_176 (by decide) fr_11_30 cT_70 (wdc wid_176 wd_70) rfl rfl
theorem r176_21 : runs cal 176 21 [v0, v1, vI w] [vR 77, vR 70] I = runs cal 176 22 [v0, v1, vI w] [vI w, vR 77, vR 70] I := runs_to (ins_of mI_176 (by rfl)) rfl rfl
theorem r176_22 : runs cal 176 22 [v0, v1, v2] [vI x0, vR 77, vR 70] I = if 0 ≤ x0 ∧ x0 < 3 then runs cal 176 23 [v0, v1, v2] [vI (I 77 x0), vR 70] I else none := st_iald (ins_of mI_176 (by rfl)) cT_77 (wdc wid_176 wd_77)
theorem r176_23 : runs cal 176 23 [v0, v1, v2] [vI x0, vR 70] I = (cal 172 [vR 70, vI x0] I).bind (fun q => runs cal 176 26 [v0, v1, v2] (pushR q.1 []) q.2) := st_call (st := false) (ins_of mI_176 (by rfl)) mC_176 mr_11_154 (by decide) mS_172 mN_172 rfl (Nat.le_of_ble_eq_true rfl) rfl rfl (Or.inr ⟨_, _, rfl, rcv mC_172 rfl wid_176 (by decide +kernel)⟩) (Or.inl (wid_176.trans wid_172.symm))
theorem r176_26 : runs cal 176 26 [v0, v1, v2] [vI x0] I = if x0 = 0 then runs cal 176 33 [v0, v1, v2] [] I else runs cal 176 29 [v0, v1, v2] [] I := st_if_eq (ins_of mI_176 (by rfl)) (by decide)
theorem r176_29 : runs cal 176 29 [v0, v1, v2] [] I = runs cal 176 30 [v0, v1, v2] [vI (1)] I := runs_to (ins_of mI_176 (by rfl)) rfl rfl
theorem r176_30 : runs cal 176 30 [v0, v1, v2] [vI x0] I = runs cal 176 34 [v0, v1, v2] [vI x0] I := st_goto (ins_of mI_176 (by rfl)) (by decide)
theorem r176_33 : runs cal 176 33 [v0, v1, v2] [] I = runs cal 176 34 [v0, v1, v2] [vI (0)] I := runs_to (ins_of mI_176 (by rfl)) rfl rfl
theorem r176_34 : runs cal 176 34 [vR b0, v1, v2] [vI x0] I = runs cal 176 35 [vR b0, vI x0, v2] [] I := runs_to (ins_of mI_176 (by rfl)) rfl rfl
theorem r176_35 : runs cal 176 35 [v0, vI u, vI w] [] I = runs cal 176 38 [v0, vI u, vI (iadd w (1))] [] I := runs_to (ins_of mI_176 (by rfl)) rfl rfl
theorem r176_38 : runs cal 176 38 [v0, v1, v2] [] I = runs cal 176 4 [v0, v1, v2] [] I := st_goto (ins_of mI_176 (by rfl)) (by decide)
theorem r176_41 : runs cal 176 41 [v0, v1, v2] [] I = runs cal 176 42 [v0, v1, v2] [vI (0)] I := runs_to (ins_of mI_176 (by rfl)) rfl rfl
theorem r176_42 : runs cal 176 42 [v0, vI u, v2] [vI x0] I = runs cal 176 43 [v0, vI u, vI x0] [] I := runs_to (ins_of mI_176 (by rfl)) rfl rfl
theorem r176_43 : runs cal 176 43 [v0, v1, vI w] [] I = runs cal 176 44 [v0, v1, vI w] [vI w] I := runs_to (ins_of mI_176 (by rfl)) rfl rfl
theorem r176_44 : runs cal 176 44 [vR 70, v1, v2] [vI x0] I = runs cal 176 45 [vR 70, v1, v2] [vR 70, vI x0] I := runs_to (ins_of mI_176 (by rfl)) rfl rfl
theorem r176_45 : runs cal 176 45 [v0, v1, v2] [vR 70, vI x1] I = (cal 160 [vR 70] I).bind (fun q => runs cal 176 48 [v0, v1, v2] (pushR q.1 [vI x1]) q.2) := st_call (st := false) (ins_of mI_176 (by rfl)) mC_176 mr_11_125 (by decide) mS_160 mN_160 rfl (Nat.le_of_ble_eq_true rfl) rfl rfl (Or.inr ⟨_, _, rfl, rcv mC_160 rfl wid_176 (by decide +kernel)⟩) (Or.inl (wid_176.trans wid_160.symm))
theorem r176_48 : runs cal 176 48 [v0, v1, v2] [vI x0, vI x1] I = if x1 < x0 then runs cal 176 51 [v0, v1, v2] [] I else runs cal 176 80 [v0, v1, v2] [] I := st_cmp_ge (ins_of mI_176 (by rfl)) (by decide)
theorem r176_51 : runs cal 176 51 [v0, vI w, v2] [] I = runs cal 176 52 [v0, vI w, v2] [vI w] I := runs_to (ins_of mI_176 (by rfl)) rfl rfl
theorem r176_52 : runs cal 176 52 [v0, v1, v2] [vI x0] I = if x0 = 0 then runs cal 176 72 [v0, v1, v2] [] I else runs cal 176 55 [v0, v1, v2] [] I := st_if_eq (ins_of mI_176 (by rfl)) (by decide)
theorem r176_55 : runs cal 176 55 [vR 70, v1, v2] [] I = runs cal 176 56 [vR 70, v1, v2] [vR 70] I := runs_to (ins_of mI_176 (by rfl)) rfl rfl
theorem r176_56 : runs cal 176 56 [v0, v1, vI w] [vR 70] I = runs cal 176 57 [v0, v1, vI w] [vI w, vR 70] I := runs_to (ins_of mI_176 (by rfl)) rfl rfl
theorem r176_57 : runs cal 176 57 [v0, v1, v2] [vI x0, vR 70] I = (cal 175 [vR 70, vI x0] I).bind (fun q => runs cal 176 60 [v0, v1, v2] (pushR q.1 []) q.2) := st_call (st := false) (ins_of mI_176 (by rfl)) mC_176 mr_11_157 (by decide) mS_175 mN_175 rfl (Nat.le_of_ble_eq_true rfl) rfl rfl (Or.inr ⟨_, _, rfl, rcv mC_175 rfl wid_176 (by decide +kernel)⟩) (Or.inl (wid_176.trans wid_175.symm))
theorem r176_60 : runs cal 176 60 [vR 70, v1, v2] [vI x0] I = runs cal 176 61 [vR 70, v1, v2] [vR 70, vI x0] I := runs_to (ins_of mI_176 (by rfl)) rfl rfl
theorem r176_61 : runs cal 176 61 [v0, v1, vI w] [vR 70, vI x1] I = runs cal 176 62 [v0, v1, vI w] [vI w, vR 70, vI x1] I := runs_to (ins_of mI_176 (by rfl)) rfl rfl
theorem r176_62 : runs cal 176 62 [v0, v1, v2] [vI x0, vR 70, vI x2] I = (cal 168 [vR 70, vI x0] I).bind (fun q => runs cal 176 65 [v0, v1, v2] (pushR q.1 [vI x2]) q.2) := st_call (st := false) (ins_of mI_176 (by rfl)) mC_176 mr_11_160 (by decide) mS_168 mN_168 rfl (Nat.le_of_ble_eq_true rfl) rfl rfl (Or.inr ⟨_, _, rfl, rcv mC_168 rfl wid_176 (by decide +kernel)⟩) (Or.inl (wid_176.trans wid_168.symm))
theorem r176_65 : runs cal 176 65 [v0, v1, v2] [vI x0, vI x1] I = if x0 < x1 then runs cal 176 72 [v0, v1, v2] [] I else runs cal 176 68 [v0, v1, v2] [] I := st_cmp_gt (ins_of mI_176 (by rfl)) (by decide)
theorem r176_68 : runs cal 176 68 [v0, v1, v2] [] I = runs cal 176 69 [v0, v1, v2] [vI (1)] I := runs_to (ins_of mI_176 (by rfl)) rfl rfl
theorem r176_69 : runs cal 176 69 [v0, v1, v2] [vI x0] I = runs cal 176 73 [v0, v1, v2] [vI x0] I := st_goto (ins_of mI_176 (by rfl)) (by decide)
theorem r176_72 : runs cal 176 72 [v0, v1, v2] [] I = runs cal 176 73 [v0, v1, v2] [vI (0)] I := runs_to (ins_of mI_176 (by rfl)) rfl rfl
theorem r176_73 : runs cal 176 73 [vR b0, v1, v2] [vI x0] I = runs cal 176 74 [vR b0, vI x0, v2] [] I := runs_to (ins_of mI_176 (by rfl)) rfl rfl
theorem r176_74 : runs cal 176 74 [v0, vI u, vI w] [] I = runs cal 176 77 [v0, vI u, vI (iadd w (1))] [] I := runs_to (ins_of mI_176 (by rfl)) rfl rfl
theorem r176_77 : runs cal 176 77 [v0, v1, v2] [] I = runs cal 176 43 [v0, v1, v2] [] I := st_goto (ins_of mI_176 (by rfl)) (by decide)
theorem r176_80 : runs cal 176 80 [v0, vI w, v2] [] I = runs cal 176 81 [v0, vI w, v2] [vI w] I := runs_to (ins_of mI_176 (by rfl)) rfl rfl
theorem r176_81 : runs cal 176 81 [v0, v1, v2] [vI x0] I = if x0 = 0 ∨ x0 = 1 then some (some (vI x0), I) else none := st_retZ (ins_of mI_176 (by rfl)) mR_176 (Or.inl rfl)
theorem r177_0 : runs cal 177 0 [vR 70, v1] [] I = runs cal 177 1 [vR 70, v1] [vR 70] I := runs_to (ins_of mI_177 (by rfl)) rfl rfl
theorem r177_1 : runs cal 177 1 [v0, v1] [vR 70] I = runs cal 177 4 [v0, v1] [vR 71] I := st_getR (ins_of mI_177 (by rfl)) mC_177 (by decide) fr_11_7 cT_70 (wdc wid_177 wd_70) rfl rfl
theorem r177_4 : runs cal 177 4 [v0, v1] [vR 71] I = runs cal 177 6 [v0, v1] [vI (9), vR 71] I := runs_to (ins_of mI_177 (by rfl)) rfl rfl
theorem r177_6 : runs cal 177 6 [v0, v1] [vI x0, vR 71] I = runs cal 177 7 [v0, v1] [vI (3), vI x0, vR 71] I := runs_to (ins_of mI_177 (by rfl)) rfl rfl
theorem r177_7 : runs cal 177 7 [v0, vI w] [vI x0, vI x1, vR 71] I = runs cal 177 8 [v0, vI w] [vI w, vI x0, vI x1, vR 71] I := runs_to (ins_of mI_177 (by rfl)) rfl rfl
theorem r177_8 : runs cal 177 8 [v0, v1] [vI x0, vI x1, vI x2, vR 71] I = runs cal 177 9 [v0, v1] [vI (imul x1 x0), vI x2, vR 71] I := runs_to (ins_of mI_177 (by rfl)) rfl rfl
theorem r177_9 : runs cal 177 9 [v0, v1] [vI x0, vI x1, vR 71] I = runs cal 177 10 [v0, v1] [vI (iadd x1 x0), vR 71] I := runs_to (ins_of mI_177 (by rfl)) rfl rfl
theorem r177_10 : runs cal 177 10 [v0, v1] [vI x0, vR 71] I = runs cal 177 11 [v0, v1] [vI (2), vI x0, vR 71] I := runs_to (ins_of mI_177 (by rfl)) rfl rfl
theorem r177_11 : runs cal 177 11 [v0, v1] [vI x0, vI x1, vR 71] I = runs cal 177 12 [v0, v1] [vI (iadd x1 x0), vR 71] I := runs_to (ins_of mI_177 (by rfl)) rfl rfl
theorem r177_12 : runs cal 177 12 [v0, v1] [vI x0, vR 71] I = if 0 ≤ x0 ∧ x0 < 110 then runs cal 177 13 [v0, v1] [vI (I 71 x0)] I else none := st_iald (ins_of mI_177 (by rfl)) cT_71 (wdc wid_177 wd_71)
theorem r177_13 : runs cal 177 13 [v0, v1] [vI x0] I = runs cal 177 14 [v0, v1] [vI (1), vI x0] I := runs_to (ins_of mI_177 (by rfl)) rfl rfl
theorem r177_14 : runs cal 177 14 [v0, v1] [vI x0, vI x1] I = if x1 = x0 then runs cal 177 17 [v0, v1] [] I else runs cal 177 24 [v0, v1] [] I := st_cmp_ne (ins_of mI_177 (by rfl)) (by decide)
theorem r177_17 : runs cal 177 17 [vR 70, v1] [] I = runs cal 177 18 [vR 70, v1] [vR 70] I := runs_to (ins_of mI_177 (by rfl)) rfl rfl
theorem r177_18 : runs cal 177 18 [v0, v1] [vR 70] I = (cal 163 [vR 70] I).bind (fun q => runs cal 177 21 [v0, v1] (pushR q.1 []) q.2) := st_call (st := false) (ins_of mI_177 (by rfl)) mC_177 mr_11_142 (by decide) mS_163 mN_163 rfl (Nat.le_of_ble_eq_true rfl) rfl rfl (Or.inr ⟨_, _, rfl, rcv mC_163 rfl wid_177 (by decide +kernel)⟩) (Or.inl (wid_177.trans wid_163.symm))
theorem r177_21 : runs cal 177 21 [v0, v1] [vI x0] I = runs cal 177 25 [v0, v1] [vI x0] I := st_goto (ins_of mI_177 (by rfl)) (by decide)
theorem r177_24 : runs cal 177 24 [v0, v1] [] I = runs cal 177 25 [v0, v1] [vI (0)] I := runs_to (ins_of mI_177 (by rfl)) rfl rfl
theorem r177_25 : runs cal 177 25 [v0, v1] [vI x0] I = some (some (vI x0), I) := st_ret (q := some (vI x0)) (k := 0) (ins_of mI_177 (by rfl)) rfl (by decide) mR_177 rfl trivial
theorem r178_0 : runs cal 178 0 [v0, v1, v2] [] I = runs cal 178 1 [v0, v1, v2] [vI (1)] I := runs_to (ins_of mI_178 (by rfl)) rfl rfl
theorem r178_1 : runs cal 178 1 [vR b0, v1, v2] [vI x0] I = runs cal 178 2 [vR b0, vI x0, v2] [] I := runs_to (ins_of mI_178 (by rfl)) rfl rfl
theorem r178_2 : runs cal 178 2 [v0, v1, v2] [] I = runs cal 178 3 [v0, v1, v2] [vI (0)] I := runs_to (ins_of mI_178 (by rfl)) rfl rfl
theorem r178_3 : runs cal 178 3 [v0, vI u, v2] [vI x0] I = runs cal 178 4 [v0, vI u, vI x0] [] I := runs_to (ins_of mI_178 (by rfl)) rfl rfl
theorem r178_4 : runs cal 178 4 [v0, v1, vI w] [] I = runs cal 178 5 [v0, v1, vI w] [vI w] I := runs_to (ins_of mI_178 (by rfl)) rfl rfl
theorem r178_5 : runs cal 178 5 [vR 70, v1, v2] [vI x0] I = runs cal 178 6 [vR 70, v1, v2] [vR 70, vI x0] I := runs_to (ins_of mI_178 (by rfl)) rfl rfl
theorem r178_6 : runs cal 178 6 [v0, v1, v2] [vR 70, vI x1] I = (cal 159 [vR 70] I).bind (fun q => runs cal 178 9 [v0, v1, v2] (pushR q.1 [vI x1]) q.2) := st_call (st := false) (ins_of mI_178 (by rfl)) mC_178 mr_11_117 (by decide) mS_159 mN_159 rfl (Nat.le_of_ble_eq_true rfl) rfl rfl (Or.inr ⟨_, _, rfl, rcv mC_159 rfl wid_178 (by decide +kernel)⟩) (Or.inl (wid_178.trans wid_159.symm))
theorem r178_9 : runs cal 178 9 [v0, v1, v2] [vI x0, vI x1] I = if x1 < x0 then runs cal 178 12 [v0, v1, v2] [] I else runs cal 178 42 [v0, v1, v2] [] I := st_cmp_ge (ins_of mI_178 (by rfl)) (by decide)
theorem r178_12 : runs cal 178 12 [v0, vI w, v2] [] I = runs cal 178 13 [v0, vI w, v2] [vI w] I := runs_to (ins_of mI_178 (by rfl)) rfl rfl
theorem r178_13 : runs cal 178 13 [v0, v1, v2] [vI x0] I = if x0 = 0 then runs cal 178 34 [v0, v1, v2] [] I else runs cal 178 16 [v0, v1, v2] [] I := st_if_eq (ins_of mI_178 (by rfl)) (by decide)
theorem r178_16 : runs cal 178 16 [vR 70, v1, v2] [] I = runs cal 178 17 [vR 70, v1, v2] [vR 70] I := runs_to (ins_of mI_178 (by rfl)) rfl rfl
theorem r178_17 : runs cal 178 17 [v0, v1, v2] [vR 70] I = runs cal 178 20 [v0, v1, v2] [vR 77] I := st_getR (ins_of mI_178 (by rfl)) mC_178 (by decide) fr_11_30 cT_70 (wdc wid_178 wd_70) rfl rfl
theorem r178_20 : runs cal 178 20 [v0, v1, vI w] [vR 77] I = runs cal 178 21 [v0, v1, vI w] [vI w, vR 77] I := runs_to (ins_of mI_178 (by rfl)) rfl rfl
theorem r178_21 : runs cal 178 21 [v0, v1, v2] [vI x0, vR 77] I = if 0 ≤ x0 ∧ x0 < 3 then runs cal 178 22 [v0, v1, v2] [vI (I 77 x0)] I else none := st_iald (ins_of mI_178 (by rfl)) cT_77 (wdc wid_178 wd_77)
theorem r178_22 : runs cal 178 22 [vR 70, v1, v2] [vI x0] I = runs cal 178 23 [vR 70, v1, v2] [vR 70, vI x0] I := runs_to (ins_of mI_178 (by rfl)) rfl rfl
theorem r178_23 : runs cal 178 23 [v0, v1, vI w] [vR 70, vI x1] I = runs cal 178 24 [v0, v1, vI w] [vI w, vR 70, vI x1] I := runs_to (ins_of mI_178 (by rfl)) rfl rfl
theorem r178_24 : runs cal 178 24 [v0, v1, v2] [vI x0, vR 70, vI x2] I = (cal 177 [vR 70, vI x0] I).bind (fun q => runs cal 178 27 [v0, v1, v2] (pushR q.1 [vI x2]) q.2) := st_call (st := false) (ins_of mI_178 (by rfl)) mC_178 mr_11_163 (by decide) mS_177 mN_177 rfl (Nat.le_of_ble_eq_true rfl) rfl rfl (Or.inr ⟨_, _, rfl, rcv mC_177 rfl wid_178 (by decide +kernel)⟩) (Or.inl (wid_178.trans wid_177.symm))
theorem r178_27 : runs cal 178 27 [v0, v1, v2] [vI x0, vI x1] I = if x1 = x0 then runs cal 178 30 [v0, v1, v2] [] I else runs cal 178 34 [v0, v1, v2] [] I := st_cmp_ne (ins_of mI_178 (by rfl)) (by decide)
theorem r178_30 : runs cal 178 30 [v0, v1, v2] [] I = runs cal 178 31 [v0, v1, v2] [vI (1)] I := runs_to (ins_of mI_178 (by rfl)) rfl rfl
theorem r178_31 : runs cal 178 31 [v0, v1, v2] [vI x0] I = runs cal 178 35 [v0, v1, v2] [vI x0] I := st_goto (ins_of mI_178 (by rfl)) (by decide)
theorem r178_34 : runs cal 178 34 [v0, v1, v2] [] I = runs cal 178 35 [v0, v1, v2] [vI (0)] I := runs_to (ins_of mI_178 (by rfl)) rfl rfl
theorem r178_35 : runs cal 178 35 [vR b0, v1, v2] [vI x0] I = runs cal 178 36 [vR b0, vI x0, v2] [] I := runs_to (ins_of mI_178 (by rfl)) rfl rfl
theorem r178_36 : runs cal 178 36 [v0, vI u, vI w] [] I = runs cal 178 39 [v0, vI u, vI (iadd w (1))] [] I := runs_to (ins_of mI_178 (by rfl)) rfl rfl
theorem r178_39 : runs cal 178 39 [v0, v1, v2] [] I = runs cal 178 4 [v0, v1, v2] [] I := st_goto (ins_of mI_178 (by rfl)) (by decide)
theorem r178_42 : runs cal 178 42 [v0, vI w, v2] [] I = runs cal 178 43 [v0, vI w, v2] [vI w] I := runs_to (ins_of mI_178 (by rfl)) rfl rfl
theorem r178_43 : runs cal 178 43 [v0, v1, v2] [vI x0] I = if x0 = 0 ∨ x0 = 1 then some (some (vI x0), I) else none := st_retZ (ins_of mI_178 (by rfl)) mR_178 (Or.inl rfl)
theorem r179_0 : runs cal 179 0 [vI w] [] I = runs cal 179 1 [vI w] [vI w] I := runs_to (ins_of mI_179 (by rfl)) rfl rfl
theorem r179_1 : runs cal 179 1 [v0] [vI x0] I = runs cal 179 2 [v0] [vI (1), vI x0] I := runs_to (ins_of mI_179 (by rfl)) rfl rfl
theorem r179_2 : runs cal 179 2 [v0] [vI x0, vI x1] I = if x1 = x0 then runs cal 179 5 [v0] [] I else runs cal 179 9 [v0] [] I := st_cmp_ne (ins_of mI_179 (by rfl)) (by decide)
theorem r179_5 : runs cal 179 5 [v0] [] I = runs cal 179 6 [v0] [vI (1)] I := runs_to (ins_of mI_179 (by rfl)) rfl rfl
theorem r179_6 : runs cal 179 6 [v0] [vI x0] I = runs cal 179 10 [v0] [vI x0] I := st_goto (ins_of mI_179 (by rfl)) (by decide)
theorem r179_9 : runs cal 179 9 [v0] [] I = runs cal 179 10 [v0] [vI (-1)] I := runs_to (ins_of mI_179 (by rfl)) rfl rfl
theorem r179_10 : runs cal 179 10 [v0] [vI x0] I = some (some (vI x0), I) := st_ret (q := some (vI x0)) (k := 0) (ins_of mI_179 (by rfl)) rfl (by decide) mR_179 rfl trivial
theorem r180_0 : runs cal 180 0 [vR 70] [] I = runs cal 180 1 [vR 70] [vR 70] I := runs_to (ins_of mI_180 (by rfl)) rfl rfl
theorem r180_1 : runs cal 180 1 [vR 70] [vR 70] I = runs cal 180 2 [vR 70] [vR 70, vR 70] I := runs_to (ins_of mI_180 (by rfl)) rfl rfl
theorem r180_2 : runs cal 180 2 [v0] [vR 70, vR 70] I = runs cal 180 5 [v0] [vI (I 70 10), vR 70] I := st_getI (ins_of mI_180 (by rfl)) mC_180 (by decide) fr_11_166 cT_70 (wdc wid_180 wd_70) (Or.inl rfl)
theorem r180_5 : runs cal 180 5 [v0] [vI x0, vR 70] I = (cal 161 [vR 70, vI x0] I).bind (fun q => runs cal 180 8 [v0] (pushR q.1 []) q.2) := st_call (st := false) (ins_of mI_180 (by rfl)) mC_180 mr_11_169 (by decide) mS_161 mN_161 rfl (Nat.le_of_ble_eq_true rfl) rfl rfl (Or.inr ⟨_, _, rfl, rcv mC_161 rfl wid_180 (by decide +kernel)⟩) (Or.inl (wid_180.trans wid_161.symm))
theorem r180_8 : runs cal 180 8 [v0] [vI x0] I = if x0 = 0 then runs cal 180 11 [v0] [] I else runs cal 180 13 [v0] [] I := st_if_ne (ins_of mI_180 (by rfl)) (by decide)
theorem r180_11 : runs cal 180 11 [v0] [] I = runs cal 180 12 [v0] [vI (0)] I := runs_to (ins_of mI_180 (by rfl)) rfl rfl
theorem r180_12 : runs cal 180 12 [v0] [vI x0] I = if x0 = 0 ∨ x0 = 1 then some (some (vI x0), I) else none := st_retZ (ins_of mI_180 (by rfl)) mR_180 (Or.inl rfl)
theorem r180_13 : runs cal 180 13 [vR 70] [] I = runs cal 180 14 [vR 70] [vR 70] I := runs_to (ins_of mI_180 (by rfl)) rfl rfl
theorem r180_14 : runs cal 180 14 [v0] [vR 70] I = runs cal 180 17 [v0] [vI (I 70 9)] I := st_getI (ins_of mI_180 (by rfl)) mC_180 (by decide) fr_11_172 cT_70 (wdc wid_180 wd_70) (Or.inl rfl)
theorem r180_17 : runs cal 180 17 [v0] [vI x0] I = if x0 = 0 then runs cal 180 28 [v0] [] I else runs cal 180 20 [v0] [] I := st_if_eq (ins_of mI_180 (by rfl)) (by decide)
theorem r180_20 : runs cal 180 20 [vR 70] [] I = runs cal 180 21 [vR 70] [vR 70] I := runs_to (ins_of mI_180 (by rfl)) rfl rfl
theorem r180_21 : runs cal 180 21 [v0] [vR 70] I = runs cal 180 24 [v0] [vI (I 70 9)] I := st_getI (ins_of mI_180 (by rfl)) mC_180 (by decide) fr_11_172 cT_70 (wdc wid_180 wd_70) (Or.inl rfl)
theorem r180_24 : runs cal 180 24 [v0] [vI x0] I = runs cal 180 25 [v0] [vI (4), vI x0] I := runs_to (ins_of mI_180 (by rfl)) rfl rfl
theorem r180_25 : runs cal 180 25 [v0] [vI x0, vI x1] I = if x1 = x0 then runs cal 180 28 [v0] [] I else runs cal 180 49 [v0] [] I := st_cmp_ne (ins_of mI_180 (by rfl)) (by decide)
theorem r180_28 : runs cal 180 28 [vR 70] [] I = runs cal 180 29 [vR 70] [vR 70] I := runs_to (ins_of mI_180 (by rfl)) rfl rfl
theorem r180_29 : runs cal 180 29 [v0] [vR 70] I = runs cal 180 32 [v0] [vI (I 70 11)] I := st_getI (ins_of mI_180 (by rfl)) mC_180 (by decide) fr_11_175 cT_70 (wdc wid_180 wd_70) (Or.inl rfl)
theorem r180_32 : runs cal 180 32 [v0] [vI x0] I = runs cal 180 33 [v0] [vI (2), vI x0] I := runs_to (ins_of mI_180 (by rfl)) rfl rfl
theorem r180_33 : runs cal 180 33 [v0] [vI x0, vI x1] I = if x1 < x0 then runs cal 180 36 [v0] [] I else runs cal 180 47 [v0] [] I := st_cmp_ge (ins_of mI_180 (by rfl)) (by decide)
theorem r180_36 : runs cal 180 36 [vR 70] [] I = runs cal 180 37 [vR 70] [vR 70] I := runs_to (ins_of mI_180 (by rfl)) rfl rfl
theorem r180_37 : runs cal 180 37 [v0] [vR 70] I = runs cal 180 40 [v0] [vI (I 70 12)] I := st_getI (ins_of mI_180 (by rfl)) mC_180 (by decide) fr_11_178 cT_70 (wdc wid_180 wd_70) (Or.inl rfl)
theorem r180_40 : runs cal 180 40 [v0] [vI x0] I = if x0 = 0 then runs cal 180 43 [v0] [] I else runs cal 180 47 [v0] [] I := st_if_ne (ins_of mI_180 (by rfl)) (by decide)
theorem r180_43 : runs cal 180 43 [v0] [] I = runs cal 180 44 [v0] [vI (1)] I := runs_to (ins_of mI_180 (by rfl)) rfl rfl
theorem r180_44 : runs cal 180 44 [v0] [vI x0] I = runs cal 180 48 [v0] [vI x0] I := st_goto (ins_of mI_180 (by rfl)) (by decide)
theorem r180_47 : runs cal 180 47 [v0] [] I = runs cal 180 48 [v0] [vI (0)] I := runs_to (ins_of mI_180 (by rfl)) rfl rfl
theorem r180_48 : runs cal 180 48 [v0] [vI x0] I = if x0 = 0 ∨ x0 = 1 then some (some (vI x0), I) else none := st_retZ (ins_of mI_180 (by rfl)) mR_180 (Or.inl rfl)
theorem r180_49 : runs cal 180 49 [vR 70] [] I = runs cal 180 50 [vR 70] [vR 70] I := runs_to (ins_of mI_180 (by rfl)) rfl rfl
theorem r180_50 : runs cal 180 50 [vR 70] [vR 70] I = runs cal 180 51 [vR 70] [vR 70, vR 70] I := runs_to (ins_of mI_180 (by rfl)) rfl rfl
theorem r180_51 : runs cal 180 51 [v0] [vR 70, vR 70] I = runs cal 180 54 [v0] [vI (I 70 11), vR 70] I := st_getI (ins_of mI_180 (by rfl)) mC_180 (by decide) fr_11_175 cT_70 (wdc wid_180 wd_70) (Or.inl rfl)
theorem r180_54 : runs cal 180 54 [v0] [vI x0, vR 70] I = (cal 162 [vR 70, vI x0] I).bind (fun q => runs cal 180 57 [v0] (pushR q.1 []) q.2) := st_call (st := false) (ins_of mI_180 (by rfl)) mC_180 mr_11_181 (by decide) mS_162 mN_162 rfl (Nat.le_of_ble_eq_true rfl) rfl rfl (Or.inr ⟨_, _, rfl, rcv mC_162 rfl wid_180 (by decide +kernel)⟩) (Or.inl (wid_180.trans wid_162.symm))
theorem r180_57 : runs cal 180 57 [v0] [vI x0] I = if x0 = 0 then runs cal 180 112 [v0] [] I else runs cal 180 60 [v0] [] I := st_if_eq (ins_of mI_180 (by rfl)) (by decide)
theorem r180_60 : runs cal 180 60 [vR 70] [] I = runs cal 180 61 [vR 70] [vR 70] I := runs_to (ins_of mI_180 (by rfl)) rfl rfl
theorem r180_61 : runs cal 180 61 [v0] [vR 70] I = runs cal 180 64 [v0] [vI (I 70 9)] I := st_getI (ins_of mI_180 (by rfl)) mC_180 (by decide) fr_11_172 cT_70 (wdc wid_180 wd_70) (Or.inl rfl)
theorem r180_64 : runs cal 180 64 [v0] [vI x0] I = runs cal 180 65 [v0] [vI (1), vI x0] I := runs_to (ins_of mI_180 (by rfl)) rfl rfl
theorem r180_65 : runs cal 180 65 [v0] [vI x0, vI x1] I = if x1 = x0 then runs cal 180 68 [v0] [] I else runs cal 180 79 [v0] [] I := st_cmp_ne (ins_of mI_180 (by rfl)) (by decide)
theorem r180_68 : runs cal 180 68 [vR 70] [] I = runs cal 180 69 [vR 70] [vR 70] I := runs_to (ins_of mI_180 (by rfl)) rfl rfl
theorem r180_69 : runs cal 180 69 [v0] [vR 70] I = runs cal 180 72 [v0] [vI (I 70 12)] I := st_getI (ins_of mI_180 (by rfl)) mC_180 (by decide) fr_11_178 cT_70 (wdc wid_180 wd_70) (Or.inl rfl)
theorem r180_72 : runs cal 180 72 [v0] [vI x0] I = runs cal 180 73 [v0] [vI (2), vI x0] I := runs_to (ins_of mI_180 (by rfl)) rfl rfl
theorem r180_73 : runs cal 180 73 [v0] [vI x0, vI x1] I = if x1 < x0 then runs cal 180 76 [v0] [] I else runs cal 180 112 [v0] [] I := st_cmp_ge (ins_of mI_180 (by rfl)) (by decide)
theorem r180_76 : runs cal 180 76 [v0] [] I = runs cal 180 108 [v0] [] I := st_goto (ins_of mI_180 (by rfl)) (by decide)
theorem r180_79 : runs cal 180 79 [vR 70] [] I = runs cal 180 80 [vR 70] [vR 70] I := runs_to (ins_of mI_180 (by rfl)) rfl rfl
theorem r180_80 : runs cal 180 80 [v0] [vR 70] I = runs cal 180 83 [v0] [vI (I 70 9)] I := st_getI (ins_of mI_180 (by rfl)) mC_180 (by decide) fr_11_172 cT_70 (wdc wid_180 wd_70) (Or.inl rfl)
theorem r180_83 : runs cal 180 83 [v0] [vI x0] I = runs cal 180 84 [v0] [vI (2), vI x0] I := runs_to (ins_of mI_180 (by rfl)) rfl rfl
theorem r180_84 : runs cal 180 84 [v0] [vI x0, vI x1] I = if x1 = x0 then runs cal 180 87 [v0] [] I else runs cal 180 97 [v0] [] I := st_cmp_ne (ins_of mI_180 (by rfl)) (by decide)
theorem r180_87 : runs cal 180 87 [vR 70] [] I = runs cal 180 88 [vR 70] [vR 70] I := runs_to (ins_of mI_180 (by rfl)) rfl rfl
theorem r180_88 : runs cal 180 88 [v0] [vR 70] I = runs cal 180 91 [v0] [vI (I 70 12)] I := st_getI (ins_of mI_180 (by rfl)) mC_180 (by decide) fr_11_178 cT_70 (wdc wid_180 wd_70) (Or.inl rfl)
theorem r180_91 : runs cal 180 91 [v0] [vI x0] I = if x0 = 0 then runs cal 180 94 [v0] [] I else runs cal 180 112 [v0] [] I := st_if_ne (ins_of mI_180 (by rfl)) (by decide)
theorem r180_94 : runs cal 180 94 [v0] [] I = runs cal 180 108 [v0] [] I := st_goto (ins_of mI_180 (by rfl)) (by decide)
theorem r180_97 : runs cal 180 97 [vR 70] [] I = runs cal 180 98 [vR 70] [vR 70] I := runs_to (ins_of mI_180 (by rfl)) rfl rfl
theorem r180_98 : runs cal 180 98 [vR 70] [vR 70] I = runs cal 180 99 [vR 70] [vR 70, vR 70] I := runs_to (ins_of mI_180 (by rfl)) rfl rfl
theorem r180_99 : runs cal 180 99 [v0] [vR 70, vR 70] I = runs cal 180 102 [v0] [vI (I 70 12), vR 70] I := st_getI (ins_of mI_180 (by rfl)) mC_180 (by decide) fr_11_178 cT_70 (wdc wid_180 wd_70) (Or.inl rfl)
theorem r180_102 : runs cal 180 102 [v0] [vI x0, vR 70] I = (cal 161 [vR 70, vI x0] I).bind (fun q => runs cal 180 105 [v0] (pushR q.1 []) q.2) := st_call (st := false) (ins_of mI_180 (by rfl)) mC_180 mr_11_169 (by decide) mS_161 mN_161 rfl (Nat.le_of_ble_eq_true rfl) rfl rfl (Or.inr ⟨_, _, rfl, rcv mC_161 rfl wid_180 (by decide +kernel)⟩) (Or.inl (wid_180.trans wid_161.symm))
theorem r180_105 : runs cal 180 105 [v0] [vI x0] I = if x0 = 0 then runs cal 180 112 [v0] [] I else runs cal 180 108 [v0] [] I := st_if_eq (ins_of mI_180 (by rfl)) (by decide)
theorem r180_108 : runs cal 180 108 [v0] [] I = runs cal 180 109 [v0] [vI (1)] I := runs_to (ins_of mI_180 (by rfl)) rfl rfl
theorem r180_109 : runs cal 180 109 [v0] [vI x0] I = runs cal 180 113 [v0] [vI x0] I := st_goto (ins_of mI_180 (by rfl)) (by decide)
theorem r180_112 : runs cal 180 112 [v0] [] I = runs cal 180 113 [v0] [vI (0)] I := runs_to (ins_of mI_180 (by rfl)) rfl rfl
theorem r180_113 : runs cal 180 113 [v0] [vI x0] I = if x0 = 0 ∨ x0 = 1 then some (some (vI x0), I) else none := st_retZ (ins_of mI_180 (by rfl)) mR_180 (Or.inl rfl)
theorem r181_0 : runs cal 181 0 [v0, v1, v2, v3] [] I = runs cal 181 1 [v0, v1, v2, v3] [vI (0)] I := runs_to (ins_of mI_181 (by rfl)) rfl rfl
theorem r181_1 : runs cal 181 1 [v0, vI u, v2, v3] [vI x0] I = runs cal 181 2 [v0, vI u, vI x0, v3] [] I := runs_to (ins_of mI_181 (by rfl)) rfl rfl
theorem r181_2 : runs cal 181 2 [v0, v1, v2, v3] [] I = runs cal 181 3 [v0, v1, v2, v3] [vI (0)] I := runs_to (ins_of mI_181 (by rfl)) rfl rfl
theorem r181_3 : runs cal 181 3 [v0, v1, vI u, v3] [vI x0] I = runs cal 181 4 [v0, v1, vI u, vI x0] [] I := runs_to (ins_of mI_181 (by rfl)) rfl rfl
theorem r181_4 : runs cal 181 4 [v0, v1, v2, vI w] [] I = runs cal 181 5 [v0, v1, v2, vI w] [vI w] I := runs_to (ins_of mI_181 (by rfl)) rfl rfl
theorem r181_5 : runs cal 181 5 [vR 70, v1, v2, v3] [vI x0] I = runs cal 181 6 [vR 70, v1, v2, v3] [vR 70, vI x0] I := runs_to (ins_of mI_181 (by rfl)) rfl rfl
theorem r181_6 : runs cal 181 6 [v0, v1, v2, v3] [vR 70, vI x1] I = (cal 159 [vR 70] I).bind (fun q => runs cal 181 9 [v0, v1, v2, v3] (pushR q.1 [vI x1]) q.2) := st_call (st := false) (ins_of mI_181 (by rfl)) mC_181 mr_11_117 (by decide) mS_159 mN_159 rfl (Nat.le_of_ble_eq_true rfl) rfl rfl (Or.inr ⟨_, _, rfl, rcv mC_159 rfl wid_181 (by decide +kernel)⟩) (Or.inl (wid_181.trans wid_159.symm))
theorem r181_9 : runs cal 181 9 [v0, v1, v2, v3] [vI x0, vI x1] I = if x1 < x0 then runs cal 181 12 [v0, v1, v2, v3] [] I else runs cal 181 42 [v0, v1, v2, v3] [] I := st_cmp_ge (ins_of mI_181 (by rfl)) (by decide)
theorem r181_12 : runs cal 181 12 [v0, v1, vI w, v3] [] I = runs cal 181 13 [v0, v1, vI w, v3] [vI w] I := runs_to (ins_of mI_181 (by rfl)) rfl rfl
theorem r181_13 : runs cal 181 13 [v0, v1, v2, v3] [vI x0] I = if x0 = 0 then runs cal 181 16 [v0, v1, v2, v3] [] I else runs cal 181 30 [v0, v1, v2, v3] [] I := st_if_ne (ins_of mI_181 (by rfl)) (by decide)
theorem r181_16 : runs cal 181 16 [vR 70, v1, v2, v3] [] I = runs cal 181 17 [vR 70, v1, v2, v3] [vR 70] I := runs_to (ins_of mI_181 (by rfl)) rfl rfl
theorem r181_17 : runs cal 181 17 [v0, vI w, v2, v3] [vR 70] I = runs cal 181 18 [v0, vI w, v2, v3] [vI w, vR 70] I := runs_to (ins_of mI_181 (by rfl)) rfl rfl
theorem r181_18 : runs cal 181 18 [vR 70, v1, v2, v3] [vI x0, vR 70] I = runs cal 181 19 [vR 70, v1, v2, v3] [vR 70, vI x0, vR 70] I := runs_to (ins_of mI_181 (by rfl)) rfl rfl
theorem r181_19 : runs cal 181 19 [v0, v1, v2, v3] [vR 70, vI x1, vR 70] I = runs cal 181 22 [v0, v1, v2, v3] [vR 77, vI x1, vR 70] I := st_getR (ins_of mI_181 (by rfl)) mC_181 (by decide) fr_11_30 cT_70 (wdc wid_181 wd_70) rfl rfl
theorem r181_22 : runs cal 181 22 [v0, v1, v2, vI w] [vR 77, vI x1, vR 70] I = runs cal 181 23 [v0, v1, v2, vI w] [vI w, vR 77, vI x1, vR 70] I := runs_to (ins_of mI_181 (by rfl)) rfl rfl
theorem r181_23 : runs cal 181 23 [v0, v1, v2, v3] [vI x0, vR 77, vI x2, vR 70] I = if 0 ≤ x0 ∧ x0 < 3 then runs cal 181 24 [v0, v1, v2, v3] [vI (I 77 x0), vI x2, vR 70] I else none := st_iald (ins_of mI_181 (by rfl)) cT_77 (wdc wid_181 wd_77)
theorem r181_24 : runs cal 181 24 [v0, v1, v2, v3] [vI x0, vI x1, vR 70] I = (cal 170 [vR 70, vI x1, vI x0] I).bind (fun q => runs cal 181 27 [v0, v1, v2, v3] (pushR q.1 []) q.2) := st_call (st := false) (ins_of mI_181 (by rfl)) mC_181 mr_11_138 (by decide) mS_170 mN_170 rfl (Nat.le_of_ble_eq_true rfl) rfl rfl (Or.inr ⟨_, _, rfl, rcv mC_170 rfl wid_181 (by decide +kernel)⟩) (Or.inl (wid_181.trans wid_170.symm))
theorem r181_27 : runs cal 181 27 [v0, v1, v2, v3] [vI x0] I = if x0 = 0 then runs cal 181 34 [v0, v1, v2, v3] [] I else runs cal 181 30 [v0, v1, v2, v3] [] I := st_if_eq (ins_of mI_181 (by rfl)) (by decide)
theorem r181_30 : runs cal 181 30 [v0, v1, v2, v3] [] I = runs cal 181 31 [v0, v1, v2, v3] [vI (1)] I := runs_to (ins_of mI_181 (by rfl)) rfl rfl
theorem r181_31 : runs cal 181 31 [v0, v1, v2, v3] [vI x0] I = runs cal 181 35 [v0, v1, v2, v3] [vI x0] I := st_goto (ins_of mI_181 (by rfl)) (by decide)
theorem r181_34 : runs cal 181 34 [v0, v1, v2, v3] [] I = runs cal 181 35 [v0, v1, v2, v3] [vI (0)] I := runs_to (ins_of mI_181 (by rfl)) rfl rfl
theorem r181_35 : runs cal 181 35 [v0, vI u, v2, v3] [vI x0] I = runs cal 181 36 [v0, vI u, vI x0, v3] [] I := runs_to (ins_of mI_181 (by rfl)) rfl rfl
theorem r181_36 : runs cal 181 36 [v0, v1, vI u, vI w] [] I = runs cal 181 39 [v0, v1, vI u, vI (iadd w (1))] [] I := runs_to (ins_of mI_181 (by rfl)) rfl rfl
theorem r181_39 : runs cal 181 39 [v0, v1, v2, v3] [] I = runs cal 181 4 [v0, v1, v2, v3] [] I := st_goto (ins_of mI_181 (by rfl)) (by decide)
theorem r181_42 : runs cal 181 42 [v0, v1, vI w, v3] [] I = runs cal 181 43 [v0, v1, vI w, v3] [vI w] I := runs_to (ins_of mI_181 (by rfl)) rfl rfl
theorem r181_43 : runs cal 181 43 [v0, v1, v2, v3] [vI x0] I = if x0 = 0 ∨ x0 = 1 then some (some (vI x0), I) else none := st_retZ (ins_of mI_181 (by rfl)) mR_181 (Or.inl rfl)
theorem r182_0 : runs cal 182 0 [v0, v1, v2, v3, v4] [] I = runs cal 182 1 [v0, v1, v2, v3, v4] [vI (0)] I := runs_to (ins_of mI_182 (by rfl)) rfl rfl
theorem r182_1 : runs cal 182 1 [v0, v1, vI u, v3, v4] [vI x0] I = runs cal 182 2 [v0, v1, vI u, vI x0, v4] [] I := runs_to (ins_of mI_182 (by rfl)) rfl rfl
theorem r182_2 : runs cal 182 2 [v0, v1, v2, v3, v4] [] I = runs cal 182 3 [v0, v1, v2, v3, v4] [vI (0)] I := runs_to (ins_of mI_182 (by rfl)) rfl rfl
theorem r182_3 : runs cal 182 3 [v0, v1, v2, vI u, v4] [vI x0] I = runs cal 182 5 [v0, v1, v2, vI u, vI x0] [] I := runs_to (ins_of mI_182 (by rfl)) rfl rfl
theorem r182_5 : runs cal 182 5 [v0, v1, v2, v3, vI w] [] I = runs cal 182 7 [v0, v1, v2, v3, vI w] [vI w] I := runs_to (ins_of mI_182 (by rfl)) rfl rfl
theorem r182_7 : runs cal 182 7 [vR 70, v1, v2, v3, v4] [vI x0] I = runs cal 182 8 [vR 70, v1, v2, v3, v4] [vR 70, vI x0] I := runs_to (ins_of mI_182 (by rfl)) rfl rfl
theorem r182_8 : runs cal 182 8 [v0, v1, v2, v3, v4] [vR 70, vI x1] I = (cal 159 [vR 70] I).bind (fun q => runs cal 182 11 [v0, v1, v2, v3, v4] (pushR q.1 [vI x1]) q.2) := st_call (st := false) (ins_of mI_182 (by rfl)) mC_182 mr_11_117 (by decide) mS_159 mN_159 rfl (Nat.le_of_ble_eq_true rfl) rfl rfl (Or.inr ⟨_, _, rfl, rcv mC_159 rfl wid_182 (by decide +kernel)⟩) (Or.inl (wid_182.trans wid_159.symm))
theorem r182_11 : runs cal 182 11 [v0, v1, v2, v3, v4] [vI x0, vI x1] I = if x1 < x0 then runs cal 182 14 [v0, v1, v2, v3, v4] [] I else runs cal 182 47 [v0, v1, v2, v3, v4] [] I := st_cmp_ge (ins_of mI_182 (by rfl)) (by decide)
theorem r182_14 : runs cal 182 14 [v0, v1, v2, vI w, v4] [] I = runs cal 182 15 [v0, v1, v2, vI w, v4] [vI w] I := runs_to (ins_of mI_182 (by rfl)) rfl rfl
theorem r182_15 : runs cal 182 15 [v0, v1, v2, v3, v4] [vI x0] I = if x0 = 0 then runs cal 182 18 [v0, v1, v2, v3, v4] [] I else runs cal 182 35 [v0, v1, v2, v3, v4] [] I := st_if_ne (ins_of mI_182 (by rfl)) (by decide)
theorem r182_18 : runs cal 182 18 [v0, v1, v2, v3, vI w] [] I = runs cal 182 20 [v0, v1, v2, v3, vI w] [vI w] I := runs_to (ins_of mI_182 (by rfl)) rfl rfl
theorem r182_20 : runs cal 182 20 [v0, v1, vI w, v3, v4] [vI x0] I = runs cal 182 21 [v0, v1, vI w, v3, v4] [vI w, vI x0] I := runs_to (ins_of mI_182 (by rfl)) rfl rfl
theorem r182_21 : runs cal 182 21 [v0, v1, v2, v3, v4] [vI x0, vI x1] I = if x1 = x0 then runs cal 182 39 [v0, v1, v2, v3, v4] [] I else runs cal 182 24 [v0, v1, v2, v3, v4] [] I := st_cmp_eq (ins_of mI_182 (by rfl)) (by decide)
theorem r182_24 : runs cal 182 24 [vR 70, v1, v2, v3, v4] [] I = runs cal 182 25 [vR 70, v1, v2, v3, v4] [vR 70] I := runs_to (ins_of mI_182 (by rfl)) rfl rfl
theorem r182_25 : runs cal 182 25 [v0, v1, v2, v3, v4] [vR 70] I = runs cal 182 28 [v0, v1, v2, v3, v4] [vR 77] I := st_getR (ins_of mI_182 (by rfl)) mC_182 (by decide) fr_11_30 cT_70 (wdc wid_182 wd_70) rfl rfl
theorem r182_28 : runs cal 182 28 [v0, v1, v2, v3, vI w] [vR 77] I = runs cal 182 30 [v0, v1, v2, v3, vI w] [vI w, vR 77] I := runs_to (ins_of mI_182 (by rfl)) rfl rfl
theorem r182_30 : runs cal 182 30 [v0, v1, v2, v3, v4] [vI x0, vR 77] I = if 0 ≤ x0 ∧ x0 < 3 then runs cal 182 31 [v0, v1, v2, v3, v4] [vI (I 77 x0)] I else none := st_iald (ins_of mI_182 (by rfl)) cT_77 (wdc wid_182 wd_77)
theorem r182_31 : runs cal 182 31 [v0, vI w, v2, v3, v4] [vI x0] I = runs cal 182 32 [v0, vI w, v2, v3, v4] [vI w, vI x0] I := runs_to (ins_of mI_182 (by rfl)) rfl rfl
theorem r182_32 : runs cal 182 32 [v0, v1, v2, v3, v4] [vI x0, vI x1] I = if x1 = x0 then runs cal 182 35 [v0, v1, v2, v3, v4] [] I else runs cal 182 39 [v0, v1, v2, v3, v4] [] I := st_cmp_ne (ins_of mI_182 (by rfl)) (by decide)
theorem r182_35 : runs cal 182 35 [v0, v1, v2, v3, v4] [] I = runs cal 182 36 [v0, v1, v2, v3, v4] [vI (1)] I := runs_to (ins_of mI_182 (by rfl)) rfl rfl
theorem r182_36 : runs cal 182 36 [v0, v1, v2, v3, v4] [vI x0] I = runs cal 182 40 [v0, v1, v2, v3, v4] [vI x0] I := st_goto (ins_of mI_182 (by rfl)) (by decide)
theorem r182_39 : runs cal 182 39 [v0, v1, v2, v3, v4] [] I = runs cal 182 40 [v0, v1, v2, v3, v4] [vI (0)] I := runs_to (ins_of mI_182 (by rfl)) rfl rfl
theorem r182_40 : runs cal 182 40 [v0, v1, vI u, v3, v4] [vI x0] I = runs cal 182 41 [v0, v1, vI u, vI x0, v4] [] I := runs_to (ins_of mI_182 (by rfl)) rfl rfl
theorem r182_41 : runs cal 182 41 [v0, v1, v2, vI u, vI w] [] I = runs cal 182 44 [v0, v1, v2, vI u, vI (iadd w (1))] [] I := runs_to (ins_of mI_182 (by rfl)) rfl rfl
theorem r182_44 : runs cal 182 44 [v0, v1, v2, v3, v4] [] I = runs cal 182 5 [v0, v1, v2, v3, v4] [] I := st_goto (ins_of mI_182 (by rfl)) (by decide)
theorem r182_47 : runs cal 182 47 [v0, v1, v2, vI w, v4] [] I = runs cal 182 48 [v0, v1, v2, vI w, v4] [vI w] I := runs_to (ins_of mI_182 (by rfl)) rfl rfl
theorem r182_48 : runs cal 182 48 [v0, v1, v2, v3, v4] [vI x0] I = if x0 = 0 ∨ x0 = 1 then some (some (vI x0), I) else none := st_retZ (ins_of mI_182 (by rfl)) mR_182 (Or.inl rfl)
theorem r183_0 : runs cal 183 0 [vR 70, v1, v2, v3, v4, v5, v6] [] I = runs cal 183 1 [vR 70, v1, v2, v3, v4, v5, v6] [vR 70] I := runs_to (ins_of mI_183 (by rfl)) rfl rfl
theorem r183_1 : runs cal 183 1 [v0, v1, v2, v3, v4, v5, v6] [vR 70] I = runs cal 183 4 [v0, v1, v2, v3, v4, v5, v6] [vR 71] I := st_getR (ins_of mI_183 (by rfl)) mC_183 (by decide) fr_11_7 cT_70 (wdc wid_183 wd_70) rfl rfl
theorem r183_4 : runs cal 183 4 [v0, v1, v2, v3, v4, v5, v6] [vR 71] I = runs cal 183 6 [v0, v1, v2, v3, v4, v5, v6] [vI (18), vR 71] I := runs_to (ins_of mI_183 (by rfl)) rfl rfl
theorem r183_6 : runs cal 183 6 [v0, v1, v2, v3, v4, v5, v6] [vI x0, vR 71] I = runs cal 183 7 [v0, v1, v2, v3, v4, v5, v6] [vI (4), vI x0, vR 71] I := runs_to (ins_of mI_183 (by rfl)) rfl rfl
theorem r183_7 : runs cal 183 7 [v0, v1, vI w, v3, v4, v5, v6] [vI x0, vI x1, vR 71] I = runs cal 183 8 [v0, v1, vI w, v3, v4, v5, v6] [vI w, vI x0, vI x1, vR 71] I := runs_to (ins_of mI_183 (by rfl)) rfl rfl
theorem r183_8 : runs cal 183 8 [v0, v1, v2, v3, v4, v5, v6] [vI x0, vI x1, vI x2, vR 71] I = runs cal 183 9 [v0, v1, v2, v3, v4, v5, v6] [vI (imul x1 x0), vI x2, vR 71] I := runs_to (ins_of mI_183 (by rfl)) rfl rfl
theorem r183_9 : runs cal 183 9 [v0, v1, v2, v3, v4, v5, v6] [vI x0, vI x1, vR 71] I = runs cal 183 10 [v0, v1, v2, v3, v4, v5, v6] [vI (iadd x1 x0), vR 71] I := runs_to (ins_of mI_183 (by rfl)) rfl rfl
theorem r183_10 : runs cal 183 10 [v0, v1, v2, v3, v4, v5, v6] [vI x0, vR 71] I = if 0 ≤ x0 ∧ x0 < 110 then runs cal 183 11 [v0, v1, v2, v3, v4, v5, v6] [vI (I 71 x0)] I else none := st_iald (ins_of mI_183 (by rfl)) cT_71 (wdc wid_183 wd_71)
theorem r183_11 : runs cal 183 11 [v0, v1, vI u, v3, v4, v5, v6] [vI x0] I = runs cal 183 12 [v0, v1, vI u, vI x0, v4, v5, v6] [] I := runs_to (ins_of mI_183 (by rfl)) rfl rfl
theorem r183_12 : runs cal 183 12 [vR 70, v1, v2, v3, v4, v5, v6] [] I = runs cal 183 13 [vR 70, v1, v2, v3, v4, v5, v6] [vR 70] I := runs_to (ins_of mI_183 (by rfl)) rfl rfl
theorem r183_13 : runs cal 183 13 [v0, v1, vI w, v3, v4, v5, v6] [vR 70] I = runs cal 183 14 [v0, v1, vI w, v3, v4, v5, v6] [vI w, vR 70] I := runs_to (ins_of mI_183 (by rfl)) rfl rfl
theorem r183_14 : runs cal 183 14 [v0, v1, v2, v3, v4, v5, v6] [vI x0, vR 70] I = (cal 169 [vR 70, vI x0] I).bind (fun q => runs cal 183 17 [v0, v1, v2, v3, v4, v5, v6] (pushR q.1 []) q.2) := st_call (st := false) (ins_of mI_183 (by rfl)) mC_183 mr_11_131 (by decide) mS_169 mN_169 rfl (Nat.le_of_ble_eq_true rfl) rfl rfl (Or.inr ⟨_, _, rfl, rcv mC_169 rfl wid_183 (by decide +kernel)⟩) (Or.inl (wid_183.trans wid_169.symm))
theorem r183_17 : runs cal 183 17 [v0, v1, v2, v3, v4, v5, v6] [vI x0] I = if x0 = 0 then runs cal 183 42 [v0, v1, v2, v3, v4, v5, v6] [] I else runs cal 183 20 [v0, v1, v2, v3, v4, v5, v6] [] I := st_if_eq (ins_of mI_183 (by rfl)) (by decide)
theorem r183_20 : runs cal 183 20 [vR 70, v1, v2, v3, v4, v5, v6] [] I = runs cal 183 21 [vR 70, v1, v2, v3, v4, v5, v6] [vR 70] I := runs_to (ins_of mI_183 (by rfl)) rfl rfl
theorem r183_21 : runs cal 183 21 [v0, v1, vI w, v3, v4, v5, v6] [vR 70] I = runs cal 183 22 [v0, v1, vI w, v3, v4, v5, v6] [vI w, vR 70] I := runs_to (ins_of mI_183 (by rfl)) rfl rfl
theorem r183_22 : runs cal 183 22 [v0, v1, v2, v3, v4, v5, v6] [vI x0, vR 70] I = (cal 181 [vR 70, vI x0] I).bind (fun q => runs cal 183 25 [v0, v1, v2, v3, v4, v5, v6] (pushR q.1 []) q.2) := st_call (st := false) (ins_of mI_183 (by rfl)) mC_183 mr_11_184 (by decide) mS_181 mN_181 rfl (Nat.le_of_ble_eq_true rfl) rfl rfl (Or.inr ⟨_, _, rfl, rcv mC_181 rfl wid_183 (by decide +kernel)⟩) (Or.inl (wid_183.trans wid_181.symm))
theorem r183_25 : runs cal 183 25 [v0, v1, v2, v3, v4, v5, v6] [vI x0] I = if x0 = 0 then runs cal 183 28 [v0, v1, v2, v3, v4, v5, v6] [] I else runs cal 183 42 [v0, v1, v2, v3, v4, v5, v6] [] I := st_if_ne (ins_of mI_183 (by rfl)) (by decide)
theorem r183_28 : runs cal 183 28 [vR 70, v1, v2, v3, v4, v5, v6] [] I = runs cal 183 29 [vR 70, v1, v2, v3, v4, v5, v6] [vR 70] I := runs_to (ins_of mI_183 (by rfl)) rfl rfl
theorem r183_29 : runs cal 183 29 [v0, vI w, v2, v3, v4, v5, v6] [vR 70] I = runs cal 183 30 [v0, vI w, v2, v3, v4, v5, v6] [vI w, vR 70] I := runs_to (ins_of mI_183 (by rfl)) rfl rfl
theorem r183_30 : runs cal 183 30 [v0, v1, v2, v3, v4, v5, v6] [vI x0, vR 70] I = (cal 173 [vR 70, vI x0] I).bind (fun q => runs cal 183 33 [v0, v1, v2, v3, v4, v5, v6] (pushR q.1 []) q.2) := st_call (st := false) (ins_of mI_183 (by rfl)) mC_183 mr_11_148 (by decide) mS_173 mN_173 rfl (Nat.le_of_ble_eq_true rfl) rfl rfl (Or.inr ⟨_, _, rfl, rcv mC_173 rfl wid_183 (by decide +kernel)⟩) (Or.inl (wid_183.trans wid_173.symm))
theorem r183_33 : runs cal 183 33 [v0, v1, v2, v3, v4, v5, v6] [vI x0] I = runs cal 183 34 [v0, v1, v2, v3, v4, v5, v6] [vI (-1), vI x0] I := runs_to (ins_of mI_183 (by rfl)) rfl rfl
theorem r183_34 : runs cal 183 34 [v0, v1, v2, v3, v4, v5, v6] [vI x0, vI x1] I = if x1 = x0 then runs cal 183 37 [v0, v1, v2, v3, v4, v5, v6] [] I else runs cal 183 42 [v0, v1, v2, v3, v4, v5, v6] [] I := st_cmp_ne (ins_of mI_183 (by rfl)) (by decide)
theorem r183_37 : runs cal 183 37 [v0, v1, v2, vI w, v4, v5, v6] [] I = runs cal 183 38 [v0, v1, v2, vI w, v4, v5, v6] [vI w] I := runs_to (ins_of mI_183 (by rfl)) rfl rfl
theorem r183_38 : runs cal 183 38 [v0, v1, v2, v3, v4, v5, v6] [vI x0] I = runs cal 183 39 [v0, v1, v2, v3, v4, v5, v6] [vI (5), vI x0] I := runs_to (ins_of mI_183 (by rfl)) rfl rfl
theorem r183_39 : runs cal 183 39 [v0, v1, v2, v3, v4, v5, v6] [vI x0, vI x1] I = if x1 = x0 then runs cal 183 42 [v0, v1, v2, v3, v4, v5, v6] [] I else runs cal 183 44 [v0, v1, v2, v3, v4, v5, v6] [] I := st_cmp_ne (ins_of mI_183 (by rfl)) (by decide)
theorem r183_42 : runs cal 183 42 [v0, v1, v2, v3, v4, v5, v6] [] I = runs cal 183 43 [v0, v1, v2, v3, v4, v5, v6] [vI (0)] I := runs_to (ins_of mI_183 (by rfl)) rfl rfl
theorem r183_43 : runs cal 183 43 [v0, v1, v2, v3, v4, v5, v6] [vI x0] I = if x0 = 0 ∨ x0 = 1 then some (some (vI x0), I) else none := st_retZ (ins_of mI_183 (by rfl)) mR_183 (Or.inl rfl)
theorem r183_44 : runs cal 183 44 [vR 70, v1, v2, v3, v4, v5, v6] [] I = runs cal 183 45 [vR 70, v1, v2, v3, v4, v5, v6] [vR 70] I := runs_to (ins_of mI_183 (by rfl)) rfl rfl
theorem r183_45 : runs cal 183 45 [v0, v1, v2, v3, v4, v5, v6] [vR 70] I = runs cal 183 48 [v0, v1, v2, v3, v4, v5, v6] [vR 78] I := st_getR (ins_of mI_183 (by rfl)) mC_183 (by decide) fr_11_33 cT_70 (wdc wid_183 wd_70) rfl rfl
theorem r183_48 : runs cal 183 48 [v0, v1, vI w, v3, v4, v5, v6] [vR 78] I = runs cal 183 49 [v0, v1, vI w, v3, v4, v5, v6] [vI w, vR 78] I := runs_to (ins_of mI_183 (by rfl)) rfl rfl
theorem r183_49 : runs cal 183 49 [v0, v1, v2, v3, v4, v5, v6] [vI x0, vR 78] I = if 0 ≤ x0 ∧ x0 < 2 then runs cal 183 50 [v0, v1, v2, v3, v4, v5, v6] [vI (I 78 x0)] I else none := st_iald (ins_of mI_183 (by rfl)) cT_78 (wdc wid_183 wd_78)
theorem r183_50 : runs cal 183 50 [v0, v1, v2, v3, v4, v5, v6] [vI x0] I = runs cal 183 51 [v0, v1, v2, v3, v4, v5, v6] [vI (1), vI x0] I := runs_to (ins_of mI_183 (by rfl)) rfl rfl
theorem r183_51 : runs cal 183 51 [v0, v1, v2, v3, v4, v5, v6] [vI x0, vI x1] I = runs cal 183 52 [v0, v1, v2, v3, v4, v5, v6] [vI (isub x1 x0)] I := runs_to (ins_of mI_183 (by rfl)) rfl rfl
theorem r183_52 : runs cal 183 52 [v0, v1, v2, vI u, v4, v5, v6] [vI x0] I = runs cal 183 54 [v0, v1, v2, vI u, vI x0, v5, v6] [] I := runs_to (ins_of mI_183 (by rfl)) rfl rfl
theorem r183_54 : runs cal 183 54 [vR 70, v1, v2, v3, v4, v5, v6] [] I = runs cal 183 55 [vR 70, v1, v2, v3, v4, v5, v6] [vR 70] I := runs_to (ins_of mI_183 (by rfl)) rfl rfl
theorem r183_55 : runs cal 183 55 [v0, v1, v2, v3, v4, v5, v6] [vR 70] I = runs cal 183 58 [v0, v1, v2, v3, v4, v5, v6] [vR 78] I := st_getR (ins_of mI_183 (by rfl)) mC_183 (by decide) fr_11_33 cT_70 (wdc wid_183 wd_70) rfl rfl
theorem r183_58 : runs cal 183 58 [v0, v1, vI w, v3, v4, v5, v6] [vR 78] I = runs cal 183 59 [v0, v1, vI w, v3, v4, v5, v6] [vI w, vR 78] I := runs_to (ins_of mI_183 (by rfl)) rfl rfl
theorem r183_59 : runs cal 183 59 [v0, v1, v2, v3, v4, v5, v6] [vI x0, vR 78] I = if 0 ≤ x0 ∧ x0 < 2 then runs cal 183 60 [v0, v1, v2, v3, v4, v5, v6] [vI (I 78 x0)] I else none := st_iald (ins_of mI_183 (by rfl)) cT_78 (wdc wid_183 wd_78)
theorem r183_60 : runs cal 183 60 [vR 70, v1, v2, v3, v4, v5, v6] [vI x0] I = runs cal 183 61 [vR 70, v1, v2, v3, v4, v5, v6] [vR 70, vI x0] I := runs_to (ins_of mI_183 (by rfl)) rfl rfl
theorem r183_61 : runs cal 183 61 [v0, v1, vI w, v3, v4, v5, v6] [vR 70, vI x1] I = runs cal 183 62 [v0, v1, vI w, v3, v4, v5, v6] [vI w, vR 70, vI x1] I := runs_to (ins_of mI_183 (by rfl)) rfl rfl
theorem r183_62 : runs cal 183 62 [v0, v1, v2, v3, v4, v5, v6] [vI x0, vR 70, vI x2] I = (cal 167 [vR 70, vI x0] I).bind (fun q => runs cal 183 65 [v0, v1, v2, v3, v4, v5, v6] (pushR q.1 [vI x2]) q.2) := st_call (st := false) (ins_of mI_183 (by rfl)) mC_183 mr_11_134 (by decide) mS_167 mN_167 rfl (Nat.le_of_ble_eq_true rfl) rfl rfl (Or.inr ⟨_, _, rfl, rcv mC_167 rfl wid_183 (by decide +kernel)⟩) (Or.inl (wid_183.trans wid_167.symm))
theorem r183_65 : runs cal 183 65 [v0, v1, v2, v3, v4, v5, v6] [vI x0, vI x1] I = runs cal 183 66 [v0, v1, v2, v3, v4, v5, v6] [vI (iadd x1 x0)] I := runs_to (ins_of mI_183 (by rfl)) rfl rfl
theorem r183_66 : runs cal 183 66 [v0, v1, v2, v3, vI u, v5, v6] [vI x0] I = runs cal 183 68 [v0, v1, v2, v3, vI u, vI x0, v6] [] I := runs_to (ins_of mI_183 (by rfl)) rfl rfl
theorem r183_68 : runs cal 183 68 [vR 70, v1, v2, v3, v4, v5, v6] [] I = runs cal 183 69 [vR 70, v1, v2, v3, v4, v5, v6] [vR 70] I := runs_to (ins_of mI_183 (by rfl)) rfl rfl
theorem r183_69 : runs cal 183 69 [v0, v1, v2, v3, v4, v5, v6] [vR 70] I = runs cal 183 72 [v0, v1, v2, v3, v4, v5, v6] [vR 77] I := st_getR (ins_of mI_183 (by rfl)) mC_183 (by decide) fr_11_30 cT_70 (wdc wid_183 wd_70) rfl rfl
theorem r183_72 : runs cal 183 72 [v0, vI w, v2, v3, v4, v5, v6] [vR 77] I = runs cal 183 73 [v0, vI w, v2, v3, v4, v5, v6] [vI w, vR 77] I := runs_to (ins_of mI_183 (by rfl)) rfl rfl
theorem r183_73 : runs cal 183 73 [v0, v1, v2, v3, v4, v5, v6] [vI x0, vR 77] I = if 0 ≤ x0 ∧ x0 < 3 then runs cal 183 74 [v0, v1, v2, v3, v4, v5, v6] [vI (I 77 x0)] I else none := st_iald (ins_of mI_183 (by rfl)) cT_77 (wdc wid_183 wd_77)
theorem r183_74 : runs cal 183 74 [v0, v1, v2, v3, vI w, v5, v6] [vI x0] I = runs cal 183 76 [v0, v1, v2, v3, vI w, v5, v6] [vI w, vI x0] I := runs_to (ins_of mI_183 (by rfl)) rfl rfl
theorem r183_76 : runs cal 183 76 [v0, v1, v2, v3, v4, v5, v6] [vI x0, vI x1] I = if x1 = x0 then runs cal 183 90 [v0, v1, v2, v3, v4, v5, v6] [] I else runs cal 183 79 [v0, v1, v2, v3, v4, v5, v6] [] I := st_cmp_eq (ins_of mI_183 (by rfl)) (by decide)
theorem r183_79 : runs cal 183 79 [vR 70, v1, v2, v3, v4, v5, v6] [] I = runs cal 183 80 [vR 70, v1, v2, v3, v4, v5, v6] [vR 70] I := runs_to (ins_of mI_183 (by rfl)) rfl rfl
theorem r183_80 : runs cal 183 80 [v0, v1, v2, v3, v4, v5, v6] [vR 70] I = runs cal 183 83 [v0, v1, v2, v3, v4, v5, v6] [vR 77] I := st_getR (ins_of mI_183 (by rfl)) mC_183 (by decide) fr_11_30 cT_70 (wdc wid_183 wd_70) rfl rfl
theorem r183_83 : runs cal 183 83 [v0, vI w, v2, v3, v4, v5, v6] [vR 77] I = runs cal 183 84 [v0, vI w, v2, v3, v4, v5, v6] [vI w, vR 77] I := runs_to (ins_of mI_183 (by rfl)) rfl rfl
theorem r183_84 : runs cal 183 84 [v0, v1, v2, v3, v4, v5, v6] [vI x0, vR 77] I = if 0 ≤ x0 ∧ x0 < 3 then runs cal 183 85 [v0, v1, v2, v3, v4, v5, v6] [vI (I 77 x0)] I else none := st_iald (ins_of mI_183 (by rfl)) cT_77 (wdc wid_183 wd_77)
theorem r183_85 : runs cal 183 85 [v0, v1, v2, v3, v4, vI w, v6] [vI x0] I = runs cal 183 87 [v0, v1, v2, v3, v4, vI w, v6] [vI w, vI x0] I := runs_to (ins_of mI_183 (by rfl)) rfl rfl
theorem r183_87 : runs cal 183 87 [v0, v1, v2, v3, v4, v5, v6] [vI x0, vI x1] I = if x1 = x0 then runs cal 183 90 [v0, v1, v2, v3, v4, v5, v6] [] I else runs cal 183 94 [v0, v1, v2, v3, v4, v5, v6] [] I := st_cmp_ne (ins_of mI_183 (by rfl)) (by decide)
theorem r183_90 : runs cal 183 90 [v0, v1, v2, v3, v4, v5, v6] [] I = runs cal 183 91 [v0, v1, v2, v3, v4, v5, v6] [vI (1)] I := runs_to (ins_of mI_183 (by rfl)) rfl rfl
theorem r183_91 : runs cal 183 91 [v0, v1, v2, v3, v4, v5, v6] [vI x0] I = runs cal 183 95 [v0, v1, v2, v3, v4, v5, v6] [vI x0] I := st_goto (ins_of mI_183 (by rfl)) (by decide)
theorem r183_94 : runs cal 183 94 [v0, v1, v2, v3, v4, v5, v6] [] I = runs cal 183 95 [v0, v1, v2, v3, v4, v5, v6] [vI (0)] I := runs_to (ins_of mI_183 (by rfl)) rfl rfl
theorem r183_95 : runs cal 183 95 [v0, v1, v2, v3, v4, vI u, v6] [vI x0] I = runs cal 183 97 [v0, v1, v2, v3, v4, vI u, vI x0] [] I := runs_to (ins_of mI_183 (by rfl)) rfl rfl
theorem r183_97 : runs cal 183 97 [v0, v1, v2, v3, v4, v5, vI w] [] I = runs cal 183 99 [v0, v1, v2, v3, v4, v5, vI w] [vI w] I := runs_to (ins_of mI_183 (by rfl)) rfl rfl
theorem r183_99 : runs cal 183 99 [v0, v1, v2, v3, v4, v5, v6] [vI x0] I = if x0 = 0 then runs cal 183 137 [v0, v1, v2, v3, v4, v5, v6] [] I else runs cal 183 102 [v0, v1, v2, v3, v4, v5, v6] [] I := st_if_eq (ins_of mI_183 (by rfl)) (by decide)
theorem r183_102 : runs cal 183 102 [v0, v1, v2, vI w, v4, v5, v6] [] I = runs cal 183 103 [v0, v1, v2, vI w, v4, v5, v6] [vI w] I := runs_to (ins_of mI_183 (by rfl)) rfl rfl
theorem r183_103 : runs cal 183 103 [v0, v1, v2, v3, v4, v5, v6] [vI x0] I = runs cal 183 104 [v0, v1, v2, v3, v4, v5, v6] [vI (4), vI x0] I := runs_to (ins_of mI_183 (by rfl)) rfl rfl
theorem r183_104 : runs cal 183 104 [v0, v1, v2, v3, v4, v5, v6] [vI x0, vI x1] I = if x1 = x0 then runs cal 183 107 [v0, v1, v2, v3, v4, v5, v6] [] I else runs cal 183 133 [v0, v1, v2, v3, v4, v5, v6] [] I := st_cmp_ne (ins_of mI_183 (by rfl)) (by decide)
theorem r183_107 : runs cal 183 107 [vR 70, v1, v2, v3, v4, v5, v6] [] I = runs cal 183 108 [vR 70, v1, v2, v3, v4, v5, v6] [vR 70] I := runs_to (ins_of mI_183 (by rfl)) rfl rfl
theorem r183_108 : runs cal 183 108 [vR 70, v1, v2, v3, v4, v5, v6] [vR 70] I = runs cal 183 109 [vR 70, v1, v2, v3, v4, v5, v6] [vR 70, vR 70] I := runs_to (ins_of mI_183 (by rfl)) rfl rfl
theorem r183_109 : runs cal 183 109 [v0, v1, v2, v3, v4, v5, v6] [vR 70, vR 70] I = runs cal 183 112 [v0, v1, v2, v3, v4, v5, v6] [vR 77, vR 70] I := st_getR (ins_of mI_183 (by rfl)) mC_183 (by decide) fr_11_30 cT_70 (wdc wid_183 wd_70) rfl rfl
theorem r183_112 : runs cal 183 112 [v0, vI w, v2, v3, v4, v5, v6] [vR 77, vR 70] I = runs cal 183 113 [v0, vI w, v2, v3, v4, v5, v6] [vI w, vR 77, vR 70] I := runs_to (ins_of mI_183 (by rfl)) rfl rfl
theorem r183_113 : runs cal 183 113 [v0, v1, v2, v3, v4, v5, v6] [vI x0, vR 77, vR 70] I = if 0 ≤ x0 ∧ x0 < 3 then runs cal 183 114 [v0, v1, v2, v3, v4, v5, v6] [vI (I 77 x0), vR 70] I else none := st_iald (ins_of mI_183 (by rfl)) cT_77 (wdc wid_183 wd_77)
theorem r183_114 : runs cal 183 114 [v0, v1, v2, v3, vI w, v5, v6] [vI x0, vR 70] I = runs cal 183 116 [v0, v1, v2, v3, vI w, v5, v6] [vI w, vI x0, vR 70] I := runs_to (ins_of mI_183 (by rfl)) rfl rfl
theorem r183_116 : runs cal 183 116 [v0, v1, v2, v3, v4, v5, v6] [vI x0, vI x1, vR 70] I = if x1 = x0 then runs cal 183 119 [v0, v1, v2, v3, v4, v5, v6] [vR 70] I else runs cal 183 124 [v0, v1, v2, v3, v4, v5, v6] [vR 70] I := st_cmp_ne (ins_of mI_183 (by rfl)) (by decide)
theorem r183_119 : runs cal 183 119 [v0, v1, v2, v3, v4, vI w, v6] [vR 70] I = runs cal 183 121 [v0, v1, v2, v3, v4, vI w, v6] [vI w, vR 70] I := runs_to (ins_of mI_183 (by rfl)) rfl rfl
theorem r183_121 : runs cal 183 121 [v0, v1, v2, v3, v4, v5, v6] [vI x0, vR 70] I = runs cal 183 126 [v0, v1, v2, v3, v4, v5, v6] [vI x0, vR 70] I := st_goto (ins_of mI_183 (by rfl)) (by decide)
theorem r183_124 : runs cal 183 124 [v0, v1, v2, v3, vI w, v5, v6] [vR 70] I = runs cal 183 126 [v0, v1, v2, v3, vI w, v5, v6] [vI w, vR 70] I := runs_to (ins_of mI_183 (by rfl)) rfl rfl
theorem r183_126 : runs cal 183 126 [v0, vI w, v2, v3, v4, v5, v6] [vI x0, vR 70] I = runs cal 183 127 [v0, vI w, v2, v3, v4, v5, v6] [vI w, vI x0, vR 70] I := runs_to (ins_of mI_183 (by rfl)) rfl rfl
theorem r183_127 : runs cal 183 127 [v0, v1, v2, v3, v4, v5, v6] [vI x0, vI x1, vR 70] I = (cal 182 [vR 70, vI x1, vI x0] I).bind (fun q => runs cal 183 130 [v0, v1, v2, v3, v4, v5, v6] (pushR q.1 []) q.2) := st_call (st := false) (ins_of mI_183 (by rfl)) mC_183 mr_11_187 (by decide) mS_182 mN_182 rfl (Nat.le_of_ble_eq_true rfl) rfl rfl (Or.inr ⟨_, _, rfl, rcv mC_182 rfl wid_183 (by decide +kernel)⟩) (Or.inl (wid_183.trans wid_182.symm))
theorem r183_130 : runs cal 183 130 [v0, v1, v2, v3, v4, v5, v6] [vI x0] I = if x0 = 0 then runs cal 183 137 [v0, v1, v2, v3, v4, v5, v6] [] I else runs cal 183 133 [v0, v1, v2, v3, v4, v5, v6] [] I := st_if_eq (ins_of mI_183 (by rfl)) (by decide)
theorem r183_133 : runs cal 183 133 [v0, v1, v2, v3, v4, v5, v6] [] I = runs cal 183 134 [v0, v1, v2, v3, v4, v5, v6] [vI (1)] I := runs_to (ins_of mI_183 (by rfl)) rfl rfl
theorem r183_134 : runs cal 183 134 [v0, v1, v2, v3, v4, v5, v6] [vI x0] I = runs cal 183 138 [v0, v1, v2, v3, v4, v5, v6] [vI x0] I := st_goto (ins_of mI_183 (by rfl)) (by decide)
theorem r183_137 : runs cal 183 137 [v0, v1, v2, v3, v4, v5, v6] [] I = runs cal 183 138 [v0, v1, v2, v3, v4, v5, v6] [vI (0)] I := runs_to (ins_of mI_183 (by rfl)) rfl rfl
theorem r183_138 : runs cal 183 138 [v0, v1, v2, v3, v4, v5, v6] [vI x0] I = if x0 = 0 ∨ x0 = 1 then some (some (vI x0), I) else none := st_retZ (ins_of mI_183 (by rfl)) mR_183 (Or.inl rfl)
theorem r184_0 : runs cal 184 0 [v0, v1, v2, vI w] [] I = runs cal 184 1 [v0, v1, v2, vI w] [vI w] I := runs_to (ins_of mI_184 (by rfl)) rfl rfl
theorem r184_1 : runs cal 184 1 [v0, v1, v2, v3] [vI x0] I = runs cal 184 2 [v0, v1, v2, v3] [vI (1), vI x0] I := runs_to (ins_of mI_184 (by rfl)) rfl rfl
theorem r184_2 : runs cal 184 2 [v0, v1, v2, v3] [vI x0, vI x1] I = if x1 = x0 then runs cal 184 5 [v0, v1, v2, v3] [] I else runs cal 184 16 [v0, v1, v2, v3] [] I := st_cmp_ne (ins_of mI_184 (by rfl)) (by decide)
theorem r184_5 : runs cal 184 5 [vR 70, v1, v2, v3] [] I = runs cal 184 6 [vR 70, v1, v2, v3] [vR 70] I := runs_to (ins_of mI_184 (by rfl)) rfl rfl
theorem r184_6 : runs cal 184 6 [v0, v1, v2, v3] [vR 70] I = runs cal 184 9 [v0, v1, v2, v3] [vR 77] I := st_getR (ins_of mI_184 (by rfl)) mC_184 (by decide) fr_11_30 cT_70 (wdc wid_184 wd_70) rfl rfl
theorem r184_9 : runs cal 184 9 [v0, vI w, v2, v3] [vR 77] I = runs cal 184 10 [v0, vI w, v2, v3] [vI w, vR 77] I := runs_to (ins_of mI_184 (by rfl)) rfl rfl
theorem r184_10 : runs cal 184 10 [v0, v1, v2, v3] [vI x0, vR 77] I = if 0 ≤ x0 ∧ x0 < 3 then runs cal 184 11 [v0, v1, v2, v3] [vI (I 77 x0)] I else none := st_iald (ins_of mI_184 (by rfl)) cT_77 (wdc wid_184 wd_77)
theorem r184_11 : runs cal 184 11 [v0, v1, v2, v3] [vI x0] I = runs cal 184 12 [v0, v1, v2, v3] [vI (1), vI x0] I := runs_to (ins_of mI_184 (by rfl)) rfl rfl
theorem r184_12 : runs cal 184 12 [v0, v1, v2, v3] [vI x0, vI x1] I = runs cal 184 13 [v0, v1, v2, v3] [vI (iadd x1 x0)] I := runs_to (ins_of mI_184 (by rfl)) rfl rfl
theorem r184_13 : runs cal 184 13 [v0, v1, v2, v3] [vI x0] I = runs cal 184 28 [v0, v1, v2, v3] [vI x0] I := st_goto (ins_of mI_184 (by rfl)) (by decide)
theorem r184_16 : runs cal 184 16 [vR 70, v1, v2, v3] [] I = runs cal 184 17 [vR 70, v1, v2, v3] [vR 70] I := runs_to (ins_of mI_184 (by rfl)) rfl rfl
theorem r184_17 : runs cal 184 17 [v0, v1, v2, v3] [vR 70] I = runs cal 184 20 [v0, v1, v2, v3] [vR 77] I := st_getR (ins_of mI_184 (by rfl)) mC_184 (by decide) fr_11_30 cT_70 (wdc wid_184 wd_70) rfl rfl
theorem r184_20 : runs cal 184 20 [v0, vI w, v2, v3] [vR 77] I = runs cal 184 21 [v0, vI w, v2, v3] [vI w, vR 77] I := runs_to (ins_of mI_184 (by rfl)) rfl rfl
theorem r184_21 : runs cal 184 21 [v0, v1, v2, v3] [vI x0, vR 77] I = if 0 ≤ x0 ∧ x0 < 3 then runs cal 184 22 [v0, v1, v2, v3] [vI (I 77 x0)] I else none := st_iald (ins_of mI_184 (by rfl)) cT_77 (wdc wid_184 wd_77)
theorem r184_22 : runs cal 184 22 [vR 70, v1, v2, v3] [vI x0] I = runs cal 184 23 [vR 70, v1, v2, v3] [vR 70, vI x0] I := runs_to (ins_of mI_184 (by rfl)) rfl rfl
theorem r184_23 : runs cal 184 23 [v0, v1, vI w, v3] [vR 70, vI x1] I = runs cal 184 24 [v0, v1, vI w, v3] [vI w, vR 70, vI x1] I := runs_to (ins_of mI_184 (by rfl)) rfl rfl
theorem r184_24 : runs cal 184 24 [v0, v1, v2, v3] [vI x0, vR 70, vI x2] I = (cal 167 [vR 70, vI x0] I).bind (fun q => runs cal 184 27 [v0, v1, v2, v3] (pushR q.1 [vI x2]) q.2) := st_call (st := false) (ins_of mI_184 (by rfl)) mC_184 mr_11_134 (by decide) mS_167 mN_167 rfl (Nat.le_of_ble_eq_true rfl) rfl rfl (Or.inr ⟨_, _, rfl, rcv mC_167 rfl wid_184 (by decide +kernel)⟩) (Or.inl (wid_184.trans wid_167.symm))
theorem r184_27 : runs cal 184 27 [v0, v1, v2, v3] [vI x0, vI x1] I = runs cal 184 28 [v0, v1, v2, v3] [vI (isub x1 x0)] I := runs_to (ins_of mI_184 (by rfl)) rfl rfl
theorem r184_28 : runs cal 184 28 [v0, v1, v2, v3] [vI x0] I = some (some (vI x0), I) := st_ret (q := some (vI x0)) (k := 0) (ins_of mI_184 (by rfl)) rfl (by decide) mR_184 rfl trivial
theorem r185_0 : runs cal 185 0 [vR 70, v1, v2, v3, v4, v5, v6] [] I = runs cal 185 1 [vR 70, v1, v2, v3, v4, v5, v6] [vR 70] I := runs_to (ins_of mI_185 (by rfl)) rfl rfl
theorem r185_1 : runs cal 185 1 [v0, vI w, v2, v3, v4, v5, v6] [vR 70] I = runs cal 185 2 [v0, vI w, v2, v3, v4, v5, v6] [vI w, vR 70] I := runs_to (ins_of mI_185 (by rfl)) rfl rfl
theorem r185_2 : runs cal 185 2 [v0, v1, v2, v3, v4, v5, v6] [vI x0, vR 70] I = (cal 173 [vR 70, vI x0] I).bind (fun q => runs cal 185 5 [v0, v1, v2, v3, v4, v5, v6] (pushR q.1 []) q.2) := st_call (st := false) (ins_of mI_185 (by rfl)) mC_185 mr_11_148 (by decide) mS_173 mN_173 rfl (Nat.le_of_ble_eq_true rfl) rfl rfl (Or.inr ⟨_, _, rfl, rcv mC_173 rfl wid_185 (by decide +kernel)⟩) (Or.inl (wid_185.trans wid_173.symm))
theorem r185_5 : runs cal 185 5 [v0, v1, vI w, v3, v4, v5, v6] [vI x0] I = runs cal 185 6 [v0, v1, vI w, v3, v4, v5, v6] [vI w, vI x0] I := runs_to (ins_of mI_185 (by rfl)) rfl rfl
theorem r185_6 : runs cal 185 6 [v0, v1, v2, v3, v4, v5, v6] [vI x0, vI x1] I = if x1 = x0 then runs cal 185 11 [v0, v1, v2, v3, v4, v5, v6] [] I else runs cal 185 9 [v0, v1, v2, v3, v4, v5, v6] [] I := st_cmp_eq (ins_of mI_185 (by rfl)) (by decide)
theorem r185_9 : runs cal 185 9 [v0, v1, v2, v3, v4, v5, v6] [] I = runs cal 185 10 [v0, v1, v2, v3, v4, v5, v6] [vI (0)] I := runs_to (ins_of mI_185 (by rfl)) rfl rfl
theorem r185_10 : runs cal 185 10 [v0, v1, v2, v3, v4, v5, v6] [vI x0] I = if x0 = 0 ∨ x0 = 1 then some (some (vI x0), I) else none := st_retZ (ins_of mI_185 (by rfl)) mR_185 (Or.inl rfl)
theorem r185_11 : runs cal 185 11 [vR 70, v1, v2, v3, v4, v5, v6] [] I = runs cal 185 12 [vR 70, v1, v2, v3, v4, v5, v6] [vR 70] I := runs_to (ins_of mI_185 (by rfl)) rfl rfl
theorem r185_12 : runs cal 185 12 [v0, vI w, v2, v3, v4, v5, v6] [vR 70] I = runs cal 185 13 [v0, vI w, v2, v3, v4, v5, v6] [vI w, vR 70] I := runs_to (ins_of mI_185 (by rfl)) rfl rfl
theorem r185_13 : runs cal 185 13 [v0, v1, vI w, v3, v4, v5, v6] [vI x0, vR 70] I = runs cal 185 14 [v0, v1, vI w, v3, v4, v5, v6] [vI w, vI x0, vR 70] I := runs_to (ins_of mI_185 (by rfl)) rfl rfl
theorem r185_14 : runs cal 185 14 [v0, v1, v2, vI w, v4, v5, v6] [vI x0, vI x1, vR 70] I = runs cal 185 15 [v0, v1, v2, vI w, v4, v5, v6] [vI w, vI x0, vI x1, vR 70] I := runs_to (ins_of mI_185 (by rfl)) rfl rfl
theorem r185_15 : runs cal 185 15 [v0, v1, v2, v3, v4, v5, v6] [vI x0, vI x1, vI x2, vR 70] I = (cal 184 [vR 70, vI x2, vI x1, vI x0] I).bind (fun q => runs cal 185 18 [v0, v1, v2, v3, v4, v5, v6] (pushR q.1 []) q.2) := st_call (st := false) (ins_of mI_185 (by rfl)) mC_185 mr_11_190 (by decide) mS_184 mN_184 rfl (Nat.le_of_ble_eq_true rfl) rfl rfl (Or.inr ⟨_, _, rfl, rcv mC_184 rfl wid_185 (by decide +kernel)⟩) (Or.inl (wid_185.trans wid_184.symm))
theorem r185_18 : runs cal 185 18 [v0, v1, v2, vI u, v4, v5, v6] [vI x0] I = runs cal 185 20 [v0, v1, v2, vI u, vI x0, v5, v6] [] I := runs_to (ins_of mI_185 (by rfl)) rfl rfl
theorem r185_20 : runs cal 185 20 [v0, v1, v2, v3, v4, v5, v6] [] I = runs cal 185 21 [v0, v1, v2, v3, v4, v5, v6] [vI (1)] I := runs_to (ins_of mI_185 (by rfl)) rfl rfl
theorem r185_21 : runs cal 185 21 [v0, v1, v2, v3, vI u, v5, v6] [vI x0] I = runs cal 185 23 [v0, v1, v2, v3, vI u, vI x0, v6] [] I := runs_to (ins_of mI_185 (by rfl)) rfl rfl
theorem r185_23 : runs cal 185 23 [v0, v1, v2, v3, vI w, v5, v6] [] I = runs cal 185 25 [v0, v1, v2, v3, vI w, v5, v6] [vI w] I := runs_to (ins_of mI_185 (by rfl)) rfl rfl
theorem r185_25 : runs cal 185 25 [v0, v1, v2, v3, v4, vI u, v6] [vI x0] I = runs cal 185 27 [v0, v1, v2, v3, v4, vI u, vI x0] [] I := runs_to (ins_of mI_185 (by rfl)) rfl rfl
theorem r185_27 : runs cal 185 27 [v0, v1, v2, v3, v4, v5, vI w] [] I = runs cal 185 29 [v0, v1, v2, v3, v4, v5, vI w] [vI w] I := runs_to (ins_of mI_185 (by rfl)) rfl rfl
theorem r185_29 : runs cal 185 29 [v0, v1, v2, v3, vI w, v5, v6] [vI x0] I = runs cal 185 31 [v0, v1, v2, v3, vI w, v5, v6] [vI w, vI x0] I := runs_to (ins_of mI_185 (by rfl)) rfl rfl
theorem r185_31 : runs cal 185 31 [vR 70, v1, v2, v3, v4, v5, v6] [vI x0, vI x1] I = runs cal 185 32 [vR 70, v1, v2, v3, v4, v5, v6] [vR 70, vI x0, vI x1] I := runs_to (ins_of mI_185 (by rfl)) rfl rfl
theorem r185_32 : runs cal 185 32 [v0, v1, vI w, v3, v4, v5, v6] [vR 70, vI x1, vI x2] I = runs cal 185 33 [v0, v1, vI w, v3, v4, v5, v6] [vI w, vR 70, vI x1, vI x2] I := runs_to (ins_of mI_185 (by rfl)) rfl rfl
theorem r185_33 : runs cal 185 33 [v0, v1, v2, v3, v4, v5, v6] [vI x0, vR 70, vI x2, vI x3] I = (cal 167 [vR 70, vI x0] I).bind (fun q => runs cal 185 36 [v0, v1, v2, v3, v4, v5, v6] (pushR q.1 [vI x2, vI x3]) q.2) := st_call (st := false) (ins_of mI_185 (by rfl)) mC_185 mr_11_134 (by decide) mS_167 mN_167 rfl (Nat.le_of_ble_eq_true rfl) rfl rfl (Or.inr ⟨_, _, rfl, rcv mC_167 rfl wid_185 (by decide +kernel)⟩) (Or.inl (wid_185.trans wid_167.symm))
theorem r185_36 : runs cal 185 36 [v0, v1, v2, v3, v4, v5, v6] [vI x0, vI x1, vI x2] I = runs cal 185 37 [v0, v1, v2, v3, v4, v5, v6] [vI (iadd x1 x0), vI x2] I := runs_to (ins_of mI_185 (by rfl)) rfl rfl
theorem r185_37 : runs cal 185 37 [v0, v1, v2, v3, v4, v5, v6] [vI x0, vI x1] I = if x1 < x0 then runs cal 185 40 [v0, v1, v2, v3, v4, v5, v6] [] I else runs cal 185 95 [v0, v1, v2, v3, v4, v5, v6] [] I := st_cmp_ge (ins_of mI_185 (by rfl)) (by decide)
theorem r185_40 : runs cal 185 40 [v0, v1, v2, v3, v4, vI w, v6] [] I = runs cal 185 42 [v0, v1, v2, v3, v4, vI w, v6] [vI w] I := runs_to (ins_of mI_185 (by rfl)) rfl rfl
theorem r185_42 : runs cal 185 42 [v0, v1, v2, v3, v4, v5, v6] [vI x0] I = if x0 = 0 then runs cal 185 95 [v0, v1, v2, v3, v4, v5, v6] [] I else runs cal 185 45 [v0, v1, v2, v3, v4, v5, v6] [] I := st_if_eq (ins_of mI_185 (by rfl)) (by decide)
theorem r185_45 : runs cal 185 45 [v0, v1, v2, v3, v4, v5, vI w] [] I = runs cal 185 47 [v0, v1, v2, v3, v4, v5, vI w] [vI w] I := runs_to (ins_of mI_185 (by rfl)) rfl rfl
theorem r185_47 : runs cal 185 47 [v0, v1, v2, v3, v4, v5, v6] [vI x0] I = runs cal 185 48 [v0, v1, v2, v3, v4, v5, v6] [vL x0] I := runs_to (ins_of mI_185 (by rfl)) rfl rfl
theorem r185_48 : runs cal 185 48 [v0, v1, v2, v3, v4, v5, v6] [vL x0] I = runs cal 185 49 [v0, v1, v2, v3, v4, v5, v6] [vL 0, vL x0] I := runs_to (ins_of mI_185 (by rfl)) rfl rfl
theorem r185_49 : runs cal 185 49 [vR 70, v1, v2, v3, v4, v5, v6] [vL x0, vL x1] I = runs cal 185 50 [vR 70, v1, v2, v3, v4, v5, v6] [vR 70, vL x0, vL x1] I := runs_to (ins_of mI_185 (by rfl)) rfl rfl
theorem r185_50 : runs cal 185 50 [v0, v1, v2, v3, v4, v5, v6] [vR 70, vL x1, vL x2] I = (cal 163 [vR 70] I).bind (fun q => runs cal 185 53 [v0, v1, v2, v3, v4, v5, v6] (pushR q.1 [vL x1, vL x2]) q.2) := st_call (st := false) (ins_of mI_185 (by rfl)) mC_185 mr_11_142 (by decide) mS_163 mN_163 rfl (Nat.le_of_ble_eq_true rfl) rfl rfl (Or.inr ⟨_, _, rfl, rcv mC_163 rfl wid_185 (by decide +kernel)⟩) (Or.inl (wid_185.trans wid_163.symm))
theorem r185_53 : runs cal 185 53 [v0, v1, v2, v3, v4, v5, v6] [vI x0, vL x1, vL x2] I = runs cal 185 54 [v0, v1, v2, v3, v4, v5, v6] [vL x0, vL x1, vL x2] I := runs_to (ins_of mI_185 (by rfl)) rfl rfl
theorem r185_54 : runs cal 185 54 [v0, v1, v2, v3, v4, v5, v6] [vL x0, vL x1, vL x2] I = (cal 142 [vL x2, vL x1, vL x0] I).bind (fun q => runs cal 185 57 [v0, v1, v2, v3, v4, v5, v6] (pushR q.1 []) q.2) := st_call (st := true) (ins_of mI_185 (by rfl)) mC_185 mr_11_121 (by decide) mS_142 mN_142 rfl (Nat.le_of_ble_eq_true rfl) rfl rfl (Or.inl rfl) (Or.inl (wid_185.trans wid_142.symm))
theorem r185_57 : runs cal 185 57 [v0, v1, v2, v3, v4, v5, v6] [vI x0] I = if x0 = 0 then runs cal 185 86 [v0, v1, v2, v3, v4, v5, v6] [] I else runs cal 185 60 [v0, v1, v2, v3, v4, v5, v6] [] I := st_if_eq (ins_of mI_185 (by rfl)) (by decide)
theorem r185_60 : runs cal 185 60 [vR 70, v1, v2, v3, v4, v5, v6] [] I = runs cal 185 61 [vR 70, v1, v2, v3, v4, v5, v6] [vR 70] I := runs_to (ins_of mI_185 (by rfl)) rfl rfl
theorem r185_61 : runs cal 185 61 [v0, v1, v2, v3, v4, v5, v6] [vR 70] I = runs cal 185 64 [v0, v1, v2, v3, v4, v5, v6] [vR 71] I := st_getR (ins_of mI_185 (by rfl)) mC_185 (by decide) fr_11_7 cT_70 (wdc wid_185 wd_70) rfl rfl
theorem r185_64 : runs cal 185 64 [v0, v1, v2, v3, v4, v5, v6] [vR 71] I = runs cal 185 65 [v0, v1, v2, v3, v4, v5, v6] [vI (0), vR 71] I := runs_to (ins_of mI_185 (by rfl)) rfl rfl
theorem r185_65 : runs cal 185 65 [v0, v1, v2, v3, v4, v5, vI w] [vI x0, vR 71] I = runs cal 185 67 [v0, v1, v2, v3, v4, v5, vI w] [vI w, vI x0, vR 71] I := runs_to (ins_of mI_185 (by rfl)) rfl rfl
theorem r185_67 : runs cal 185 67 [v0, v1, v2, v3, v4, v5, v6] [vI x0, vI x1, vR 71] I = runs cal 185 68 [v0, v1, v2, v3, v4, v5, v6] [vI (iadd x1 x0), vR 71] I := runs_to (ins_of mI_185 (by rfl)) rfl rfl
theorem r185_68 : runs cal 185 68 [v0, v1, v2, v3, v4, v5, v6] [vI x0, vR 71] I = if 0 ≤ x0 ∧ x0 < 110 then runs cal 185 69 [v0, v1, v2, v3, v4, v5, v6] [vI (I 71 x0)] I else none := st_iald (ins_of mI_185 (by rfl)) cT_71 (wdc wid_185 wd_71)
theorem r185_69 : runs cal 185 69 [v0, v1, v2, v3, v4, v5, v6] [vI x0] I = runs cal 185 70 [v0, v1, v2, v3, v4, v5, v6] [vI (2), vI x0] I := runs_to (ins_of mI_185 (by rfl)) rfl rfl
theorem r185_70 : runs cal 185 70 [v0, v1, v2, v3, v4, v5, v6] [vI x0, vI x1] I = if x1 = x0 then runs cal 185 73 [v0, v1, v2, v3, v4, v5, v6] [] I else runs cal 185 86 [v0, v1, v2, v3, v4, v5, v6] [] I := st_cmp_ne (ins_of mI_185 (by rfl)) (by decide)
theorem r185_73 : runs cal 185 73 [vR 70, v1, v2, v3, v4, v5, v6] [] I = runs cal 185 74 [vR 70, v1, v2, v3, v4, v5, v6] [vR 70] I := runs_to (ins_of mI_185 (by rfl)) rfl rfl
theorem r185_74 : runs cal 185 74 [v0, v1, v2, v3, v4, v5, vI w] [vR 70] I = runs cal 185 76 [v0, v1, v2, v3, v4, v5, vI w] [vI w, vR 70] I := runs_to (ins_of mI_185 (by rfl)) rfl rfl
theorem r185_76 : runs cal 185 76 [v0, v1, v2, v3, v4, v5, v6] [vI x0, vR 70] I = (cal 171 [vR 70, vI x0] I).bind (fun q => runs cal 185 79 [v0, v1, v2, v3, v4, v5, v6] (pushR q.1 []) q.2) := st_call (st := false) (ins_of mI_185 (by rfl)) mC_185 mr_11_145 (by decide) mS_171 mN_171 rfl (Nat.le_of_ble_eq_true rfl) rfl rfl (Or.inr ⟨_, _, rfl, rcv mC_171 rfl wid_185 (by decide +kernel)⟩) (Or.inl (wid_185.trans wid_171.symm))
theorem r185_79 : runs cal 185 79 [v0, v1, v2, v3, v4, v5, v6] [vI x0] I = if x0 = 0 then runs cal 185 82 [v0, v1, v2, v3, v4, v5, v6] [] I else runs cal 185 86 [v0, v1, v2, v3, v4, v5, v6] [] I := st_if_ne (ins_of mI_185 (by rfl)) (by decide)
theorem r185_82 : runs cal 185 82 [v0, v1, v2, v3, v4, v5, v6] [] I = runs cal 185 83 [v0, v1, v2, v3, v4, v5, v6] [vI (1)] I := runs_to (ins_of mI_185 (by rfl)) rfl rfl
theorem r185_83 : runs cal 185 83 [v0, v1, v2, v3, v4, v5, v6] [vI x0] I = runs cal 185 87 [v0, v1, v2, v3, v4, v5, v6] [vI x0] I := st_goto (ins_of mI_185 (by rfl)) (by decide)
theorem r185_86 : runs cal 185 86 [v0, v1, v2, v3, v4, v5, v6] [] I = runs cal 185 87 [v0, v1, v2, v3, v4, v5, v6] [vI (0)] I := runs_to (ins_of mI_185 (by rfl)) rfl rfl
theorem r185_87 : runs cal 185 87 [v0, v1, v2, v3, vI u, v5, v6] [vI x0] I = runs cal 185 89 [v0, v1, v2, v3, vI u, vI x0, v6] [] I := runs_to (ins_of mI_185 (by rfl)) rfl rfl
theorem r185_89 : runs cal 185 89 [v0, v1, v2, v3, v4, vI u, vI w] [] I = runs cal 185 92 [v0, v1, v2, v3, v4, vI u, vI (iadd w (1))] [] I := runs_to (ins_of mI_185 (by rfl)) rfl rfl
theorem r185_92 : runs cal 185 92 [v0, v1, v2, v3, v4, v5, v6] [] I = runs cal 185 27 [v0, v1, v2, v3, v4, v5, v6] [] I := st_goto (ins_of mI_185 (by rfl)) (by decide)
theorem r185_95 : runs cal 185 95 [v0, v1, v2, v3, v4, vI w, v6] [] I = runs cal 185 97 [v0, v1, v2, v3, v4, vI w, v6] [vI w] I := runs_to (ins_of mI_185 (by rfl)) rfl rfl
theorem r185_97 : runs cal 185 97 [v0, v1, v2, v3, v4, v5, v6] [vI x0] I = if x0 = 0 ∨ x0 = 1 then some (some (vI x0), I) else none := st_retZ (ins_of mI_185 (by rfl)) mR_185 (Or.inl rfl)
theorem r186_0 : runs cal 186 0 [vR 70, v1, v2, v3, v4] [] I = runs cal 186 1 [vR 70, v1, v2, v3, v4] [vR 70] I := runs_to (ins_of mI_186 (by rfl)) rfl rfl
theorem r186_1 : runs cal 186 1 [v0, v1, v2, v3, v4] [vR 70] I = runs cal 186 4 [v0, v1, v2, v3, v4] [vR 77] I := st_getR (ins_of mI_186 (by rfl)) mC_186 (by decide) fr_11_30 cT_70 (wdc wid_186 wd_70) rfl rfl
theorem r186_4 : runs cal 186 4 [v0, vI w, v2, v3, v4] [vR 77] I = runs cal 186 5 [v0, vI w, v2, v3, v4] [vI w, vR 77] I := runs_to (ins_of mI_186 (by rfl)) rfl rfl
theorem r186_5 : runs cal 186 5 [v0, v1, v2, v3, v4] [vI x0, vR 77] I = if 0 ≤ x0 ∧ x0 < 3 then runs cal 186 6 [v0, v1, v2, v3, v4] [vI (I 77 x0)] I else none := st_iald (ins_of mI_186 (by rfl)) cT_77 (wdc wid_186 wd_77)
theorem r186_6 : runs cal 186 6 [vR 70, v1, v2, v3, v4] [vI x0] I = runs cal 186 7 [vR 70, v1, v2, v3, v4] [vR 70, vI x0] I := runs_to (ins_of mI_186 (by rfl)) rfl rfl
theorem r186_7 : runs cal 186 7 [v0, v1, v2, v3, v4] [vR 70, vI x1] I = runs cal 186 10 [v0, v1, v2, v3, v4] [vR 77, vI x1] I := st_getR (ins_of mI_186 (by rfl)) mC_186 (by decide) fr_11_30 cT_70 (wdc wid_186 wd_70) rfl rfl
theorem r186_10 : runs cal 186 10 [v0, v1, v2, vI w, v4] [vR 77, vI x1] I = runs cal 186 11 [v0, v1, v2, vI w, v4] [vI w, vR 77, vI x1] I := runs_to (ins_of mI_186 (by rfl)) rfl rfl
theorem r186_11 : runs cal 186 11 [v0, v1, v2, v3, v4] [vI x0, vR 77, vI x2] I = if 0 ≤ x0 ∧ x0 < 3 then runs cal 186 12 [v0, v1, v2, v3, v4] [vI (I 77 x0), vI x2] I else none := st_iald (ins_of mI_186 (by rfl)) cT_77 (wdc wid_186 wd_77)
theorem r186_12 : runs cal 186 12 [v0, v1, v2, v3, v4] [vI x0, vI x1] I = runs cal 186 13 [v0, v1, v2, v3, v4] [vI (isub x1 x0)] I := runs_to (ins_of mI_186 (by rfl)) rfl rfl
theorem r186_13 : runs cal 186 13 [v0, v1, v2, vI u, v4] [vI x0] I = runs cal 186 15 [v0, v1, v2, vI u, vI x0] [] I := runs_to (ins_of mI_186 (by rfl)) rfl rfl
theorem r186_15 : runs cal 186 15 [vR 70, v1, v2, v3, v4] [] I = runs cal 186 16 [vR 70, v1, v2, v3, v4] [vR 70] I := runs_to (ins_of mI_186 (by rfl)) rfl rfl
theorem r186_16 : runs cal 186 16 [v0, vI w, v2, v3, v4] [vR 70] I = runs cal 186 17 [v0, vI w, v2, v3, v4] [vI w, vR 70] I := runs_to (ins_of mI_186 (by rfl)) rfl rfl
theorem r186_17 : runs cal 186 17 [v0, v1, v2, v3, v4] [vI x0, vR 70] I = (cal 173 [vR 70, vI x0] I).bind (fun q => runs cal 186 20 [v0, v1, v2, v3, v4] (pushR q.1 []) q.2) := st_call (st := false) (ins_of mI_186 (by rfl)) mC_186 mr_11_148 (by decide) mS_173 mN_173 rfl (Nat.le_of_ble_eq_true rfl) rfl rfl (Or.inr ⟨_, _, rfl, rcv mC_173 rfl wid_186 (by decide +kernel)⟩) (Or.inl (wid_186.trans wid_173.symm))
theorem r186_20 : runs cal 186 20 [v0, v1, vI w, v3, v4] [vI x0] I = runs cal 186 21 [v0, v1, vI w, v3, v4] [vI w, vI x0] I := runs_to (ins_of mI_186 (by rfl)) rfl rfl
theorem r186_21 : runs cal 186 21 [v0, v1, v2, v3, v4] [vI x0, vI x1] I = if x1 = x0 then runs cal 186 24 [v0, v1, v2, v3, v4] [] I else runs cal 186 50 [v0, v1, v2, v3, v4] [] I := st_cmp_ne (ins_of mI_186 (by rfl)) (by decide)
theorem r186_24 : runs cal 186 24 [vR 70, v1, v2, v3, v4] [] I = runs cal 186 25 [vR 70, v1, v2, v3, v4] [vR 70] I := runs_to (ins_of mI_186 (by rfl)) rfl rfl
theorem r186_25 : runs cal 186 25 [v0, v1, v2, vI w, v4] [vR 70] I = runs cal 186 26 [v0, v1, v2, vI w, v4] [vI w, vR 70] I := runs_to (ins_of mI_186 (by rfl)) rfl rfl
theorem r186_26 : runs cal 186 26 [v0, v1, v2, v3, v4] [vI x0, vR 70] I = (cal 173 [vR 70, vI x0] I).bind (fun q => runs cal 186 29 [v0, v1, v2, v3, v4] (pushR q.1 []) q.2) := st_call (st := false) (ins_of mI_186 (by rfl)) mC_186 mr_11_148 (by decide) mS_173 mN_173 rfl (Nat.le_of_ble_eq_true rfl) rfl rfl (Or.inr ⟨_, _, rfl, rcv mC_173 rfl wid_186 (by decide +kernel)⟩) (Or.inl (wid_186.trans wid_173.symm))
theorem r186_29 : runs cal 186 29 [v0, v1, v2, v3, v4] [vI x0] I = runs cal 186 30 [v0, v1, v2, v3, v4] [vI (-1), vI x0] I := runs_to (ins_of mI_186 (by rfl)) rfl rfl
theorem r186_30 : runs cal 186 30 [v0, v1, v2, v3, v4] [vI x0, vI x1] I = if x1 = x0 then runs cal 186 33 [v0, v1, v2, v3, v4] [] I else runs cal 186 50 [v0, v1, v2, v3, v4] [] I := st_cmp_ne (ins_of mI_186 (by rfl)) (by decide)
theorem r186_33 : runs cal 186 33 [v0, v1, v2, v3, vI w] [] I = runs cal 186 35 [v0, v1, v2, v3, vI w] [vI w] I := runs_to (ins_of mI_186 (by rfl)) rfl rfl
theorem r186_35 : runs cal 186 35 [v0, v1, v2, v3, v4] [vI x0] I = runs cal 186 36 [v0, v1, v2, v3, v4] [vL x0] I := runs_to (ins_of mI_186 (by rfl)) rfl rfl
theorem r186_36 : runs cal 186 36 [v0, v1, v2, v3, v4] [vL x0] I = runs cal 186 39 [v0, v1, v2, v3, v4] [vL (-1), vL x0] I := runs_to (ins_of mI_186 (by rfl)) rfl (by simp only [stepI, ldk2, mC_186]; rfl)
theorem r186_39 : runs cal 186 39 [v0, v1, v2, v3, v4] [vL x0, vL x1] I = runs cal 186 40 [v0, v1, v2, v3, v4] [vL 1, vL x0, vL x1] I := runs_to (ins_of mI_186 (by rfl)) rfl rfl
theorem r186_40 : runs cal 186 40 [v0, v1, v2, v3, v4] [vL x0, vL x1, vL x2] I = (cal 142 [vL x2, vL x1, vL x0] I).bind (fun q => runs cal 186 43 [v0, v1, v2, v3, v4] (pushR q.1 []) q.2) := st_call (st := true) (ins_of mI_186 (by rfl)) mC_186 mr_11_121 (by decide) mS_142 mN_142 rfl (Nat.le_of_ble_eq_true rfl) rfl rfl (Or.inl rfl) (Or.inl (wid_186.trans wid_142.symm))
theorem r186_43 : runs cal 186 43 [v0, v1, v2, v3, v4] [vI x0] I = if x0 = 0 then runs cal 186 50 [v0, v1, v2, v3, v4] [] I else runs cal 186 46 [v0, v1, v2, v3, v4] [] I := st_if_eq (ins_of mI_186 (by rfl)) (by decide)
theorem r186_46 : runs cal 186 46 [v0, v1, v2, v3, v4] [] I = runs cal 186 47 [v0, v1, v2, v3, v4] [vI (1)] I := runs_to (ins_of mI_186 (by rfl)) rfl rfl
theorem r186_47 : runs cal 186 47 [v0, v1, v2, v3, v4] [vI x0] I = runs cal 186 51 [v0, v1, v2, v3, v4] [vI x0] I := st_goto (ins_of mI_186 (by rfl)) (by decide)
theorem r186_50 : runs cal 186 50 [v0, v1, v2, v3, v4] [] I = runs cal 186 51 [v0, v1, v2, v3, v4] [vI (0)] I := runs_to (ins_of mI_186 (by rfl)) rfl rfl
theorem r186_51 : runs cal 186 51 [v0, v1, v2, v3, v4] [vI x0] I = if x0 = 0 ∨ x0 = 1 then some (some (vI x0), I) else none := st_retZ (ins_of mI_186 (by rfl)) mR_186 (Or.inl rfl)
theorem r187_0 : runs cal 187 0 [vR 70, v1, v2] [] I = runs cal 187 1 [vR 70, v1, v2] [vR 70] I := runs_to (ins_of mI_187 (by rfl)) rfl rfl
theorem r187_1 : runs cal 187 1 [v0, v1, v2] [vR 70] I = runs cal 187 4 [v0, v1, v2] [vR 77] I := st_getR (ins_of mI_187 (by rfl)) mC_187 (by decide) fr_11_30 cT_70 (wdc wid_187 wd_70) rfl rfl
theorem r187_4 : runs cal 187 4 [vR 70, v1, v2] [vR 77] I = runs cal 187 5 [vR 70, v1, v2] [vR 70, vR 77] I := runs_to (ins_of mI_187 (by rfl)) rfl rfl
theorem r187_5 : runs cal 187 5 [v0, v1, v2] [vR 70, vR 77] I = runs cal 187 8 [v0, v1, v2] [vI (I 70 10), vR 77] I := st_getI (ins_of mI_187 (by rfl)) mC_187 (by decide) fr_11_166 cT_70 (wdc wid_187 wd_70) (Or.inl rfl)
theorem r187_8 : runs cal 187 8 [v0, v1, v2] [vI x0, vR 77] I = if 0 ≤ x0 ∧ x0 < 3 then runs cal 187 9 [v0, v1, v2] [vI (I 77 x0)] I else none := st_iald (ins_of mI_187 (by rfl)) cT_77 (wdc wid_187 wd_77)
theorem r187_9 : runs cal 187 9 [vR b0, v1, v2] [vI x0] I = runs cal 187 10 [vR b0, vI x0, v2] [] I := runs_to (ins_of mI_187 (by rfl)) rfl rfl
theorem r187_10 : runs cal 187 10 [vR 70, v1, v2] [] I = runs cal 187 11 [vR 70, v1, v2] [vR 70] I := runs_to (ins_of mI_187 (by rfl)) rfl rfl
theorem r187_11 : runs cal 187 11 [v0, v1, v2] [vR 70] I = runs cal 187 14 [v0, v1, v2] [vI (I 70 9)] I := st_getI (ins_of mI_187 (by rfl)) mC_187 (by decide) fr_11_172 cT_70 (wdc wid_187 wd_70) (Or.inl rfl)
theorem r187_14 : runs cal 187 14 [v0, v1, v2] [vI (0)] I = runs cal 187 44 [v0, v1, v2] [] I := st_sw (off := 30) (ins_of mI_187 (by rfl)) rfl rfl (by decide)
theorem r187_14a : runs cal 187 14 [v0, v1, v2] [vI (1)] I = runs cal 187 58 [v0, v1, v2] [] I := st_sw (off := 44) (ins_of mI_187 (by rfl)) rfl rfl (by decide)
theorem r187_14b : runs cal 187 14 [v0, v1, v2] [vI (2)] I = runs cal 187 75 [v0, v1, v2] [] I := st_sw (off := 61) (ins_of mI_187 (by rfl)) rfl rfl (by decide)
theorem r187_14c : runs cal 187 14 [v0, v1, v2] [vI (3)] I = runs cal 187 88 [v0, v1, v2] [] I := st_sw (off := 74) (ins_of mI_187 (by rfl)) rfl rfl (by decide)
theorem r187_14d (hd : x0 < 0 ∨ 3 < x0) : runs cal 187 14 [v0, v1, v2] [vI x0] I = runs cal 187 105 [v0, v1, v2] [] I := st_tswD (ins_of mI_187 (by rfl)) (by decide) hd (by decide)
theorem r187_44 : runs cal 187 44 [vR 70, v1, v2] [] I = runs cal 187 45 [vR 70, v1, v2] [vR 70] I := runs_to (ins_of mI_187 (by rfl)) rfl rfl
theorem r187_45 : runs cal 187 45 [v0, vI w, v2] [vR 70] I = runs cal 187 46 [v0, vI w, v2] [vI w, vR 70] I := runs_to (ins_of mI_187 (by rfl)) rfl rfl
theorem r187_46 : runs cal 187 46 [vR 70, v1, v2] [vI x0, vR 70] I = runs cal 187 47 [vR 70, v1, v2] [vR 70, vI x0, vR 70] I := runs_to (ins_of mI_187 (by rfl)) rfl rfl
theorem r187_47 : runs cal 187 47 [v0, v1, v2] [vR 70, vI x1, vR 70] I = runs cal 187 50 [v0, v1, v2] [vI (I 70 11), vI x1, vR 70] I := st_getI (ins_of mI_187 (by rfl)) mC_187 (by decide) fr_11_175 cT_70 (wdc wid_187 wd_70) (Or.inl rfl)
theorem r187_50 : runs cal 187 50 [v0, v1, v2] [vI x0, vI x1, vR 70] I = (cal 179 [vI x0] I).bind (fun q => runs cal 187 53 [v0, v1, v2] (pushR q.1 [vI x1, vR 70]) q.2) := st_call (st := true) (ins_of mI_187 (by rfl)) mC_187 mr_11_196 (by decide) mS_179 mN_179 rfl (Nat.le_of_ble_eq_true rfl) rfl rfl (Or.inl rfl) (Or.inl (wid_187.trans wid_179.symm))
theorem r187_53 : runs cal 187 53 [v0, v1, v2] [vI x0, vI x1, vR 70] I = runs cal 187 54 [v0, v1, v2] [vI (iadd x1 x0), vR 70] I := runs_to (ins_of mI_187 (by rfl)) rfl rfl
theorem r187_54 : runs cal 187 54 [v0, v1, v2] [vI x0, vR 70] I = (cal 172 [vR 70, vI x0] I).bind (fun q => runs cal 187 57 [v0, v1, v2] (pushR q.1 []) q.2) := st_call (st := false) (ins_of mI_187 (by rfl)) mC_187 mr_11_154 (by decide) mS_172 mN_172 rfl (Nat.le_of_ble_eq_true rfl) rfl rfl (Or.inr ⟨_, _, rfl, rcv mC_172 rfl wid_187 (by decide +kernel)⟩) (Or.inl (wid_187.trans wid_172.symm))
theorem r187_57 : runs cal 187 57 [v0, v1, v2] [vI x0] I = if x0 = 0 ∨ x0 = 1 then some (some (vI x0), I) else none := st_retZ (ins_of mI_187 (by rfl)) mR_187 (Or.inl rfl)
theorem r187_58 : runs cal 187 58 [vR 70, v1, v2] [] I = runs cal 187 59 [vR 70, v1, v2] [vR 70] I := runs_to (ins_of mI_187 (by rfl)) rfl rfl
theorem r187_59 : runs cal 187 59 [vR 70, v1, v2] [vR 70] I = runs cal 187 60 [vR 70, v1, v2] [vR 70, vR 70] I := runs_to (ins_of mI_187 (by rfl)) rfl rfl
theorem r187_60 : runs cal 187 60 [v0, v1, v2] [vR 70, vR 70] I = runs cal 187 63 [v0, v1, v2] [vI (I 70 10), vR 70] I := st_getI (ins_of mI_187 (by rfl)) mC_187 (by decide) fr_11_166 cT_70 (wdc wid_187 wd_70) (Or.inl rfl)
theorem r187_63 : runs cal 187 63 [vR 70, v1, v2] [vI x0, vR 70] I = runs cal 187 64 [vR 70, v1, v2] [vR 70, vI x0, vR 70] I := runs_to (ins_of mI_187 (by rfl)) rfl rfl
theorem r187_64 : runs cal 187 64 [v0, v1, v2] [vR 70, vI x1, vR 70] I = runs cal 187 67 [v0, v1, v2] [vI (I 70 11), vI x1, vR 70] I := st_getI (ins_of mI_187 (by rfl)) mC_187 (by decide) fr_11_175 cT_70 (wdc wid_187 wd_70) (Or.inl rfl)
theorem r187_67 : runs cal 187 67 [vR 70, v1, v2] [vI x0, vI x1, vR 70] I = runs cal 187 68 [vR 70, v1, v2] [vR 70, vI x0, vI x1, vR 70] I := runs_to (ins_of mI_187 (by rfl)) rfl rfl
theorem r187_68 : runs cal 187 68 [v0, v1, v2] [vR 70, vI x1, vI x2, vR 70] I = runs cal 187 71 [v0, v1, v2] [vI (I 70 12), vI x1, vI x2, vR 70] I := st_getI (ins_of mI_187 (by rfl)) mC_187 (by decide) fr_11_178 cT_70 (wdc wid_187 wd_70) (Or.inl rfl)
theorem r187_71 : runs cal 187 71 [v0, v1, v2] [vI x0, vI x1, vI x2, vR 70] I = (cal 185 [vR 70, vI x2, vI x1, vI x0] I).bind (fun q => runs cal 187 74 [v0, v1, v2] (pushR q.1 []) q.2) := st_call (st := false) (ins_of mI_187 (by rfl)) mC_187 mr_11_199 (by decide) mS_185 mN_185 rfl (Nat.le_of_ble_eq_true rfl) rfl rfl (Or.inr ⟨_, _, rfl, rcv mC_185 rfl wid_187 (by decide +kernel)⟩) (Or.inl (wid_187.trans wid_185.symm))
theorem r187_74 : runs cal 187 74 [v0, v1, v2] [vI x0] I = if x0 = 0 ∨ x0 = 1 then some (some (vI x0), I) else none := st_retZ (ins_of mI_187 (by rfl)) mR_187 (Or.inl rfl)
theorem r187_75 : runs cal 187 75 [vR 70, v1, v2] [] I = runs cal 187 76 [vR 70, v1, v2] [vR 70] I := runs_to (ins_of mI_187 (by rfl)) rfl rfl
theorem r187_76 : runs cal 187 76 [vR 70, v1, v2] [vR 70] I = runs cal 187 77 [vR 70, v1, v2] [vR 70, vR 70] I := runs_to (ins_of mI_187 (by rfl)) rfl rfl
theorem r187_77 : runs cal 187 77 [v0, v1, v2] [vR 70, vR 70] I = runs cal 187 80 [v0, v1, v2] [vI (I 70 10), vR 70] I := st_getI (ins_of mI_187 (by rfl)) mC_187 (by decide) fr_11_166 cT_70 (wdc wid_187 wd_70) (Or.inl rfl)
theorem r187_80 : runs cal 187 80 [vR 70, v1, v2] [vI x0, vR 70] I = runs cal 187 81 [vR 70, v1, v2] [vR 70, vI x0, vR 70] I := runs_to (ins_of mI_187 (by rfl)) rfl rfl
theorem r187_81 : runs cal 187 81 [v0, v1, v2] [vR 70, vI x1, vR 70] I = runs cal 187 84 [v0, v1, v2] [vI (I 70 11), vI x1, vR 70] I := st_getI (ins_of mI_187 (by rfl)) mC_187 (by decide) fr_11_175 cT_70 (wdc wid_187 wd_70) (Or.inl rfl)
theorem r187_84 : runs cal 187 84 [v0, v1, v2] [vI x0, vI x1, vR 70] I = (cal 183 [vR 70, vI x1, vI x0] I).bind (fun q => runs cal 187 87 [v0, v1, v2] (pushR q.1 []) q.2) := st_call (st := false) (ins_of mI_187 (by rfl)) mC_187 mr_11_203 (by decide) mS_183 mN_183 rfl (Nat.le_of_ble_eq_true rfl) rfl rfl (Or.inr ⟨_, _, rfl, rcv mC_183 rfl wid_187 (by decide +kernel)⟩) (Or.inl (wid_187.trans wid_183.symm))
theorem r187_87 : runs cal 187 87 [v0, v1, v2] [vI x0] I = if x0 = 0 ∨ x0 = 1 then some (some (vI x0), I) else none := st_retZ (ins_of mI_187 (by rfl)) mR_187 (Or.inl rfl)
theorem r187_88 : runs cal 187 88 [vR 70, v1, v2] [] I = runs cal 187 89 [vR 70, v1, v2] [vR 70] I := runs_to (ins_of mI_187 (by rfl)) rfl rfl
theorem r187_89 : runs cal 187 89 [vR 70, v1, v2] [vR 70] I = runs cal 187 90 [vR 70, v1, v2] [vR 70, vR 70] I := runs_to (ins_of mI_187 (by rfl)) rfl rfl
theorem r187_90 : runs cal 187 90 [v0, v1, v2] [vR 70, vR 70] I = runs cal 187 93 [v0, v1, v2] [vI (I 70 10), vR 70] I := st_getI (ins_of mI_187 (by rfl)) mC_187 (by decide) fr_11_166 cT_70 (wdc wid_187 wd_70) (Or.inl rfl)
theorem r187_93 : runs cal 187 93 [vR 70, v1, v2] [vI x0, vR 70] I = runs cal 187 94 [vR 70, v1, v2] [vR 70, vI x0, vR 70] I := runs_to (ins_of mI_187 (by rfl)) rfl rfl
theorem r187_94 : runs cal 187 94 [v0, v1, v2] [vR 70, vI x1, vR 70] I = runs cal 187 97 [v0, v1, v2] [vI (I 70 11), vI x1, vR 70] I := st_getI (ins_of mI_187 (by rfl)) mC_187 (by decide) fr_11_175 cT_70 (wdc wid_187 wd_70) (Or.inl rfl)
theorem r187_97 : runs cal 187 97 [vR 70, v1, v2] [vI x0, vI x1, vR 70] I = runs cal 187 98 [vR 70, v1, v2] [vR 70, vI x0, vI x1, vR 70] I := runs_to (ins_of mI_187 (by rfl)) rfl rfl
theorem r187_98 : runs cal 187 98 [v0, v1, v2] [vR 70, vI x1, vI x2, vR 70] I = runs cal 187 101 [v0, v1, v2] [vI (I 70 12), vI x1, vI x2, vR 70] I := st_getI (ins_of mI_187 (by rfl)) mC_187 (by decide) fr_11_178 cT_70 (wdc wid_187 wd_70) (Or.inl rfl)
theorem r187_101 : runs cal 187 101 [v0, v1, v2] [vI x0, vI x1, vI x2, vR 70] I = (cal 186 [vR 70, vI x2, vI x1, vI x0] I).bind (fun q => runs cal 187 104 [v0, v1, v2] (pushR q.1 []) q.2) := st_call (st := false) (ins_of mI_187 (by rfl)) mC_187 mr_11_206 (by decide) mS_186 mN_186 rfl (Nat.le_of_ble_eq_true rfl) rfl rfl (Or.inr ⟨_, _, rfl, rcv mC_186 rfl wid_187 (by decide +kernel)⟩) (Or.inl (wid_187.trans wid_186.symm))
theorem r187_104 : runs cal 187 104 [v0, v1, v2] [vI x0] I = if x0 = 0 ∨ x0 = 1 then some (some (vI x0), I) else none := st_retZ (ins_of mI_187 (by rfl)) mR_187 (Or.inl rfl)
theorem r187_105 : runs cal 187 105 [v0, vI w, v2] [] I = runs cal 187 106 [v0, vI w, v2] [vI w] I := runs_to (ins_of mI_187 (by rfl)) rfl rfl
theorem r187_106 : runs cal 187 106 [vR 70, v1, v2] [vI x0] I = runs cal 187 107 [vR 70, v1, v2] [vR 70, vI x0] I := runs_to (ins_of mI_187 (by rfl)) rfl rfl
theorem r187_107 : runs cal 187 107 [v0, v1, v2] [vR 70, vI x1] I = runs cal 187 110 [v0, v1, v2] [vI (I 70 11), vI x1] I := st_getI (ins_of mI_187 (by rfl)) mC_187 (by decide) fr_11_175 cT_70 (wdc wid_187 wd_70) (Or.inl rfl)
theorem r187_110 : runs cal 187 110 [v0, v1, v2] [vI x0, vI x1] I = (cal 179 [vI x0] I).bind (fun q => runs cal 187 113 [v0, v1, v2] (pushR q.1 [vI x1]) q.2) := st_call (st := true) (ins_of mI_187 (by rfl)) mC_187 mr_11_196 (by decide) mS_179 mN_179 rfl (Nat.le_of_ble_eq_true rfl) rfl rfl (Or.inl rfl) (Or.inl (wid_187.trans wid_179.symm))
theorem r187_113 : runs cal 187 113 [v0, v1, v2] [vI x0, vI x1] I = runs cal 187 114 [v0, v1, v2] [vI (iadd x1 x0)] I := runs_to (ins_of mI_187 (by rfl)) rfl rfl
theorem r187_114 : runs cal 187 114 [v0, vI u, v2] [vI x0] I = runs cal 187 115 [v0, vI u, vI x0] [] I := runs_to (ins_of mI_187 (by rfl)) rfl rfl
theorem r187_115 : runs cal 187 115 [v0, v1, vI w] [] I = runs cal 187 116 [v0, v1, vI w] [vI w] I := runs_to (ins_of mI_187 (by rfl)) rfl rfl
theorem r187_116 : runs cal 187 116 [v0, v1, v2] [vI x0] I = runs cal 187 117 [v0, v1, v2] [vL x0] I := runs_to (ins_of mI_187 (by rfl)) rfl rfl
theorem r187_117 : runs cal 187 117 [v0, v1, v2] [vL x0] I = runs cal 187 118 [v0, v1, v2] [vL 0, vL x0] I := runs_to (ins_of mI_187 (by rfl)) rfl rfl
theorem r187_118 : runs cal 187 118 [vR 70, v1, v2] [vL x0, vL x1] I = runs cal 187 119 [vR 70, v1, v2] [vR 70, vL x0, vL x1] I := runs_to (ins_of mI_187 (by rfl)) rfl rfl
theorem r187_119 : runs cal 187 119 [v0, v1, v2] [vR 70, vL x1, vL x2] I = (cal 163 [vR 70] I).bind (fun q => runs cal 187 122 [v0, v1, v2] (pushR q.1 [vL x1, vL x2]) q.2) := st_call (st := false) (ins_of mI_187 (by rfl)) mC_187 mr_11_142 (by decide) mS_163 mN_163 rfl (Nat.le_of_ble_eq_true rfl) rfl rfl (Or.inr ⟨_, _, rfl, rcv mC_163 rfl wid_187 (by decide +kernel)⟩) (Or.inl (wid_187.trans wid_163.symm))
theorem r187_122 : runs cal 187 122 [v0, v1, v2] [vI x0, vL x1, vL x2] I = runs cal 187 123 [v0, v1, v2] [vL x0, vL x1, vL x2] I := runs_to (ins_of mI_187 (by rfl)) rfl rfl
theorem r187_123 : runs cal 187 123 [v0, v1, v2] [vL x0, vL x1, vL x2] I = (cal 142 [vL x2, vL x1, vL x0] I).bind (fun q => runs cal 187 126 [v0, v1, v2] (pushR q.1 []) q.2) := st_call (st := true) (ins_of mI_187 (by rfl)) mC_187 mr_11_121 (by decide) mS_142 mN_142 rfl (Nat.le_of_ble_eq_true rfl) rfl rfl (Or.inl rfl) (Or.inl (wid_187.trans wid_142.symm))
theorem r187_126 : runs cal 187 126 [v0, v1, v2] [vI x0] I = if x0 = 0 then runs cal 187 157 [v0, v1, v2] [] I else runs cal 187 129 [v0, v1, v2] [] I := st_if_eq (ins_of mI_187 (by rfl)) (by decide)
theorem r187_129 : runs cal 187 129 [vR 70, v1, v2] [] I = runs cal 187 130 [vR 70, v1, v2] [vR 70] I := runs_to (ins_of mI_187 (by rfl)) rfl rfl
theorem r187_130 : runs cal 187 130 [v0, v1, vI w] [vR 70] I = runs cal 187 131 [v0, v1, vI w] [vI w, vR 70] I := runs_to (ins_of mI_187 (by rfl)) rfl rfl
theorem r187_131 : runs cal 187 131 [v0, v1, v2] [vI x0, vR 70] I = (cal 172 [vR 70, vI x0] I).bind (fun q => runs cal 187 134 [v0, v1, v2] (pushR q.1 []) q.2) := st_call (st := false) (ins_of mI_187 (by rfl)) mC_187 mr_11_154 (by decide) mS_172 mN_172 rfl (Nat.le_of_ble_eq_true rfl) rfl rfl (Or.inr ⟨_, _, rfl, rcv mC_172 rfl wid_187 (by decide +kernel)⟩) (Or.inl (wid_187.trans wid_172.symm))
theorem r187_134 : runs cal 187 134 [v0, v1, v2] [vI x0] I = if x0 = 0 then runs cal 187 137 [v0, v1, v2] [] I else runs cal 187 157 [v0, v1, v2] [] I := st_if_ne (ins_of mI_187 (by rfl)) (by decide)
theorem r187_137 : runs cal 187 137 [vR 70, v1, v2] [] I = runs cal 187 138 [vR 70, v1, v2] [vR 70] I := runs_to (ins_of mI_187 (by rfl)) rfl rfl
theorem r187_138 : runs cal 187 138 [v0, v1, vI w] [vR 70] I = runs cal 187 139 [v0, v1, vI w] [vI w, vR 70] I := runs_to (ins_of mI_187 (by rfl)) rfl rfl
theorem r187_139 : runs cal 187 139 [vR 70, v1, v2] [vI x0, vR 70] I = runs cal 187 140 [vR 70, v1, v2] [vR 70, vI x0, vR 70] I := runs_to (ins_of mI_187 (by rfl)) rfl rfl
theorem r187_140 : runs cal 187 140 [v0, v1, v2] [vR 70, vI x1, vR 70] I = runs cal 187 143 [v0, v1, v2] [vI (I 70 11), vI x1, vR 70] I := st_getI (ins_of mI_187 (by rfl)) mC_187 (by decide) fr_11_175 cT_70 (wdc wid_187 wd_70) (Or.inl rfl)
theorem r187_143 : runs cal 187 143 [v0, v1, v2] [vI x0, vI x1, vR 70] I = (cal 179 [vI x0] I).bind (fun q => runs cal 187 146 [v0, v1, v2] (pushR q.1 [vI x1, vR 70]) q.2) := st_call (st := true) (ins_of mI_187 (by rfl)) mC_187 mr_11_196 (by decide) mS_179 mN_179 rfl (Nat.le_of_ble_eq_true rfl) rfl rfl (Or.inl rfl) (Or.inl (wid_187.trans wid_179.symm))
theorem r187_146 : runs cal 187 146 [v0, v1, v2] [vI x0, vI x1, vR 70] I = runs cal 187 147 [v0, v1, v2] [vI (iadd x1 x0), vR 70] I := runs_to (ins_of mI_187 (by rfl)) rfl rfl
theorem r187_147 : runs cal 187 147 [v0, v1, v2] [vI x0, vR 70] I = (cal 172 [vR 70, vI x0] I).bind (fun q => runs cal 187 150 [v0, v1, v2] (pushR q.1 []) q.2) := st_call (st := false) (ins_of mI_187 (by rfl)) mC_187 mr_11_154 (by decide) mS_172 mN_172 rfl (Nat.le_of_ble_eq_true rfl) rfl rfl (Or.inr ⟨_, _, rfl, rcv mC_172 rfl wid_187 (by decide +kernel)⟩) (Or.inl (wid_187.trans wid_172.symm))
theorem r187_150 : runs cal 187 150 [v0, v1, v2] [vI x0] I = if x0 = 0 then runs cal 187 157 [v0, v1, v2] [] I else runs cal 187 153 [v0, v1, v2] [] I := st_if_eq (ins_of mI_187 (by rfl)) (by decide)
theorem r187_153 : runs cal 187 153 [v0, v1, v2] [] I = runs cal 187 154 [v0, v1, v2] [vI (1)] I := runs_to (ins_of mI_187 (by rfl)) rfl rfl
theorem r187_154 : runs cal 187 154 [v0, v1, v2] [vI x0] I = runs cal 187 158 [v0, v1, v2] [vI x0] I := st_goto (ins_of mI_187 (by rfl)) (by decide)
theorem r187_157 : runs cal 187 157 [v0, v1, v2] [] I = runs cal 187 158 [v0, v1, v2] [vI (0)] I := runs_to (ins_of mI_187 (by rfl)) rfl rfl
theorem r187_158 : runs cal 187 158 [v0, v1, v2] [vI x0] I = if x0 = 0 ∨ x0 = 1 then some (some (vI x0), I) else none := st_retZ (ins_of mI_187 (by rfl)) mR_187 (Or.inl rfl)
theorem r188_0 : runs cal 188 0 [vR 70] [] I = runs cal 188 1 [vR 70] [vR 70] I := runs_to (ins_of mI_188 (by rfl)) rfl rfl
theorem r188_1 : runs cal 188 1 [v0] [vR 70] I = runs cal 188 4 [v0] [vI (I 70 9)] I := st_getI (ins_of mI_188 (by rfl)) mC_188 (by decide) fr_11_172 cT_70 (wdc wid_188 wd_70) (Or.inl rfl)
theorem r188_4 : runs cal 188 4 [v0] [vI x0] I = if x0 = 0 then runs cal 188 7 [v0] [] I else runs cal 188 29 [v0] [] I := st_if_ne (ins_of mI_188 (by rfl)) (by decide)
theorem r188_7 : runs cal 188 7 [vR 70] [] I = runs cal 188 8 [vR 70] [vR 70] I := runs_to (ins_of mI_188 (by rfl)) rfl rfl
theorem r188_8 : runs cal 188 8 [v0] [vR 70] I = runs cal 188 11 [v0] [vR 77] I := st_getR (ins_of mI_188 (by rfl)) mC_188 (by decide) fr_11_30 cT_70 (wdc wid_188 wd_70) rfl rfl
theorem r188_11 : runs cal 188 11 [vR 70] [vR 77] I = runs cal 188 12 [vR 70] [vR 70, vR 77] I := runs_to (ins_of mI_188 (by rfl)) rfl rfl
theorem r188_12 : runs cal 188 12 [v0] [vR 70, vR 77] I = runs cal 188 15 [v0] [vI (I 70 10), vR 77] I := st_getI (ins_of mI_188 (by rfl)) mC_188 (by decide) fr_11_166 cT_70 (wdc wid_188 wd_70) (Or.inl rfl)
theorem r188_15 : runs cal 188 15 [v0] [vI x0, vR 77] I = runs cal 188 16 [v0] [vI x0, vR 77, vI x0, vR 77] I := runs_to (ins_of mI_188 (by rfl)) rfl rfl
theorem r188_16 : runs cal 188 16 [v0] [vI x0, vR 77, vI x2, vR 77] I = if 0 ≤ x0 ∧ x0 < 3 then runs cal 188 17 [v0] [vI (I 77 x0), vI x2, vR 77] I else none := st_iald (ins_of mI_188 (by rfl)) cT_77 (wdc wid_188 wd_77)
theorem r188_17 : runs cal 188 17 [vR 70] [vI x0, vI x1, vR 77] I = runs cal 188 18 [vR 70] [vR 70, vI x0, vI x1, vR 77] I := runs_to (ins_of mI_188 (by rfl)) rfl rfl
theorem r188_18 : runs cal 188 18 [v0] [vR 70, vI x1, vI x2, vR 77] I = runs cal 188 21 [v0] [vI (I 70 11), vI x1, vI x2, vR 77] I := st_getI (ins_of mI_188 (by rfl)) mC_188 (by decide) fr_11_175 cT_70 (wdc wid_188 wd_70) (Or.inl rfl)
theorem r188_21 : runs cal 188 21 [v0] [vI x0, vI x1, vI x2, vR 77] I = (cal 179 [vI x0] I).bind (fun q => runs cal 188 24 [v0] (pushR q.1 [vI x1, vI x2, vR 77]) q.2) := st_call (st := true) (ins_of mI_188 (by rfl)) mC_188 mr_11_196 (by decide) mS_179 mN_179 rfl (Nat.le_of_ble_eq_true rfl) rfl rfl (Or.inl rfl) (Or.inl (wid_188.trans wid_179.symm))
theorem r188_24 : runs cal 188 24 [v0] [vI x0, vI x1, vI x2, vR 77] I = runs cal 188 25 [v0] [vI (iadd x1 x0), vI x2, vR 77] I := runs_to (ins_of mI_188 (by rfl)) rfl rfl
theorem r188_25 : runs cal 188 25 [v0] [vI x0, vI x1, vR 77] I = if 0 ≤ x1 ∧ x1 < 3 then runs cal 188 26 [v0] [] (mset I 77 x1 x0) else none := st_iast (ins_of mI_188 (by rfl)) cT_77 (wdc wid_188 wd_77)
theorem r188_26 : runs cal 188 26 [v0] [] I = runs cal 188 128 [v0] [] I := st_goto (ins_of mI_188 (by rfl)) (by decide)
theorem r188_29 : runs cal 188 29 [vR 70] [] I = runs cal 188 30 [vR 70] [vR 70] I := runs_to (ins_of mI_188 (by rfl)) rfl rfl
theorem r188_30 : runs cal 188 30 [v0] [vR 70] I = runs cal 188 33 [v0] [vI (I 70 9)] I := st_getI (ins_of mI_188 (by rfl)) mC_188 (by decide) fr_11_172 cT_70 (wdc wid_188 wd_70) (Or.inl rfl)
theorem r188_33 : runs cal 188 33 [v0] [vI x0] I = runs cal 188 34 [v0] [vI (4), vI x0] I := runs_to (ins_of mI_188 (by rfl)) rfl rfl
theorem r188_34 : runs cal 188 34 [v0] [vI x0, vI x1] I = if x1 = x0 then runs cal 188 37 [v0] [] I else runs cal 188 61 [v0] [] I := st_cmp_ne (ins_of mI_188 (by rfl)) (by decide)
theorem r188_37 : runs cal 188 37 [vR 70] [] I = runs cal 188 38 [vR 70] [vR 70] I := runs_to (ins_of mI_188 (by rfl)) rfl rfl
theorem r188_38 : runs cal 188 38 [v0] [vR 70] I = runs cal 188 41 [v0] [vR 77] I := st_getR (ins_of mI_188 (by rfl)) mC_188 (by decide) fr_11_30 cT_70 (wdc wid_188 wd_70) rfl rfl
theorem r188_41 : runs cal 188 41 [vR 70] [vR 77] I = runs cal 188 42 [vR 70] [vR 70, vR 77] I := runs_to (ins_of mI_188 (by rfl)) rfl rfl
theorem r188_42 : runs cal 188 42 [v0] [vR 70, vR 77] I = runs cal 188 45 [v0] [vI (I 70 10), vR 77] I := st_getI (ins_of mI_188 (by rfl)) mC_188 (by decide) fr_11_166 cT_70 (wdc wid_188 wd_70) (Or.inl rfl)
theorem r188_45 : runs cal 188 45 [v0] [vI x0, vR 77] I = runs cal 188 46 [v0] [vI x0, vR 77, vI x0, vR 77] I := runs_to (ins_of mI_188 (by rfl)) rfl rfl
theorem r188_46 : runs cal 188 46 [v0] [vI x0, vR 77, vI x2, vR 77] I = if 0 ≤ x0 ∧ x0 < 3 then runs cal 188 47 [v0] [vI (I 77 x0), vI x2, vR 77] I else none := st_iald (ins_of mI_188 (by rfl)) cT_77 (wdc wid_188 wd_77)
theorem r188_47 : runs cal 188 47 [v0] [vI x0, vI x1, vR 77] I = runs cal 188 48 [v0] [vI (2), vI x0, vI x1, vR 77] I := runs_to (ins_of mI_188 (by rfl)) rfl rfl
theorem r188_48 : runs cal 188 48 [vR 70] [vI x0, vI x1, vI x2, vR 77] I = runs cal 188 49 [vR 70] [vR 70, vI x0, vI x1, vI x2, vR 77] I := runs_to (ins_of mI_188 (by rfl)) rfl rfl
theorem r188_49 : runs cal 188 49 [v0] [vR 70, vI x1, vI x2, vI x3, vR 77] I = runs cal 188 52 [v0] [vI (I 70 11), vI x1, vI x2, vI x3, vR 77] I := st_getI (ins_of mI_188 (by rfl)) mC_188 (by decide) fr_11_175 cT_70 (wdc wid_188 wd_70) (Or.inl rfl)
theorem r188_52 : runs cal 188 52 [v0] [vI x0, vI x1, vI x2, vI x3, vR 77] I = (cal 179 [vI x0] I).bind (fun q => runs cal 188 55 [v0] (pushR q.1 [vI x1, vI x2, vI x3, vR 77]) q.2) := st_call (st := true) (ins_of mI_188 (by rfl)) mC_188 mr_11_196 (by decide) mS_179 mN_179 rfl (Nat.le_of_ble_eq_true rfl) rfl rfl (Or.inl rfl) (Or.inl (wid_188.trans wid_179.symm))
theorem r188_55 : runs cal 188 55 [v0] [vI x0, vI x1, vI x2, vI x3, vR 77] I = runs cal 188 56 [v0] [vI (imul x1 x0), vI x2, vI x3, vR 77] I := runs_to (ins_of mI_188 (by rfl)) rfl rfl
theorem r188_56 : runs cal 188 56 [v0] [vI x0, vI x1, vI x2, vR 77] I = runs cal 188 57 [v0] [vI (iadd x1 x0), vI x2, vR 77] I := runs_to (ins_of mI_188 (by rfl)) rfl rfl
theorem r188_57 : runs cal 188 57 [v0] [vI x0, vI x1, vR 77] I = if 0 ≤ x1 ∧ x1 < 3 then runs cal 188 58 [v0] [] (mset I 77 x1 x0) else none := st_iast (ins_of mI_188 (by rfl)) cT_77 (wdc wid_188 wd_77)
theorem r188_58 : runs cal 188 58 [v0] [] I = runs cal 188 128 [v0] [] I := st_goto (ins_of mI_188 (by rfl)) (by decide)
theorem r188_61 : runs cal 188 61 [vR 70] [] I = runs cal 188 62 [vR 70] [vR 70] I := runs_to (ins_of mI_188 (by rfl)) rfl rfl
theorem r188_62 : runs cal 188 62 [v0] [vR 70] I = runs cal 188 65 [v0] [vI (I 70 9)] I := st_getI (ins_of mI_188 (by rfl)) mC_188 (by decide) fr_11_172 cT_70 (wdc wid_188 wd_70) (Or.inl rfl)
theorem r188_65 : runs cal 188 65 [v0] [vI x0] I = runs cal 188 66 [v0] [vI (1), vI x0] I := runs_to (ins_of mI_188 (by rfl)) rfl rfl
theorem r188_66 : runs cal 188 66 [v0] [vI x0, vI x1] I = if x1 = x0 then runs cal 188 69 [v0] [] I else runs cal 188 97 [v0] [] I := st_cmp_ne (ins_of mI_188 (by rfl)) (by decide)
theorem r188_69 : runs cal 188 69 [vR 70] [] I = runs cal 188 70 [vR 70] [vR 70] I := runs_to (ins_of mI_188 (by rfl)) rfl rfl
theorem r188_70 : runs cal 188 70 [v0] [vR 70] I = runs cal 188 73 [v0] [vR 78] I := st_getR (ins_of mI_188 (by rfl)) mC_188 (by decide) fr_11_33 cT_70 (wdc wid_188 wd_70) rfl rfl
theorem r188_73 : runs cal 188 73 [vR 70] [vR 78] I = runs cal 188 74 [vR 70] [vR 70, vR 78] I := runs_to (ins_of mI_188 (by rfl)) rfl rfl
theorem r188_74 : runs cal 188 74 [v0] [vR 70, vR 78] I = runs cal 188 77 [v0] [vI (I 70 11), vR 78] I := st_getI (ins_of mI_188 (by rfl)) mC_188 (by decide) fr_11_175 cT_70 (wdc wid_188 wd_70) (Or.inl rfl)
theorem r188_77 : runs cal 188 77 [vR 70] [vI x0, vR 78] I = runs cal 188 78 [vR 70] [vR 70, vI x0, vR 78] I := runs_to (ins_of mI_188 (by rfl)) rfl rfl
theorem r188_78 : runs cal 188 78 [vR 70] [vR 70, vI x1, vR 78] I = runs cal 188 79 [vR 70] [vR 70, vR 70, vI x1, vR 78] I := runs_to (ins_of mI_188 (by rfl)) rfl rfl
theorem r188_79 : runs cal 188 79 [v0] [vR 70, vR 70, vI x2, vR 78] I = runs cal 188 82 [v0] [vI (I 70 10), vR 70, vI x2, vR 78] I := st_getI (ins_of mI_188 (by rfl)) mC_188 (by decide) fr_11_166 cT_70 (wdc wid_188 wd_70) (Or.inl rfl)
theorem r188_82 : runs cal 188 82 [vR 70] [vI x0, vR 70, vI x2, vR 78] I = runs cal 188 83 [vR 70] [vR 70, vI x0, vR 70, vI x2, vR 78] I := runs_to (ins_of mI_188 (by rfl)) rfl rfl
theorem r188_83 : runs cal 188 83 [v0] [vR 70, vI x1, vR 70, vI x3, vR 78] I = runs cal 188 86 [v0] [vI (I 70 11), vI x1, vR 70, vI x3, vR 78] I := st_getI (ins_of mI_188 (by rfl)) mC_188 (by decide) fr_11_175 cT_70 (wdc wid_188 wd_70) (Or.inl rfl)
theorem r188_86 : runs cal 188 86 [vR 70] [vI x0, vI x1, vR 70, vI x3, vR 78] I = runs cal 188 87 [vR 70] [vR 70, vI x0, vI x1, vR 70, vI x3, vR 78] I := runs_to (ins_of mI_188 (by rfl)) rfl rfl
theorem r188_87 : runs cal 188 87 [v0] [vR 70, vI x1, vI x2, vR 70, vI x4, vR 78] I = runs cal 188 90 [v0] [vI (I 70 12), vI x1, vI x2, vR 70, vI x4, vR 78] I := st_getI (ins_of mI_188 (by rfl)) mC_188 (by decide) fr_11_178 cT_70 (wdc wid_188 wd_70) (Or.inl rfl)
theorem r188_90 : runs cal 188 90 [v0] [vI x0, vI x1, vI x2, vR 70, vI x4, vR 78] I = (cal 184 [vR 70, vI x2, vI x1, vI x0] I).bind (fun q => runs cal 188 93 [v0] (pushR q.1 [vI x4, vR 78]) q.2) := st_call (st := false) (ins_of mI_188 (by rfl)) mC_188 mr_11_190 (by decide) mS_184 mN_184 rfl (Nat.le_of_ble_eq_true rfl) rfl rfl (Or.inr ⟨_, _, rfl, rcv mC_184 rfl wid_188 (by decide +kernel)⟩) (Or.inl (wid_188.trans wid_184.symm))
theorem r188_93 : runs cal 188 93 [v0] [vI x0, vI x1, vR 78] I = if 0 ≤ x1 ∧ x1 < 2 then runs cal 188 94 [v0] [] (mset I 78 x1 x0) else none := st_iast (ins_of mI_188 (by rfl)) cT_78 (wdc wid_188 wd_78)
theorem r188_94 : runs cal 188 94 [v0] [] I = runs cal 188 128 [v0] [] I := st_goto (ins_of mI_188 (by rfl)) (by decide)
theorem r188_97 : runs cal 188 97 [vR 70] [] I = runs cal 188 98 [vR 70] [vR 70] I := runs_to (ins_of mI_188 (by rfl)) rfl rfl
theorem r188_98 : runs cal 188 98 [v0] [vR 70] I = runs cal 188 101 [v0] [vR 78] I := st_getR (ins_of mI_188 (by rfl)) mC_188 (by decide) fr_11_33 cT_70 (wdc wid_188 wd_70) rfl rfl
theorem r188_101 : runs cal 188 101 [vR 70] [vR 78] I = runs cal 188 102 [vR 70] [vR 70, vR 78] I := runs_to (ins_of mI_188 (by rfl)) rfl rfl
theorem r188_102 : runs cal 188 102 [v0] [vR 70, vR 78] I = runs cal 188 105 [v0] [vI (I 70 11), vR 78] I := st_getI (ins_of mI_188 (by rfl)) mC_188 (by decide) fr_11_175 cT_70 (wdc wid_188 wd_70) (Or.inl rfl)
theorem r188_105 : runs cal 188 105 [v0] [vI x0, vR 78] I = runs cal 188 107 [v0] [vI (8), vI x0, vR 78] I := runs_to (ins_of mI_188 (by rfl)) rfl rfl
theorem r188_107 : runs cal 188 107 [vR 70] [vI x0, vI x1, vR 78] I = runs cal 188 108 [vR 70] [vR 70, vI x0, vI x1, vR 78] I := runs_to (ins_of mI_188 (by rfl)) rfl rfl
theorem r188_108 : runs cal 188 108 [v0] [vR 70, vI x1, vI x2, vR 78] I = runs cal 188 111 [v0] [vI (I 70 9), vI x1, vI x2, vR 78] I := st_getI (ins_of mI_188 (by rfl)) mC_188 (by decide) fr_11_172 cT_70 (wdc wid_188 wd_70) (Or.inl rfl)
theorem r188_111 : runs cal 188 111 [v0] [vI x0, vI x1, vI x2, vR 78] I = runs cal 188 112 [v0] [vI (2), vI x0, vI x1, vI x2, vR 78] I := runs_to (ins_of mI_188 (by rfl)) rfl rfl
theorem r188_112 : runs cal 188 112 [v0] [vI x0, vI x1, vI x2, vI x3, vR 78] I = if x1 = x0 then runs cal 188 115 [v0] [vI x2, vI x3, vR 78] I else runs cal 188 122 [v0] [vI x2, vI x3, vR 78] I := st_cmp_ne (ins_of mI_188 (by rfl)) (by decide)
theorem r188_115 : runs cal 188 115 [vR 70] [vI x0, vI x1, vR 78] I = runs cal 188 116 [vR 70] [vR 70, vI x0, vI x1, vR 78] I := runs_to (ins_of mI_188 (by rfl)) rfl rfl
theorem r188_116 : runs cal 188 116 [v0] [vR 70, vI x1, vI x2, vR 78] I = runs cal 188 119 [v0] [vI (I 70 10), vI x1, vI x2, vR 78] I := st_getI (ins_of mI_188 (by rfl)) mC_188 (by decide) fr_11_166 cT_70 (wdc wid_188 wd_70) (Or.inl rfl)
theorem r188_119 : runs cal 188 119 [v0] [vI x0, vI x1, vI x2, vR 78] I = runs cal 188 126 [v0] [vI x0, vI x1, vI x2, vR 78] I := st_goto (ins_of mI_188 (by rfl)) (by decide)
theorem r188_122 : runs cal 188 122 [vR 70] [vI x0, vI x1, vR 78] I = runs cal 188 123 [vR 70] [vR 70, vI x0, vI x1, vR 78] I := runs_to (ins_of mI_188 (by rfl)) rfl rfl
theorem r188_123 : runs cal 188 123 [v0] [vR 70, vI x1, vI x2, vR 78] I = runs cal 188 126 [v0] [vI (I 70 12), vI x1, vI x2, vR 78] I := st_getI (ins_of mI_188 (by rfl)) mC_188 (by decide) fr_11_178 cT_70 (wdc wid_188 wd_70) (Or.inl rfl)
theorem r188_126 : runs cal 188 126 [v0] [vI x0, vI x1, vI x2, vR 78] I = runs cal 188 127 [v0] [vI (iadd x1 x0), vI x2, vR 78] I := runs_to (ins_of mI_188 (by rfl)) rfl rfl
theorem r188_127 : runs cal 188 127 [v0] [vI x0, vI x1, vR 78] I = if 0 ≤ x1 ∧ x1 < 2 then runs cal 188 128 [v0] [] (mset I 78 x1 x0) else none := st_iast (ins_of mI_188 (by rfl)) cT_78 (wdc wid_188 wd_78)
theorem r188_128 : runs cal 188 128 [v0] [] I = some (none, I) := st_ret (q := none) (k := 3) (ins_of mI_188 (by rfl)) rfl (by decide) mR_188 rfl trivial
theorem r189_0 : runs cal 189 0 [vR 70, v1] [] I = runs cal 189 1 [vR 70, v1] [vR 70] I := runs_to (ins_of mI_189 (by rfl)) rfl rfl
theorem r189_1 : runs cal 189 1 [v0, vI w] [vR 70] I = runs cal 189 2 [v0, vI w] [vI w, vR 70] I := runs_to (ins_of mI_189 (by rfl)) rfl rfl
theorem r189_2 : runs cal 189 2 [v0, v1] [vI x0, vR 70] I = runs cal 189 5 [v0, v1] [vI (256), vI x0, vR 70] I := runs_to (ins_of mI_189 (by rfl)) rfl rfl
theorem r189_5 : runs cal 189 5 [v0, v1] [vI x0, vI x1, vR 70] I = if x0 = 0 then none else runs cal 189 6 [v0, v1] [vI (idiv x1 x0), vR 70] I := st_nz (ins_of mI_189 (by rfl)) rfl rfl
theorem r189_6 : runs cal 189 6 [v0, v1] [vI x0, vR 70] I = runs cal 189 9 [v0, v1] [] (mset I 70 9 x0) := st_putI (ins_of mI_189 (by rfl)) mC_189 fr_11_172 cT_70 (wdc wid_189 wd_70) rfl
theorem r189_9 : runs cal 189 9 [vR 70, v1] [] I = runs cal 189 10 [vR 70, v1] [vR 70] I := runs_to (ins_of mI_189 (by rfl)) rfl rfl
theorem r189_10 : runs cal 189 10 [v0, vI w] [vR 70] I = runs cal 189 11 [v0, vI w] [vI w, vR 70] I := runs_to (ins_of mI_189 (by rfl)) rfl rfl
theorem r189_11 : runs cal 189 11 [v0, v1] [vI x0, vR 70] I = runs cal 189 13 [v0, v1] [vI (64), vI x0, vR 70] I := runs_to (ins_of mI_189 (by rfl)) rfl rfl
theorem r189_13 : runs cal 189 13 [v0, v1] [vI x0, vI x1, vR 70] I = if x0 = 0 then none else runs cal 189 14 [v0, v1] [vI (idiv x1 x0), vR 70] I := st_nz (ins_of mI_189 (by rfl)) rfl rfl
theorem r189_14 : runs cal 189 14 [v0, v1] [vI x0, vR 70] I = runs cal 189 15 [v0, v1] [vI (4), vI x0, vR 70] I := runs_to (ins_of mI_189 (by rfl)) rfl rfl
theorem r189_15 : runs cal 189 15 [v0, v1] [vI x0, vI x1, vR 70] I = if x0 = 0 then none else runs cal 189 16 [v0, v1] [vI (irem x1 x0), vR 70] I := st_nz (ins_of mI_189 (by rfl)) rfl rfl
theorem r189_16 : runs cal 189 16 [v0, v1] [vI x0, vR 70] I = runs cal 189 19 [v0, v1] [] (mset I 70 10 x0) := st_putI (ins_of mI_189 (by rfl)) mC_189 fr_11_166 cT_70 (wdc wid_189 wd_70) rfl
theorem r189_19 : runs cal 189 19 [vR 70, v1] [] I = runs cal 189 20 [vR 70, v1] [vR 70] I := runs_to (ins_of mI_189 (by rfl)) rfl rfl
theorem r189_20 : runs cal 189 20 [v0, vI w] [vR 70] I = runs cal 189 21 [v0, vI w] [vI w, vR 70] I := runs_to (ins_of mI_189 (by rfl)) rfl rfl
theorem r189_21 : runs cal 189 21 [v0, v1] [vI x0, vR 70] I = runs cal 189 23 [v0, v1] [vI (8), vI x0, vR 70] I := runs_to (ins_of mI_189 (by rfl)) rfl rfl
theorem r189_23 : runs cal 189 23 [v0, v1] [vI x0, vI x1, vR 70] I = if x0 = 0 then none else runs cal 189 24 [v0, v1] [vI (idiv x1 x0), vR 70] I := st_nz (ins_of mI_189 (by rfl)) rfl rfl
theorem r189_24 : runs cal 189 24 [v0, v1] [vI x0, vR 70] I = runs cal 189 26 [v0, v1] [vI (8), vI x0, vR 70] I := runs_to (ins_of mI_189 (by rfl)) rfl rfl
theorem r189_26 : runs cal 189 26 [v0, v1] [vI x0, vI x1, vR 70] I = if x0 = 0 then none else runs cal 189 27 [v0, v1] [vI (irem x1 x0), vR 70] I := st_nz (ins_of mI_189 (by rfl)) rfl rfl
theorem r189_27 : runs cal 189 27 [v0, v1] [vI x0, vR 70] I = runs cal 189 30 [v0, v1] [] (mset I 70 11 x0) := st_putI (ins_of mI_189 (by rfl)) mC_189 fr_11_175 cT_70 (wdc wid_189 wd_70) rfl
theorem r189_30 : runs cal 189 30 [vR 70, v1] [] I = runs cal 189 31 [vR 70, v1] [vR 70] I := runs_to (ins_of mI_189 (by rfl)) rfl rfl
theorem r189_31 : runs cal 189 31 [v0, vI w] [vR 70] I = runs cal 189 32 [v0, vI w] [vI w, vR 70] I := runs_to (ins_of mI_189 (by rfl)) rfl rfl
theorem r189_32 : runs cal 189 32 [v0, v1] [vI x0, vR 70] I = runs cal 189 34 [v0, v1] [vI (8), vI x0, vR 70] I := runs_to (ins_of mI_189 (by rfl)) rfl rfl
theorem r189_34 : runs cal 189 34 [v0, v1] [vI x0, vI x1, vR 70] I = if x0 = 0 then none else runs cal 189 35 [v0, v1] [vI (irem x1 x0), vR 70] I := st_nz (ins_of mI_189 (by rfl)) rfl rfl
theorem r189_35 : runs cal 189 35 [v0, v1] [vI x0, vR 70] I = runs cal 189 38 [v0, v1] [] (mset I 70 12 x0) := st_putI (ins_of mI_189 (by rfl)) mC_189 fr_11_178 cT_70 (wdc wid_189 wd_70) rfl
theorem r189_38 : runs cal 189 38 [v0, v1] [] I = some (none, I) := st_ret (q := none) (k := 3) (ins_of mI_189 (by rfl)) rfl (by decide) mR_189 rfl trivial
theorem r190_0 : runs cal 190 0 [v0, v1] [] I = runs cal 190 1 [v0, v1] [vI (0)] I := runs_to (ins_of mI_190 (by rfl)) rfl rfl
theorem r190_1 : runs cal 190 1 [vR b0, v1] [vI x0] I = runs cal 190 2 [vR b0, vI x0] [] I := runs_to (ins_of mI_190 (by rfl)) rfl rfl
theorem r190_2 : runs cal 190 2 [v0, vI w] [] I = runs cal 190 3 [v0, vI w] [vI w] I := runs_to (ins_of mI_190 (by rfl)) rfl rfl
theorem r190_3 : runs cal 190 3 [v0, v1] [vI x0] I = runs cal 190 4 [v0, v1] [vI (3), vI x0] I := runs_to (ins_of mI_190 (by rfl)) rfl rfl
theorem r190_4 : runs cal 190 4 [v0, v1] [vI x0, vI x1] I = if x1 < x0 then runs cal 190 7 [v0, v1] [] I else runs cal 190 25 [v0, v1] [] I := st_cmp_ge (ins_of mI_190 (by rfl)) (by decide)
theorem r190_7 : runs cal 190 7 [vR 70, v1] [] I = runs cal 190 8 [vR 70, v1] [vR 70] I := runs_to (ins_of mI_190 (by rfl)) rfl rfl
theorem r190_8 : runs cal 190 8 [v0, v1] [vR 70] I = runs cal 190 11 [v0, v1] [vR 79] I := st_getR (ins_of mI_190 (by rfl)) mC_190 (by decide) fr_11_36 cT_70 (wdc wid_190 wd_70) rfl rfl
theorem r190_11 : runs cal 190 11 [v0, vI w] [vR 79] I = runs cal 190 12 [v0, vI w] [vI w, vR 79] I := runs_to (ins_of mI_190 (by rfl)) rfl rfl
theorem r190_12 : runs cal 190 12 [vR 70, v1] [vI x0, vR 79] I = runs cal 190 13 [vR 70, v1] [vR 70, vI x0, vR 79] I := runs_to (ins_of mI_190 (by rfl)) rfl rfl
theorem r190_13 : runs cal 190 13 [v0, v1] [vR 70, vI x1, vR 79] I = runs cal 190 16 [v0, v1] [vR 77, vI x1, vR 79] I := st_getR (ins_of mI_190 (by rfl)) mC_190 (by decide) fr_11_30 cT_70 (wdc wid_190 wd_70) rfl rfl
theorem r190_16 : runs cal 190 16 [v0, vI w] [vR 77, vI x1, vR 79] I = runs cal 190 17 [v0, vI w] [vI w, vR 77, vI x1, vR 79] I := runs_to (ins_of mI_190 (by rfl)) rfl rfl
theorem r190_17 : runs cal 190 17 [v0, v1] [vI x0, vR 77, vI x2, vR 79] I = if 0 ≤ x0 ∧ x0 < 3 then runs cal 190 18 [v0, v1] [vI (I 77 x0), vI x2, vR 79] I else none := st_iald (ins_of mI_190 (by rfl)) cT_77 (wdc wid_190 wd_77)
theorem r190_18 : runs cal 190 18 [v0, v1] [vI x0, vI x1, vR 79] I = if 0 ≤ x1 ∧ x1 < 3 then runs cal 190 19 [v0, v1] [] (mset I 79 x1 x0) else none := st_iast (ins_of mI_190 (by rfl)) cT_79 (wdc wid_190 wd_79)
theorem r190_19 : runs cal 190 19 [vR b0, vI w] [] I = runs cal 190 22 [vR b0, vI (iadd w (1))] [] I := runs_to (ins_of mI_190 (by rfl)) rfl rfl
theorem r190_22 : runs cal 190 22 [v0, v1] [] I = runs cal 190 2 [v0, v1] [] I := st_goto (ins_of mI_190 (by rfl)) (by decide)
theorem r190_25 : runs cal 190 25 [v0, v1] [] I = runs cal 190 26 [v0, v1] [vI (0)] I := runs_to (ins_of mI_190 (by rfl)) rfl rfl
theorem r190_26 : runs cal 190 26 [vR b0, v1] [vI x0] I = runs cal 190 27 [vR b0, vI x0] [] I := runs_to (ins_of mI_190 (by rfl)) rfl rfl
theorem r190_27 : runs cal 190 27 [v0, vI w] [] I = runs cal 190 28 [v0, vI w] [vI w] I := runs_to (ins_of mI_190 (by rfl)) rfl rfl
theorem r190_28 : runs cal 190 28 [v0, v1] [vI x0] I = runs cal 190 29 [v0, v1] [vI (2), vI x0] I := runs_to (ins_of mI_190 (by rfl)) rfl rfl
theorem r190_29 : runs cal 190 29 [v0, v1] [vI x0, vI x1] I = if x1 < x0 then runs cal 190 32 [v0, v1] [] I else runs cal 190 50 [v0, v1] [] I := st_cmp_ge (ins_of mI_190 (by rfl)) (by decide)
theorem r190_32 : runs cal 190 32 [vR 70, v1] [] I = runs cal 190 33 [vR 70, v1] [vR 70] I := runs_to (ins_of mI_190 (by rfl)) rfl rfl
theorem r190_33 : runs cal 190 33 [v0, v1] [vR 70] I = runs cal 190 36 [v0, v1] [vR 80] I := st_getR (ins_of mI_190 (by rfl)) mC_190 (by decide) fr_11_39 cT_70 (wdc wid_190 wd_70) rfl rfl
theorem r190_36 : runs cal 190 36 [v0, vI w] [vR 80] I = runs cal 190 37 [v0, vI w] [vI w, vR 80] I := runs_to (ins_of mI_190 (by rfl)) rfl rfl
theorem r190_37 : runs cal 190 37 [vR 70, v1] [vI x0, vR 80] I = runs cal 190 38 [vR 70, v1] [vR 70, vI x0, vR 80] I := runs_to (ins_of mI_190 (by rfl)) rfl rfl
theorem r190_38 : runs cal 190 38 [v0, v1] [vR 70, vI x1, vR 80] I = runs cal 190 41 [v0, v1] [vR 78, vI x1, vR 80] I := st_getR (ins_of mI_190 (by rfl)) mC_190 (by decide) fr_11_33 cT_70 (wdc wid_190 wd_70) rfl rfl
theorem r190_41 : runs cal 190 41 [v0, vI w] [vR 78, vI x1, vR 80] I = runs cal 190 42 [v0, vI w] [vI w, vR 78, vI x1, vR 80] I := runs_to (ins_of mI_190 (by rfl)) rfl rfl
theorem r190_42 : runs cal 190 42 [v0, v1] [vI x0, vR 78, vI x2, vR 80] I = if 0 ≤ x0 ∧ x0 < 2 then runs cal 190 43 [v0, v1] [vI (I 78 x0), vI x2, vR 80] I else none := st_iald (ins_of mI_190 (by rfl)) cT_78 (wdc wid_190 wd_78)
theorem r190_43 : runs cal 190 43 [v0, v1] [vI x0, vI x1, vR 80] I = if 0 ≤ x1 ∧ x1 < 2 then runs cal 190 44 [v0, v1] [] (mset I 80 x1 x0) else none := st_iast (ins_of mI_190 (by rfl)) cT_80 (wdc wid_190 wd_80)
theorem r190_44 : runs cal 190 44 [vR b0, vI w] [] I = runs cal 190 47 [vR b0, vI (iadd w (1))] [] I := runs_to (ins_of mI_190 (by rfl)) rfl rfl
theorem r190_47 : runs cal 190 47 [v0, v1] [] I = runs cal 190 27 [v0, v1] [] I := st_goto (ins_of mI_190 (by rfl)) (by decide)
theorem r190_50 : runs cal 190 50 [v0, v1] [] I = some (none, I) := st_ret (q := none) (k := 3) (ins_of mI_190 (by rfl)) rfl (by decide) mR_190 rfl trivial
theorem r191_0 : runs cal 191 0 [v0, v1] [] I = runs cal 191 1 [v0, v1] [vI (0)] I := runs_to (ins_of mI_191 (by rfl)) rfl rfl
theorem r191_1 : runs cal 191 1 [vR b0, v1] [vI x0] I = runs cal 191 2 [vR b0, vI x0] [] I := runs_to (ins_of mI_191 (by rfl)) rfl rfl
theorem r191_2 : runs cal 191 2 [v0, vI w] [] I = runs cal 191 3 [v0, vI w] [vI w] I := runs_to (ins_of mI_191 (by rfl)) rfl rfl
theorem r191_3 : runs cal 191 3 [v0, v1] [vI x0] I = runs cal 191 4 [v0, v1] [vI (3), vI x0] I := runs_to (ins_of mI_191 (by rfl)) rfl rfl
theorem r191_4 : runs cal 191 4 [v0, v1] [vI x0, vI x1] I = if x1 < x0 then runs cal 191 7 [v0, v1] [] I else runs cal 191 25 [v0, v1] [] I := st_cmp_ge (ins_of mI_191 (by rfl)) (by decide)
theorem r191_7 : runs cal 191 7 [vR 70, v1] [] I = runs cal 191 8 [vR 70, v1] [vR 70] I := runs_to (ins_of mI_191 (by rfl)) rfl rfl
theorem r191_8 : runs cal 191 8 [v0, v1] [vR 70] I = runs cal 191 11 [v0, v1] [vR 77] I := st_getR (ins_of mI_191 (by rfl)) mC_191 (by decide) fr_11_30 cT_70 (wdc wid_191 wd_70) rfl rfl
theorem r191_11 : runs cal 191 11 [v0, vI w] [vR 77] I = runs cal 191 12 [v0, vI w] [vI w, vR 77] I := runs_to (ins_of mI_191 (by rfl)) rfl rfl
theorem r191_12 : runs cal 191 12 [vR 70, v1] [vI x0, vR 77] I = runs cal 191 13 [vR 70, v1] [vR 70, vI x0, vR 77] I := runs_to (ins_of mI_191 (by rfl)) rfl rfl
theorem r191_13 : runs cal 191 13 [v0, v1] [vR 70, vI x1, vR 77] I = runs cal 191 16 [v0, v1] [vR 79, vI x1, vR 77] I := st_getR (ins_of mI_191 (by rfl)) mC_191 (by decide) fr_11_36 cT_70 (wdc wid_191 wd_70) rfl rfl
theorem r191_16 : runs cal 191 16 [v0, vI w] [vR 79, vI x1, vR 77] I = runs cal 191 17 [v0, vI w] [vI w, vR 79, vI x1, vR 77] I := runs_to (ins_of mI_191 (by rfl)) rfl rfl
theorem r191_17 : runs cal 191 17 [v0, v1] [vI x0, vR 79, vI x2, vR 77] I = if 0 ≤ x0 ∧ x0 < 3 then runs cal 191 18 [v0, v1] [vI (I 79 x0), vI x2, vR 77] I else none := st_iald (ins_of mI_191 (by rfl)) cT_79 (wdc wid_191 wd_79)
theorem r191_18 : runs cal 191 18 [v0, v1] [vI x0, vI x1, vR 77] I = if 0 ≤ x1 ∧ x1 < 3 then runs cal 191 19 [v0, v1] [] (mset I 77 x1 x0) else none := st_iast (ins_of mI_191 (by rfl)) cT_77 (wdc wid_191 wd_77)
theorem r191_19 : runs cal 191 19 [vR b0, vI w] [] I = runs cal 191 22 [vR b0, vI (iadd w (1))] [] I := runs_to (ins_of mI_191 (by rfl)) rfl rfl
theorem r191_22 : runs cal 191 22 [v0, v1] [] I = runs cal 191 2 [v0, v1] [] I := st_goto (ins_of mI_191 (by rfl)) (by decide)
theorem r191_25 : runs cal 191 25 [v0, v1] [] I = runs cal 191 26 [v0, v1] [vI (0)] I := runs_to (ins_of mI_191 (by rfl)) rfl rfl
theorem r191_26 : runs cal 191 26 [vR b0, v1] [vI x0] I = runs cal 191 27 [vR b0, vI x0] [] I := runs_to (ins_of mI_191 (by rfl)) rfl rfl
theorem r191_27 : runs cal 191 27 [v0, vI w] [] I = runs cal 191 28 [v0, vI w] [vI w] I := runs_to (ins_of mI_191 (by rfl)) rfl rfl
theorem r191_28 : runs cal 191 28 [v0, v1] [vI x0] I = runs cal 191 29 [v0, v1] [vI (2), vI x0] I := runs_to (ins_of mI_191 (by rfl)) rfl rfl
theorem r191_29 : runs cal 191 29 [v0, v1] [vI x0, vI x1] I = if x1 < x0 then runs cal 191 32 [v0, v1] [] I else runs cal 191 50 [v0, v1] [] I := st_cmp_ge (ins_of mI_191 (by rfl)) (by decide)
theorem r191_32 : runs cal 191 32 [vR 70, v1] [] I = runs cal 191 33 [vR 70, v1] [vR 70] I := runs_to (ins_of mI_191 (by rfl)) rfl rfl
theorem r191_33 : runs cal 191 33 [v0, v1] [vR 70] I = runs cal 191 36 [v0, v1] [vR 78] I := st_getR (ins_of mI_191 (by rfl)) mC_191 (by decide) fr_11_33 cT_70 (wdc wid_191 wd_70) rfl rfl
theorem r191_36 : runs cal 191 36 [v0, vI w] [vR 78] I = runs cal 191 37 [v0, vI w] [vI w, vR 78] I := runs_to (ins_of mI_191 (by rfl)) rfl rfl
theorem r191_37 : runs cal 191 37 [vR 70, v1] [vI x0, vR 78] I = runs cal 191 38 [vR 70, v1] [vR 70, vI x0, vR 78] I := runs_to (ins_of mI_191 (by rfl)) rfl rfl
theorem r191_38 : runs cal 191 38 [v0, v1] [vR 70, vI x1, vR 78] I = runs cal 191 41 [v0, v1] [vR 80, vI x1, vR 78] I := st_getR (ins_of mI_191 (by rfl)) mC_191 (by decide) fr_11_39 cT_70 (wdc wid_191 wd_70) rfl rfl
theorem r191_41 : runs cal 191 41 [v0, vI w] [vR 80, vI x1, vR 78] I = runs cal 191 42 [v0, vI w] [vI w, vR 80, vI x1, vR 78] I := runs_to (ins_of mI_191 (by rfl)) rfl rfl
theorem r191_42 : runs cal 191 42 [v0, v1] [vI x0, vR 80, vI x2, vR 78] I = if 0 ≤ x0 ∧ x0 < 2 then runs cal 191 43 [v0, v1] [vI (I 80 x0), vI x2, vR 78] I else none := st_iald (ins_of mI_191 (by rfl)) cT_80 (wdc wid_191 wd_80)
theorem r191_43 : runs cal 191 43 [v0, v1] [vI x0, vI x1, vR 78] I = if 0 ≤ x1 ∧ x1 < 2 then runs cal 191 44 [v0, v1] [] (mset I 78 x1 x0) else none := st_iast (ins_of mI_191 (by rfl)) cT_78 (wdc wid_191 wd_78)
theorem r191_44 : runs cal 191 44 [vR b0, vI w] [] I = runs cal 191 47 [vR b0, vI (iadd w (1))] [] I := runs_to (ins_of mI_191 (by rfl)) rfl rfl
theorem r191_47 : runs cal 191 47 [v0, v1] [] I = runs cal 191 27 [v0, v1] [] I := st_goto (ins_of mI_191 (by rfl)) (by decide)
theorem r191_50 : runs cal 191 50 [v0, v1] [] I = some (none, I) := st_ret (q := none) (k := 3) (ins_of mI_191 (by rfl)) rfl (by decide) mR_191 rfl trivial
theorem r192_0 : runs cal 192 0 [vR 70] [] I = runs cal 192 1 [vR 70] [vR 70] I := runs_to (ins_of mI_192 (by rfl)) rfl rfl
theorem r192_1 : runs cal 192 1 [v0] [vR 70] I = (cal 180 [vR 70] I).bind (fun q => runs cal 192 4 [v0] (pushR q.1 []) q.2) := st_call (st := false) (ins_of mI_192 (by rfl)) mC_192 mr_11_209 (by decide) mS_180 mN_180 rfl (Nat.le_of_ble_eq_true rfl) rfl rfl (Or.inr ⟨_, _, rfl, rcv mC_180 rfl wid_192 (by decide +kernel)⟩) (Or.inl (wid_192.trans wid_180.symm))
theorem r192_4 : runs cal 192 4 [v0] [vI x0] I = if x0 = 0 then runs cal 192 7 [v0] [] I else runs cal 192 9 [v0] [] I := st_if_ne (ins_of mI_192 (by rfl)) (by decide)
theorem r192_7 : runs cal 192 7 [v0] [] I = runs cal 192 8 [v0] [vI (1)] I := runs_to (ins_of mI_192 (by rfl)) rfl rfl
theorem r192_8 : runs cal 192 8 [v0] [vI x0] I = some (some (vI x0), I) := st_ret (q := some (vI x0)) (k := 0) (ins_of mI_192 (by rfl)) rfl (by decide) mR_192 rfl trivial
theorem r192_9 : runs cal 192 9 [vR 70] [] I = runs cal 192 10 [vR 70] [vR 70] I := runs_to (ins_of mI_192 (by rfl)) rfl rfl
theorem r192_10 : runs cal 192 10 [v0] [vR 70] I = (cal 187 [vR 70] I).bind (fun q => runs cal 192 13 [v0] (pushR q.1 []) q.2) := st_call (st := false) (ins_of mI_192 (by rfl)) mC_192 mr_11_213 (by decide) mS_187 mN_187 rfl (Nat.le_of_ble_eq_true rfl) rfl rfl (Or.inr ⟨_, _, rfl, rcv mC_187 rfl wid_192 (by decide +kernel)⟩) (Or.inl (wid_192.trans wid_187.symm))
theorem r192_13 : runs cal 192 13 [v0] [vI x0] I = if x0 = 0 then runs cal 192 16 [v0] [] I else runs cal 192 18 [v0] [] I := st_if_ne (ins_of mI_192 (by rfl)) (by decide)
theorem r192_16 : runs cal 192 16 [v0] [] I = runs cal 192 17 [v0] [vI (2)] I := runs_to (ins_of mI_192 (by rfl)) rfl rfl
theorem r192_17 : runs cal 192 17 [v0] [vI x0] I = some (some (vI x0), I) := st_ret (q := some (vI x0)) (k := 0) (ins_of mI_192 (by rfl)) rfl (by decide) mR_192 rfl trivial
theorem r192_18 : runs cal 192 18 [vR 70] [] I = runs cal 192 19 [vR 70] [vR 70] I := runs_to (ins_of mI_192 (by rfl)) rfl rfl
theorem r192_19 : runs cal 192 19 [v0] [vR 70] I = (cal 190 [vR 70] I).bind (fun q => runs cal 192 22 [v0] (pushR q.1 []) q.2) := st_call (st := false) (ins_of mI_192 (by rfl)) mC_192 mr_11_216 (by decide) mS_190 mN_190 rfl (Nat.le_of_ble_eq_true rfl) rfl rfl (Or.inr ⟨_, _, rfl, rcv mC_190 rfl wid_192 (by decide +kernel)⟩) (Or.inl (wid_192.trans wid_190.symm))
theorem r192_22 : runs cal 192 22 [vR 70] [] I = runs cal 192 23 [vR 70] [vR 70] I := runs_to (ins_of mI_192 (by rfl)) rfl rfl
theorem r192_23 : runs cal 192 23 [v0] [vR 70] I = (cal 188 [vR 70] I).bind (fun q => runs cal 192 26 [v0] (pushR q.1 []) q.2) := st_call (st := false) (ins_of mI_192 (by rfl)) mC_192 mr_11_219 (by decide) mS_188 mN_188 rfl (Nat.le_of_ble_eq_true rfl) rfl rfl (Or.inr ⟨_, _, rfl, rcv mC_188 rfl wid_192 (by decide +kernel)⟩) (Or.inl (wid_192.trans wid_188.symm))
theorem r192_26 : runs cal 192 26 [vR 70] [] I = runs cal 192 27 [vR 70] [vR 70] I := runs_to (ins_of mI_192 (by rfl)) rfl rfl
theorem r192_27 : runs cal 192 27 [v0] [vR 70] I = (cal 176 [vR 70] I).bind (fun q => runs cal 192 30 [v0] (pushR q.1 []) q.2) := st_call (st := false) (ins_of mI_192 (by rfl)) mC_192 mr_11_222 (by decide) mS_176 mN_176 rfl (Nat.le_of_ble_eq_true rfl) rfl rfl (Or.inr ⟨_, _, rfl, rcv mC_176 rfl wid_192 (by decide +kernel)⟩) (Or.inl (wid_192.trans wid_176.symm))
theorem r192_30 : runs cal 192 30 [v0] [vI x0] I = if x0 = 0 then runs cal 192 35 [v0] [] I else runs cal 192 33 [v0] [] I := st_if_eq (ins_of mI_192 (by rfl)) (by decide)
theorem r192_33 : runs cal 192 33 [v0] [] I = runs cal 192 34 [v0] [vI (0)] I := runs_to (ins_of mI_192 (by rfl)) rfl rfl
theorem r192_34 : runs cal 192 34 [v0] [vI x0] I = some (some (vI x0), I) := st_ret (q := some (vI x0)) (k := 0) (ins_of mI_192 (by rfl)) rfl (by decide) mR_192 rfl trivial
theorem r192_35 : runs cal 192 35 [vR 70] [] I = runs cal 192 36 [vR 70] [vR 70] I := runs_to (ins_of mI_192 (by rfl)) rfl rfl
theorem r192_36 : runs cal 192 36 [v0] [vR 70] I = (cal 191 [vR 70] I).bind (fun q => runs cal 192 39 [v0] (pushR q.1 []) q.2) := st_call (st := false) (ins_of mI_192 (by rfl)) mC_192 mr_11_225 (by decide) mS_191 mN_191 rfl (Nat.le_of_ble_eq_true rfl) rfl rfl (Or.inr ⟨_, _, rfl, rcv mC_191 rfl wid_192 (by decide +kernel)⟩) (Or.inl (wid_192.trans wid_191.symm))
theorem r192_39 : runs cal 192 39 [v0] [] I = runs cal 192 40 [v0] [vI (3)] I := runs_to (ins_of mI_192 (by rfl)) rfl rfl
theorem r192_40 : runs cal 192 40 [v0] [vI x0] I = some (some (vI x0), I) := st_ret (q := some (vI x0)) (k := 0) (ins_of mI_192 (by rfl)) rfl (by decide) mR_192 rfl trivial
theorem r193_0 : runs cal 193 0 [v0, vI w] [] I = runs cal 193 1 [v0, vI w] [vI w] I := runs_to (ins_of mI_193 (by rfl)) rfl rfl
theorem r193_1 : runs cal 193 1 [v0, v1] [vI x0] I = runs cal 193 2 [v0, v1] [vL x0] I := runs_to (ins_of mI_193 (by rfl)) rfl rfl
theorem r193_2 : runs cal 193 2 [v0, v1] [vL x0] I = runs cal 193 3 [v0, v1] [vL 0, vL x0] I := runs_to (ins_of mI_193 (by rfl)) rfl rfl
theorem r193_3 : runs cal 193 3 [v0, v1] [vL x0, vL x1] I = runs cal 193 6 [v0, v1] [vL (1023), vL x0, vL x1] I := runs_to (ins_of mI_193 (by rfl)) rfl (by simp only [stepI, ldk2, mC_193]; rfl)
theorem r193_6 : runs cal 193 6 [v0, v1] [vL x0, vL x1, vL x2] I = (cal 142 [vL x2, vL x1, vL x0] I).bind (fun q => runs cal 193 9 [v0, v1] (pushR q.1 []) q.2) := st_call (st := true) (ins_of mI_193 (by rfl)) mC_193 mr_11_121 (by decide) mS_142 mN_142 rfl (Nat.le_of_ble_eq_true rfl) rfl rfl (Or.inl rfl) (Or.inl (wid_193.trans wid_142.symm))
theorem r193_9 : runs cal 193 9 [v0, v1] [vI x0] I = if x0 = 0 then runs cal 193 12 [v0, v1] [] I else runs cal 193 14 [v0, v1] [] I := st_if_ne (ins_of mI_193 (by rfl)) (by decide)
theorem r193_12 : runs cal 193 12 [v0, v1] [] I = runs cal 193 13 [v0, v1] [vI (1)] I := runs_to (ins_of mI_193 (by rfl)) rfl rfl
theorem r193_13 : runs cal 193 13 [v0, v1] [vI x0] I = some (some (vI x0), I) := st_ret (q := some (vI x0)) (k := 0) (ins_of mI_193 (by rfl)) rfl (by decide) mR_193 rfl trivial
theorem r193_14 : runs cal 193 14 [vR 70, v1] [] I = runs cal 193 15 [vR 70, v1] [vR 70] I := runs_to (ins_of mI_193 (by rfl)) rfl rfl
theorem r193_15 : runs cal 193 15 [v0, v1] [vR 70] I = (cal 164 [vR 70] I).bind (fun q => runs cal 193 18 [v0, v1] (pushR q.1 []) q.2) := st_call (st := false) (ins_of mI_193 (by rfl)) mC_193 mr_11_230 (by decide) mS_164 mN_164 rfl (Nat.le_of_ble_eq_true rfl) rfl rfl (Or.inr ⟨_, _, rfl, rcv mC_164 rfl wid_193 (by decide +kernel)⟩) (Or.inl (wid_193.trans wid_164.symm))
theorem r193_18 : runs cal 193 18 [vR 70, v1] [] I = runs cal 193 19 [vR 70, v1] [vR 70] I := runs_to (ins_of mI_193 (by rfl)) rfl rfl
theorem r193_19 : runs cal 193 19 [v0, vI w] [vR 70] I = runs cal 193 20 [v0, vI w] [vI w, vR 70] I := runs_to (ins_of mI_193 (by rfl)) rfl rfl
theorem r193_20 : runs cal 193 20 [v0, v1] [vI x0, vR 70] I = (cal 189 [vR 70, vI x0] I).bind (fun q => runs cal 193 23 [v0, v1] (pushR q.1 []) q.2) := st_call (st := false) (ins_of mI_193 (by rfl)) mC_193 mr_11_233 (by decide) mS_189 mN_189 rfl (Nat.le_of_ble_eq_true rfl) rfl rfl (Or.inr ⟨_, _, rfl, rcv mC_189 rfl wid_193 (by decide +kernel)⟩) (Or.inl (wid_193.trans wid_189.symm))
theorem r193_23 : runs cal 193 23 [vR 70, v1] [] I = runs cal 193 24 [vR 70, v1] [vR 70] I := runs_to (ins_of mI_193 (by rfl)) rfl rfl
theorem r193_24 : runs cal 193 24 [v0, v1] [vR 70] I = (cal 192 [vR 70] I).bind (fun q => runs cal 193 27 [v0, v1] (pushR q.1 []) q.2) := st_call (st := false) (ins_of mI_193 (by rfl)) mC_193 mr_11_236 (by decide) mS_192 mN_192 rfl (Nat.le_of_ble_eq_true rfl) rfl rfl (Or.inr ⟨_, _, rfl, rcv mC_192 rfl wid_193 (by decide +kernel)⟩) (Or.inl (wid_193.trans wid_192.symm))
theorem r193_27 : runs cal 193 27 [v0, v1] [vI x0] I = some (some (vI x0), I) := st_ret (q := some (vI x0)) (k := 0) (ins_of mI_193 (by rfl)) rfl (by decide) mR_193 rfl trivial
theorem r194_0 : runs cal 194 0 [vR 70, v1] [] I = runs cal 194 1 [vR 70, v1] [vR 70] I := runs_to (ins_of mI_194 (by rfl)) rfl rfl
theorem r194_1 : runs cal 194 1 [v0, vI w] [vR 70] I = runs cal 194 2 [v0, vI w] [vI w, vR 70] I := runs_to (ins_of mI_194 (by rfl)) rfl rfl
theorem r194_2 : runs cal 194 2 [v0, v1] [vI x0, vR 70] I = (cal 193 [vR 70, vI x0] I).bind (fun q => runs cal 194 5 [v0, v1] (pushR q.1 []) q.2) := st_call (st := false) (ins_of mI_194 (by rfl)) mC_194 mr_11_239 (by decide) mS_193 mN_193 rfl (Nat.le_of_ble_eq_true rfl) rfl rfl (Or.inr ⟨_, _, rfl, rcv mC_193 rfl wid_194 (by decide +kernel)⟩) (Or.inl (wid_194.trans wid_193.symm))
theorem r194_5 : runs cal 194 5 [v0, v1] [vI x0] I = some (some (vI x0), I) := st_ret (q := some (vI x0)) (k := 0) (ins_of mI_194 (by rfl)) rfl (by decide) mR_194 rfl trivial
theorem r195_0 : runs cal 195 0 [vR 70, v1, v2, v3] [] I = runs cal 195 1 [vR 70, v1, v2, v3] [vR 70] I := runs_to (ins_of mI_195 (by rfl)) rfl rfl
theorem r195_1 : runs cal 195 1 [v0, vI w, v2, v3] [vR 70] I = runs cal 195 2 [v0, vI w, v2, v3] [vI w, vR 70] I := runs_to (ins_of mI_195 (by rfl)) rfl rfl
theorem r195_2 : runs cal 195 2 [v0, v1, v2, v3] [vI x0, vR 70] I = (cal 193 [vR 70, vI x0] I).bind (fun q => runs cal 195 5 [v0, v1, v2, v3] (pushR q.1 []) q.2) := st_call (st := false) (ins_of mI_195 (by rfl)) mC_195 mr_11_239 (by decide) mS_193 mN_193 rfl (Nat.le_of_ble_eq_true rfl) rfl rfl (Or.inr ⟨_, _, rfl, rcv mC_193 rfl wid_195 (by decide +kernel)⟩) (Or.inl (wid_195.trans wid_193.symm))
theorem r195_5 : runs cal 195 5 [v0, v1, v2, v3] [vI x0] I = if x0 = 0 then runs cal 195 13 [v0, v1, v2, v3] [] I else runs cal 195 8 [v0, v1, v2, v3] [] I := st_if_eq (ins_of mI_195 (by rfl)) (by decide)
theorem r195_8 : runs cal 195 8 [vR 70, v1, v2, v3] [] I = runs cal 195 9 [vR 70, v1, v2, v3] [vR 70] I := runs_to (ins_of mI_195 (by rfl)) rfl rfl
theorem r195_9 : runs cal 195 9 [v0, v1, v2, v3] [vR 70] I = (cal 144 [vR 70] I).bind (fun q => runs cal 195 12 [v0, v1, v2, v3] (pushR q.1 []) q.2) := st_call (st := false) (ins_of mI_195 (by rfl)) mC_195 mr_11_242 (by decide) mS_144 mN_144 rfl (Nat.le_of_ble_eq_true rfl) rfl rfl (Or.inr ⟨_, _, rfl, rcv mC_144 rfl wid_195 (by decide +kernel)⟩) (Or.inl (wid_195.trans wid_144.symm))
theorem r195_12 : runs cal 195 12 [v0, v1, v2, v3] [vI x0] I = some (some (vI x0), I) := st_ret (q := some (vI x0)) (k := 0) (ins_of mI_195 (by rfl)) rfl (by decide) mR_195 rfl trivial
theorem r195_13 : runs cal 195 13 [vR 70, v1, v2, v3] [] I = runs cal 195 14 [vR 70, v1, v2, v3] [vR 70] I := runs_to (ins_of mI_195 (by rfl)) rfl rfl
theorem r195_14 : runs cal 195 14 [v0, v1, v2, v3] [vR 70] I = runs cal 195 17 [v0, v1, v2, v3] [vR 71] I := st_getR (ins_of mI_195 (by rfl)) mC_195 (by decide) fr_11_7 cT_70 (wdc wid_195 wd_70) rfl rfl
theorem r195_17 : runs cal 195 17 [v0, v1, v2, v3] [vR 71] I = runs cal 195 19 [v0, v1, v2, v3] [vI (69), vR 71] I := runs_to (ins_of mI_195 (by rfl)) rfl rfl
theorem r195_19 : runs cal 195 19 [v0, v1, v2, v3] [vI x0, vR 71] I = if 0 ≤ x0 ∧ x0 < 110 then runs cal 195 20 [v0, v1, v2, v3] [vI (I 71 x0)] I else none := st_iald (ins_of mI_195 (by rfl)) cT_71 (wdc wid_195 wd_71)
theorem r195_20 : runs cal 195 20 [v0, v1, v2, v3] [vI x0] I = runs cal 195 22 [v0, v1, v2, v3] [vI (8), vI x0] I := runs_to (ins_of mI_195 (by rfl)) rfl rfl
theorem r195_22 : runs cal 195 22 [v0, v1, v2, v3] [vI x0, vI x1] I = if x1 = x0 then runs cal 195 25 [v0, v1, v2, v3] [] I else runs cal 195 66 [v0, v1, v2, v3] [] I := st_cmp_ne (ins_of mI_195 (by rfl)) (by decide)
theorem r195_25 : runs cal 195 25 [v0, v1, v2, v3] [] I = runs cal 195 26 [v0, v1, v2, v3] [vI (0)] I := runs_to (ins_of mI_195 (by rfl)) rfl rfl
theorem r195_26 : runs cal 195 26 [v0, vI u, v2, v3] [vI x0] I = runs cal 195 27 [v0, vI u, vI x0, v3] [] I := runs_to (ins_of mI_195 (by rfl)) rfl rfl
theorem r195_27 : runs cal 195 27 [v0, v1, vI w, v3] [] I = runs cal 195 28 [v0, v1, vI w, v3] [vI w] I := runs_to (ins_of mI_195 (by rfl)) rfl rfl
theorem r195_28 : runs cal 195 28 [v0, v1, v2, v3] [vI x0] I = runs cal 195 30 [v0, v1, v2, v3] [vI (35), vI x0] I := runs_to (ins_of mI_195 (by rfl)) rfl rfl
theorem r195_30 : runs cal 195 30 [v0, v1, v2, v3] [vI x0, vI x1] I = if x1 < x0 then runs cal 195 33 [v0, v1, v2, v3] [] I else runs cal 195 57 [v0, v1, v2, v3] [] I := st_cmp_ge (ins_of mI_195 (by rfl)) (by decide)
theorem r195_33 : runs cal 195 33 [vR 70, v1, v2, v3] [] I = runs cal 195 34 [vR 70, v1, v2, v3] [vR 70] I := runs_to (ins_of mI_195 (by rfl)) rfl rfl
theorem r195_34 : runs cal 195 34 [v0, v1, v2, v3] [vR 70] I = runs cal 195 37 [v0, v1, v2, v3] [vR 71] I := st_getR (ins_of mI_195 (by rfl)) mC_195 (by decide) fr_11_7 cT_70 (wdc wid_195 wd_70) rfl rfl
theorem r195_37 : runs cal 195 37 [v0, v1, v2, v3] [vR 71] I = runs cal 195 39 [v0, v1, v2, v3] [vI (70), vR 71] I := runs_to (ins_of mI_195 (by rfl)) rfl rfl
theorem r195_39 : runs cal 195 39 [v0, v1, vI w, v3] [vI x0, vR 71] I = runs cal 195 40 [v0, v1, vI w, v3] [vI w, vI x0, vR 71] I := runs_to (ins_of mI_195 (by rfl)) rfl rfl
theorem r195_40 : runs cal 195 40 [v0, v1, v2, v3] [vI x0, vI x1, vR 71] I = runs cal 195 41 [v0, v1, v2, v3] [vI (iadd x1 x0), vR 71] I := runs_to (ins_of mI_195 (by rfl)) rfl rfl
theorem r195_41 : runs cal 195 41 [vR 70, v1, v2, v3] [vI x0, vR 71] I = runs cal 195 42 [vR 70, v1, v2, v3] [vR 70, vI x0, vR 71] I := runs_to (ins_of mI_195 (by rfl)) rfl rfl
theorem r195_42 : runs cal 195 42 [v0, v1, v2, v3] [vR 70, vI x1, vR 71] I = runs cal 195 45 [v0, v1, v2, v3] [vR 71, vI x1, vR 71] I := st_getR (ins_of mI_195 (by rfl)) mC_195 (by decide) fr_11_7 cT_70 (wdc wid_195 wd_70) rfl rfl
theorem r195_45 : runs cal 195 45 [v0, v1, v2, v3] [vR 71, vI x1, vR 71] I = runs cal 195 47 [v0, v1, v2, v3] [vI (75), vR 71, vI x1, vR 71] I := runs_to (ins_of mI_195 (by rfl)) rfl rfl
theorem r195_47 : runs cal 195 47 [v0, v1, vI w, v3] [vI x0, vR 71, vI x2, vR 71] I = runs cal 195 48 [v0, v1, vI w, v3] [vI w, vI x0, vR 71, vI x2, vR 71] I := runs_to (ins_of mI_195 (by rfl)) rfl rfl
theorem r195_48 : runs cal 195 48 [v0, v1, v2, v3] [vI x0, vI x1, vR 71, vI x3, vR 71] I = runs cal 195 49 [v0, v1, v2, v3] [vI (iadd x1 x0), vR 71, vI x3, vR 71] I := runs_to (ins_of mI_195 (by rfl)) rfl rfl
theorem r195_49 : runs cal 195 49 [v0, v1, v2, v3] [vI x0, vR 71, vI x2, vR 71] I = if 0 ≤ x0 ∧ x0 < 110 then runs cal 195 50 [v0, v1, v2, v3] [vI (I 71 x0), vI x2, vR 71] I else none := st_iald (ins_of mI_195 (by rfl)) cT_71 (wdc wid_195 wd_71)
theorem r195_50 : runs cal 195 50 [v0, v1, v2, v3] [vI x0, vI x1, vR 71] I = if 0 ≤ x1 ∧ x1 < 110 then runs cal 195 51 [v0, v1, v2, v3] [] (mset I 71 x1 x0) else none := st_iast (ins_of mI_195 (by rfl)) cT_71 (wdc wid_195 wd_71)
theorem r195_51 : runs cal 195 51 [v0, vI u, vI w, v3] [] I = runs cal 195 54 [v0, vI u, vI (iadd w (1)), v3] [] I := runs_to (ins_of mI_195 (by rfl)) rfl rfl
theorem r195_54 : runs cal 195 54 [v0, v1, v2, v3] [] I = runs cal 195 27 [v0, v1, v2, v3] [] I := st_goto (ins_of mI_195 (by rfl)) (by decide)
theorem r195_57 : runs cal 195 57 [vR 70, v1, v2, v3] [] I = runs cal 195 58 [vR 70, v1, v2, v3] [vR 70] I := runs_to (ins_of mI_195 (by rfl)) rfl rfl
theorem r195_58 : runs cal 195 58 [v0, v1, v2, v3] [vR 70] I = runs cal 195 61 [v0, v1, v2, v3] [vR 71] I := st_getR (ins_of mI_195 (by rfl)) mC_195 (by decide) fr_11_7 cT_70 (wdc wid_195 wd_70) rfl rfl
theorem r195_61 : runs cal 195 61 [v0, v1, v2, v3] [vR 71] I = runs cal 195 63 [v0, v1, v2, v3] [vI (69), vR 71] I := runs_to (ins_of mI_195 (by rfl)) rfl rfl
theorem r195_63 : runs cal 195 63 [v0, v1, v2, v3] [vI x0, vR 71] I = runs cal 195 65 [v0, v1, v2, v3] [vI (7), vI x0, vR 71] I := runs_to (ins_of mI_195 (by rfl)) rfl rfl
theorem r195_65 : runs cal 195 65 [v0, v1, v2, v3] [vI x0, vI x1, vR 71] I = if 0 ≤ x1 ∧ x1 < 110 then runs cal 195 66 [v0, v1, v2, v3] [] (mset I 71 x1 x0) else none := st_iast (ins_of mI_195 (by rfl)) cT_71 (wdc wid_195 wd_71)
theorem r195_66 : runs cal 195 66 [v0, v1, v2, v3] [] I = runs cal 195 68 [v0, v1, v2, v3] [vI (70)] I := runs_to (ins_of mI_195 (by rfl)) rfl rfl
theorem r195_68 : runs cal 195 68 [v0, v1, v2, v3] [vI x0] I = runs cal 195 69 [v0, v1, v2, v3] [vI (5), vI x0] I := runs_to (ins_of mI_195 (by rfl)) rfl rfl
theorem r195_69 : runs cal 195 69 [vR 70, v1, v2, v3] [vI x0, vI x1] I = runs cal 195 70 [vR 70, v1, v2, v3] [vR 70, vI x0, vI x1] I := runs_to (ins_of mI_195 (by rfl)) rfl rfl
theorem r195_70 : runs cal 195 70 [v0, v1, v2, v3] [vR 70, vI x1, vI x2] I = runs cal 195 73 [v0, v1, v2, v3] [vR 71, vI x1, vI x2] I := st_getR (ins_of mI_195 (by rfl)) mC_195 (by decide) fr_11_7 cT_70 (wdc wid_195 wd_70) rfl rfl
theorem r195_73 : runs cal 195 73 [v0, v1, v2, v3] [vR 71, vI x1, vI x2] I = runs cal 195 75 [v0, v1, v2, v3] [vI (69), vR 71, vI x1, vI x2] I := runs_to (ins_of mI_195 (by rfl)) rfl rfl
theorem r195_75 : runs cal 195 75 [v0, v1, v2, v3] [vI x0, vR 71, vI x2, vI x3] I = if 0 ≤ x0 ∧ x0 < 110 then runs cal 195 76 [v0, v1, v2, v3] [vI (I 71 x0), vI x2, vI x3] I else none := st_iald (ins_of mI_195 (by rfl)) cT_71 (wdc wid_195 wd_71)
theorem r195_76 : runs cal 195 76 [v0, v1, v2, v3] [vI x0, vI x1, vI x2] I = runs cal 195 77 [v0, v1, v2, v3] [vI (imul x1 x0), vI x2] I := runs_to (ins_of mI_195 (by rfl)) rfl rfl
theorem r195_77 : runs cal 195 77 [v0, v1, v2, v3] [vI x0, vI x1] I = runs cal 195 78 [v0, v1, v2, v3] [vI (iadd x1 x0)] I := runs_to (ins_of mI_195 (by rfl)) rfl rfl
theorem r195_78 : runs cal 195 78 [v0, vI u, v2, v3] [vI x0] I = runs cal 195 79 [v0, vI u, vI x0, v3] [] I := runs_to (ins_of mI_195 (by rfl)) rfl rfl
theorem r195_79 : runs cal 195 79 [v0, v1, v2, v3] [] I = runs cal 195 80 [v0, v1, v2, v3] [vI (0)] I := runs_to (ins_of mI_195 (by rfl)) rfl rfl
theorem r195_80 : runs cal 195 80 [v0, v1, vI u, v3] [vI x0] I = runs cal 195 81 [v0, v1, vI u, vI x0] [] I := runs_to (ins_of mI_195 (by rfl)) rfl rfl
theorem r195_81 : runs cal 195 81 [v0, v1, v2, vI w] [] I = runs cal 195 82 [v0, v1, v2, vI w] [vI w] I := runs_to (ins_of mI_195 (by rfl)) rfl rfl
theorem r195_82 : runs cal 195 82 [v0, v1, v2, v3] [vI x0] I = runs cal 195 83 [v0, v1, v2, v3] [vI (3), vI x0] I := runs_to (ins_of mI_195 (by rfl)) rfl rfl
theorem r195_83 : runs cal 195 83 [v0, v1, v2, v3] [vI x0, vI x1] I = if x1 < x0 then runs cal 195 86 [v0, v1, v2, v3] [] I else runs cal 195 113 [v0, v1, v2, v3] [] I := st_cmp_ge (ins_of mI_195 (by rfl)) (by decide)
theorem r195_86 : runs cal 195 86 [vR 70, v1, v2, v3] [] I = runs cal 195 87 [vR 70, v1, v2, v3] [vR 70] I := runs_to (ins_of mI_195 (by rfl)) rfl rfl
theorem r195_87 : runs cal 195 87 [v0, v1, v2, v3] [vR 70] I = runs cal 195 90 [v0, v1, v2, v3] [vR 71] I := st_getR (ins_of mI_195 (by rfl)) mC_195 (by decide) fr_11_7 cT_70 (wdc wid_195 wd_70) rfl rfl
theorem r195_90 : runs cal 195 90 [v0, v1, vI w, v3] [vR 71] I = runs cal 195 91 [v0, v1, vI w, v3] [vI w, vR 71] I := runs_to (ins_of mI_195 (by rfl)) rfl rfl
theorem r195_91 : runs cal 195 91 [v0, v1, v2, vI w] [vI x0, vR 71] I = runs cal 195 92 [v0, v1, v2, vI w] [vI w, vI x0, vR 71] I := runs_to (ins_of mI_195 (by rfl)) rfl rfl
theorem r195_92 : runs cal 195 92 [v0, v1, v2, v3] [vI x0, vI x1, vR 71] I = runs cal 195 93 [v0, v1, v2, v3] [vI (iadd x1 x0), vR 71] I := runs_to (ins_of mI_195 (by rfl)) rfl rfl
theorem r195_93 : runs cal 195 93 [vR 70, v1, v2, v3] [vI x0, vR 71] I = runs cal 195 94 [vR 70, v1, v2, v3] [vR 70, vI x0, vR 71] I := runs_to (ins_of mI_195 (by rfl)) rfl rfl
theorem r195_94 : runs cal 195 94 [v0, v1, v2, v3] [vR 70, vI x1, vR 71] I = runs cal 195 97 [v0, v1, v2, v3] [vR 71, vI x1, vR 71] I := st_getR (ins_of mI_195 (by rfl)) mC_195 (by decide) fr_11_7 cT_70 (wdc wid_195 wd_70) rfl rfl
theorem r195_97 : runs cal 195 97 [v0, v1, v2, v3] [vR 71, vI x1, vR 71] I = runs cal 195 99 [v0, v1, v2, v3] [vI (9), vR 71, vI x1, vR 71] I := runs_to (ins_of mI_195 (by rfl)) rfl rfl
theorem r195_99 : runs cal 195 99 [v0, v1, v2, v3] [vI x0, vR 71, vI x2, vR 71] I = runs cal 195 100 [v0, v1, v2, v3] [vI (3), vI x0, vR 71, vI x2, vR 71] I := runs_to (ins_of mI_195 (by rfl)) rfl rfl
theorem r195_100 : runs cal 195 100 [v0, v1, v2, vI w] [vI x0, vI x1, vR 71, vI x3, vR 71] I = runs cal 195 101 [v0, v1, v2, vI w] [vI w, vI x0, vI x1, vR 71, vI x3, vR 71] I := runs_to (ins_of mI_195 (by rfl)) rfl rfl
theorem r195_101 : runs cal 195 101 [v0, v1, v2, v3] [vI x0, vI x1, vI x2, vR 71, vI x4, vR 71] I = runs cal 195 102 [v0, v1, v2, v3] [vI (imul x1 x0), vI x2, vR 71, vI x4, vR 71] I := runs_to (ins_of mI_195 (by rfl)) rfl rfl
theorem r195_102 : runs cal 195 102 [v0, v1, v2, v3] [vI x0, vI x1, vR 71, vI x3, vR 71] I = runs cal 195 103 [v0, v1, v2, v3] [vI (iadd x1 x0), vR 71, vI x3, vR 71] I := runs_to (ins_of mI_195 (by rfl)) rfl rfl
theorem r195_103 : runs cal 195 103 [v0, v1, v2, v3] [vI x0, vR 71, vI x2, vR 71] I = runs cal 195 104 [v0, v1, v2, v3] [vI (1), vI x0, vR 71, vI x2, vR 71] I := runs_to (ins_of mI_195 (by rfl)) rfl rfl
theorem r195_104 : runs cal 195 104 [v0, v1, v2, v3] [vI x0, vI x1, vR 71, vI x3, vR 71] I = runs cal 195 105 [v0, v1, v2, v3] [vI (iadd x1 x0), vR 71, vI x3, vR 71] I := runs_to (ins_of mI_195 (by rfl)) rfl rfl
theorem r195_105 : runs cal 195 105 [v0, v1, v2, v3] [vI x0, vR 71, vI x2, vR 71] I = if 0 ≤ x0 ∧ x0 < 110 then runs cal 195 106 [v0, v1, v2, v3] [vI (I 71 x0), vI x2, vR 71] I else none := st_iald (ins_of mI_195 (by rfl)) cT_71 (wdc wid_195 wd_71)
theorem r195_106 : runs cal 195 106 [v0, v1, v2, v3] [vI x0, vI x1, vR 71] I = if 0 ≤ x1 ∧ x1 < 110 then runs cal 195 107 [v0, v1, v2, v3] [] (mset I 71 x1 x0) else none := st_iast (ins_of mI_195 (by rfl)) cT_71 (wdc wid_195 wd_71)
theorem r195_107 : runs cal 195 107 [v0, v1, vI u, vI w] [] I = runs cal 195 110 [v0, v1, vI u, vI (iadd w (1))] [] I := runs_to (ins_of mI_195 (by rfl)) rfl rfl
theorem r195_110 : runs cal 195 110 [v0, v1, v2, v3] [] I = runs cal 195 81 [v0, v1, v2, v3] [] I := st_goto (ins_of mI_195 (by rfl)) (by decide)
theorem r195_113 : runs cal 195 113 [v0, v1, v2, v3] [] I = runs cal 195 114 [v0, v1, v2, v3] [vI (0)] I := runs_to (ins_of mI_195 (by rfl)) rfl rfl
theorem r195_114 : runs cal 195 114 [v0, v1, vI u, v3] [vI x0] I = runs cal 195 115 [v0, v1, vI u, vI x0] [] I := runs_to (ins_of mI_195 (by rfl)) rfl rfl
theorem r195_115 : runs cal 195 115 [v0, v1, v2, vI w] [] I = runs cal 195 116 [v0, v1, v2, vI w] [vI w] I := runs_to (ins_of mI_195 (by rfl)) rfl rfl
theorem r195_116 : runs cal 195 116 [v0, v1, v2, v3] [vI x0] I = runs cal 195 117 [v0, v1, v2, v3] [vI (2), vI x0] I := runs_to (ins_of mI_195 (by rfl)) rfl rfl
theorem r195_117 : runs cal 195 117 [v0, v1, v2, v3] [vI x0, vI x1] I = if x1 < x0 then runs cal 195 120 [v0, v1, v2, v3] [] I else runs cal 195 149 [v0, v1, v2, v3] [] I := st_cmp_ge (ins_of mI_195 (by rfl)) (by decide)
theorem r195_120 : runs cal 195 120 [vR 70, v1, v2, v3] [] I = runs cal 195 121 [vR 70, v1, v2, v3] [vR 70] I := runs_to (ins_of mI_195 (by rfl)) rfl rfl
theorem r195_121 : runs cal 195 121 [v0, v1, v2, v3] [vR 70] I = runs cal 195 124 [v0, v1, v2, v3] [vR 71] I := st_getR (ins_of mI_195 (by rfl)) mC_195 (by decide) fr_11_7 cT_70 (wdc wid_195 wd_70) rfl rfl
theorem r195_124 : runs cal 195 124 [v0, v1, vI w, v3] [vR 71] I = runs cal 195 125 [v0, v1, vI w, v3] [vI w, vR 71] I := runs_to (ins_of mI_195 (by rfl)) rfl rfl
theorem r195_125 : runs cal 195 125 [v0, v1, v2, v3] [vI x0, vR 71] I = runs cal 195 126 [v0, v1, v2, v3] [vI (3), vI x0, vR 71] I := runs_to (ins_of mI_195 (by rfl)) rfl rfl
theorem r195_126 : runs cal 195 126 [v0, v1, v2, v3] [vI x0, vI x1, vR 71] I = runs cal 195 127 [v0, v1, v2, v3] [vI (iadd x1 x0), vR 71] I := runs_to (ins_of mI_195 (by rfl)) rfl rfl
theorem r195_127 : runs cal 195 127 [v0, v1, v2, vI w] [vI x0, vR 71] I = runs cal 195 128 [v0, v1, v2, vI w] [vI w, vI x0, vR 71] I := runs_to (ins_of mI_195 (by rfl)) rfl rfl
theorem r195_128 : runs cal 195 128 [v0, v1, v2, v3] [vI x0, vI x1, vR 71] I = runs cal 195 129 [v0, v1, v2, v3] [vI (iadd x1 x0), vR 71] I := runs_to (ins_of mI_195 (by rfl)) rfl rfl
theorem r195_129 : runs cal 195 129 [vR 70, v1, v2, v3] [vI x0, vR 71] I = runs cal 195 130 [vR 70, v1, v2, v3] [vR 70, vI x0, vR 71] I := runs_to (ins_of mI_195 (by rfl)) rfl rfl
theorem r195_130 : runs cal 195 130 [v0, v1, v2, v3] [vR 70, vI x1, vR 71] I = runs cal 195 133 [v0, v1, v2, v3] [vR 71, vI x1, vR 71] I := st_getR (ins_of mI_195 (by rfl)) mC_195 (by decide) fr_11_7 cT_70 (wdc wid_195 wd_70) rfl rfl
theorem r195_133 : runs cal 195 133 [v0, v1, v2, v3] [vR 71, vI x1, vR 71] I = runs cal 195 135 [v0, v1, v2, v3] [vI (18), vR 71, vI x1, vR 71] I := runs_to (ins_of mI_195 (by rfl)) rfl rfl
theorem r195_135 : runs cal 195 135 [v0, v1, v2, v3] [vI x0, vR 71, vI x2, vR 71] I = runs cal 195 136 [v0, v1, v2, v3] [vI (4), vI x0, vR 71, vI x2, vR 71] I := runs_to (ins_of mI_195 (by rfl)) rfl rfl
theorem r195_136 : runs cal 195 136 [v0, v1, v2, vI w] [vI x0, vI x1, vR 71, vI x3, vR 71] I = runs cal 195 137 [v0, v1, v2, vI w] [vI w, vI x0, vI x1, vR 71, vI x3, vR 71] I := runs_to (ins_of mI_195 (by rfl)) rfl rfl
theorem r195_137 : runs cal 195 137 [v0, v1, v2, v3] [vI x0, vI x1, vI x2, vR 71, vI x4, vR 71] I = runs cal 195 138 [v0, v1, v2, v3] [vI (imul x1 x0), vI x2, vR 71, vI x4, vR 71] I := runs_to (ins_of mI_195 (by rfl)) rfl rfl
theorem r195_138 : runs cal 195 138 [v0, v1, v2, v3] [vI x0, vI x1, vR 71, vI x3, vR 71] I = runs cal 195 139 [v0, v1, v2, v3] [vI (iadd x1 x0), vR 71, vI x3, vR 71] I := runs_to (ins_of mI_195 (by rfl)) rfl rfl
theorem r195_139 : runs cal 195 139 [v0, v1, v2, v3] [vI x0, vR 71, vI x2, vR 71] I = runs cal 195 140 [v0, v1, v2, v3] [vI (3), vI x0, vR 71, vI x2, vR 71] I := runs_to (ins_of mI_195 (by rfl)) rfl rfl
theorem r195_140 : runs cal 195 140 [v0, v1, v2, v3] [vI x0, vI x1, vR 71, vI x3, vR 71] I = runs cal 195 141 [v0, v1, v2, v3] [vI (iadd x1 x0), vR 71, vI x3, vR 71] I := runs_to (ins_of mI_195 (by rfl)) rfl rfl
theorem r195_141 : runs cal 195 141 [v0, v1, v2, v3] [vI x0, vR 71, vI x2, vR 71] I = if 0 ≤ x0 ∧ x0 < 110 then runs cal 195 142 [v0, v1, v2, v3] [vI (I 71 x0), vI x2, vR 71] I else none := st_iald (ins_of mI_195 (by rfl)) cT_71 (wdc wid_195 wd_71)
theorem r195_142 : runs cal 195 142 [v0, v1, v2, v3] [vI x0, vI x1, vR 71] I = if 0 ≤ x1 ∧ x1 < 110 then runs cal 195 143 [v0, v1, v2, v3] [] (mset I 71 x1 x0) else none := st_iast (ins_of mI_195 (by rfl)) cT_71 (wdc wid_195 wd_71)
theorem r195_143 : runs cal 195 143 [v0, v1, vI u, vI w] [] I = runs cal 195 146 [v0, v1, vI u, vI (iadd w (1))] [] I := runs_to (ins_of mI_195 (by rfl)) rfl rfl
theorem r195_146 : runs cal 195 146 [v0, v1, v2, v3] [] I = runs cal 195 115 [v0, v1, v2, v3] [] I := st_goto (ins_of mI_195 (by rfl)) (by decide)
theorem r195_149 : runs cal 195 149 [vR 70, v1, v2, v3] [] I = runs cal 195 150 [vR 70, v1, v2, v3] [vR 70] I := runs_to (ins_of mI_195 (by rfl)) rfl rfl
theorem r195_150 : runs cal 195 150 [v0, v1, v2, v3] [vR 70] I = runs cal 195 153 [v0, v1, v2, v3] [vR 71] I := st_getR (ins_of mI_195 (by rfl)) mC_195 (by decide) fr_11_7 cT_70 (wdc wid_195 wd_70) rfl rfl
theorem r195_153 : runs cal 195 153 [v0, v1, v2, v3] [vR 71] I = runs cal 195 155 [v0, v1, v2, v3] [vI (69), vR 71] I := runs_to (ins_of mI_195 (by rfl)) rfl rfl
theorem r195_155 : runs cal 195 155 [v0, v1, v2, v3] [vI x0, vR 71] I = runs cal 195 156 [v0, v1, v2, v3] [vI x0, vR 71, vI x0, vR 71] I := runs_to (ins_of mI_195 (by rfl)) rfl rfl
theorem r195_156 : runs cal 195 156 [v0, v1, v2, v3] [vI x0, vR 71, vI x2, vR 71] I = if 0 ≤ x0 ∧ x0 < 110 then runs cal 195 157 [v0, v1, v2, v3] [vI (I 71 x0), vI x2, vR 71] I else none := st_iald (ins_of mI_195 (by rfl)) cT_71 (wdc wid_195 wd_71)
theorem r195_157 : runs cal 195 157 [v0, v1, v2, v3] [vI x0, vI x1, vR 71] I = runs cal 195 158 [v0, v1, v2, v3] [vI (1), vI x0, vI x1, vR 71] I := runs_to (ins_of mI_195 (by rfl)) rfl rfl
theorem r195_158 : runs cal 195 158 [v0, v1, v2, v3] [vI x0, vI x1, vI x2, vR 71] I = runs cal 195 159 [v0, v1, v2, v3] [vI (iadd x1 x0), vI x2, vR 71] I := runs_to (ins_of mI_195 (by rfl)) rfl rfl
theorem r195_159 : runs cal 195 159 [v0, v1, v2, v3] [vI x0, vI x1, vR 71] I = if 0 ≤ x1 ∧ x1 < 110 then runs cal 195 160 [v0, v1, v2, v3] [] (mset I 71 x1 x0) else none := st_iast (ins_of mI_195 (by rfl)) cT_71 (wdc wid_195 wd_71)
theorem r195_160 : runs cal 195 160 [vR 70, v1, v2, v3] [] I = runs cal 195 161 [vR 70, v1, v2, v3] [vR 70] I := runs_to (ins_of mI_195 (by rfl)) rfl rfl
theorem r195_161 : runs cal 195 161 [v0, v1, v2, v3] [vR 70] I = (cal 165 [vR 70] I).bind (fun q => runs cal 195 164 [v0, v1, v2, v3] (pushR q.1 []) q.2) := st_call (st := false) (ins_of mI_195 (by rfl)) mC_195 mr_11_245 (by decide) mS_165 mN_165 rfl (Nat.le_of_ble_eq_true rfl) rfl rfl (Or.inr ⟨_, _, rfl, rcv mC_165 rfl wid_195 (by decide +kernel)⟩) (Or.inl (wid_195.trans wid_165.symm))
theorem r195_164 : runs cal 195 164 [v0, v1, v2, v3] [] I = runs cal 195 165 [v0, v1, v2, v3] [vI (1)] I := runs_to (ins_of mI_195 (by rfl)) rfl rfl
theorem r195_165 : runs cal 195 165 [v0, v1, v2, v3] [vI x0] I = some (some (vI x0), I) := st_ret (q := some (vI x0)) (k := 0) (ins_of mI_195 (by rfl)) rfl (by decide) mR_195 rfl trivial
theorem r196_0 : runs cal 196 0 [vR 70, v1, v2] [] I = runs cal 196 1 [vR 70, v1, v2] [vR 70] I := runs_to (ins_of mI_196 (by rfl)) rfl rfl
theorem r196_1 : runs cal 196 1 [v0, v1, v2] [vR 70] I = runs cal 196 4 [v0, v1, v2] [vR 71] I := st_getR (ins_of mI_196 (by rfl)) mC_196 (by decide) fr_11_7 cT_70 (wdc wid_196 wd_70) rfl rfl
theorem r196_4 : runs cal 196 4 [v0, v1, v2] [vR 71] I = runs cal 196 6 [v0, v1, v2] [vI (69), vR 71] I := runs_to (ins_of mI_196 (by rfl)) rfl rfl
theorem r196_6 : runs cal 196 6 [v0, v1, v2] [vI x0, vR 71] I = if 0 ≤ x0 ∧ x0 < 110 then runs cal 196 7 [v0, v1, v2] [vI (I 71 x0)] I else none := st_iald (ins_of mI_196 (by rfl)) cT_71 (wdc wid_196 wd_71)
theorem r196_7 : runs cal 196 7 [v0, v1, v2] [vI x0] I = if x0 = 0 then runs cal 196 10 [v0, v1, v2] [] I else runs cal 196 15 [v0, v1, v2] [] I := st_if_ne (ins_of mI_196 (by rfl)) (by decide)
theorem r196_10 : runs cal 196 10 [vR 70, v1, v2] [] I = runs cal 196 11 [vR 70, v1, v2] [vR 70] I := runs_to (ins_of mI_196 (by rfl)) rfl rfl
theorem r196_11 : runs cal 196 11 [v0, v1, v2] [vR 70] I = (cal 144 [vR 70] I).bind (fun q => runs cal 196 14 [v0, v1, v2] (pushR q.1 []) q.2) := st_call (st := false) (ins_of mI_196 (by rfl)) mC_196 mr_11_242 (by decide) mS_144 mN_144 rfl (Nat.le_of_ble_eq_true rfl) rfl rfl (Or.inr ⟨_, _, rfl, rcv mC_144 rfl wid_196 (by decide +kernel)⟩) (Or.inl (wid_196.trans wid_144.symm))
theorem r196_14 : runs cal 196 14 [v0, v1, v2] [vI x0] I = some (some (vI x0), I) := st_ret (q := some (vI x0)) (k := 0) (ins_of mI_196 (by rfl)) rfl (by decide) mR_196 rfl trivial
theorem r196_15 : runs cal 196 15 [vR 70, v1, v2] [] I = runs cal 196 16 [vR 70, v1, v2] [vR 70] I := runs_to (ins_of mI_196 (by rfl)) rfl rfl
theorem r196_16 : runs cal 196 16 [v0, v1, v2] [vR 70] I = runs cal 196 19 [v0, v1, v2] [vR 71] I := st_getR (ins_of mI_196 (by rfl)) mC_196 (by decide) fr_11_7 cT_70 (wdc wid_196 wd_70) rfl rfl
theorem r196_19 : runs cal 196 19 [v0, v1, v2] [vR 71] I = runs cal 196 21 [v0, v1, v2] [vI (69), vR 71] I := runs_to (ins_of mI_196 (by rfl)) rfl rfl
theorem r196_21 : runs cal 196 21 [v0, v1, v2] [vI x0, vR 71] I = runs cal 196 22 [v0, v1, v2] [vI x0, vR 71, vI x0, vR 71] I := runs_to (ins_of mI_196 (by rfl)) rfl rfl
theorem r196_22 : runs cal 196 22 [v0, v1, v2] [vI x0, vR 71, vI x2, vR 71] I = if 0 ≤ x0 ∧ x0 < 110 then runs cal 196 23 [v0, v1, v2] [vI (I 71 x0), vI x2, vR 71] I else none := st_iald (ins_of mI_196 (by rfl)) cT_71 (wdc wid_196 wd_71)
theorem r196_23 : runs cal 196 23 [v0, v1, v2] [vI x0, vI x1, vR 71] I = runs cal 196 24 [v0, v1, v2] [vI (1), vI x0, vI x1, vR 71] I := runs_to (ins_of mI_196 (by rfl)) rfl rfl
theorem r196_24 : runs cal 196 24 [v0, v1, v2] [vI x0, vI x1, vI x2, vR 71] I = runs cal 196 25 [v0, v1, v2] [vI (isub x1 x0), vI x2, vR 71] I := runs_to (ins_of mI_196 (by rfl)) rfl rfl
theorem r196_25 : runs cal 196 25 [v0, v1, v2] [vI x0, vI x1, vR 71] I = if 0 ≤ x1 ∧ x1 < 110 then runs cal 196 26 [v0, v1, v2] [] (mset I 71 x1 x0) else none := st_iast (ins_of mI_196 (by rfl)) cT_71 (wdc wid_196 wd_71)
theorem r196_26 : runs cal 196 26 [v0, v1, v2] [] I = runs cal 196 28 [v0, v1, v2] [vI (70)] I := runs_to (ins_of mI_196 (by rfl)) rfl rfl
theorem r196_28 : runs cal 196 28 [v0, v1, v2] [vI x0] I = runs cal 196 29 [v0, v1, v2] [vI (5), vI x0] I := runs_to (ins_of mI_196 (by rfl)) rfl rfl
theorem r196_29 : runs cal 196 29 [vR 70, v1, v2] [vI x0, vI x1] I = runs cal 196 30 [vR 70, v1, v2] [vR 70, vI x0, vI x1] I := runs_to (ins_of mI_196 (by rfl)) rfl rfl
theorem r196_30 : runs cal 196 30 [v0, v1, v2] [vR 70, vI x1, vI x2] I = runs cal 196 33 [v0, v1, v2] [vR 71, vI x1, vI x2] I := st_getR (ins_of mI_196 (by rfl)) mC_196 (by decide) fr_11_7 cT_70 (wdc wid_196 wd_70) rfl rfl
theorem r196_33 : runs cal 196 33 [v0, v1, v2] [vR 71, vI x1, vI x2] I = runs cal 196 35 [v0, v1, v2] [vI (69), vR 71, vI x1, vI x2] I := runs_to (ins_of mI_196 (by rfl)) rfl rfl
theorem r196_35 : runs cal 196 35 [v0, v1, v2] [vI x0, vR 71, vI x2, vI x3] I = if 0 ≤ x0 ∧ x0 < 110 then runs cal 196 36 [v0, v1, v2] [vI (I 71 x0), vI x2, vI x3] I else none := st_iald (ins_of mI_196 (by rfl)) cT_71 (wdc wid_196 wd_71)
theorem r196_36 : runs cal 196 36 [v0, v1, v2] [vI x0, vI x1, vI x2] I = runs cal 196 37 [v0, v1, v2] [vI (imul x1 x0), vI x2] I := runs_to (ins_of mI_196 (by rfl)) rfl rfl
theorem r196_37 : runs cal 196 37 [v0, v1, v2] [vI x0, vI x1] I = runs cal 196 38 [v0, v1, v2] [vI (iadd x1 x0)] I := runs_to (ins_of mI_196 (by rfl)) rfl rfl
theorem r196_38 : runs cal 196 38 [vR b0, v1, v2] [vI x0] I = runs cal 196 39 [vR b0, vI x0, v2] [] I := runs_to (ins_of mI_196 (by rfl)) rfl rfl
theorem r196_39 : runs cal 196 39 [v0, v1, v2] [] I = runs cal 196 40 [v0, v1, v2] [vI (0)] I := runs_to (ins_of mI_196 (by rfl)) rfl rfl
theorem r196_40 : runs cal 196 40 [v0, vI u, v2] [vI x0] I = runs cal 196 41 [v0, vI u, vI x0] [] I := runs_to (ins_of mI_196 (by rfl)) rfl rfl
theorem r196_41 : runs cal 196 41 [v0, v1, vI w] [] I = runs cal 196 42 [v0, v1, vI w] [vI w] I := runs_to (ins_of mI_196 (by rfl)) rfl rfl
theorem r196_42 : runs cal 196 42 [vR 70, v1, v2] [vI x0] I = runs cal 196 43 [vR 70, v1, v2] [vR 70, vI x0] I := runs_to (ins_of mI_196 (by rfl)) rfl rfl
theorem r196_43 : runs cal 196 43 [v0, v1, v2] [vR 70, vI x1] I = (cal 159 [vR 70] I).bind (fun q => runs cal 196 46 [v0, v1, v2] (pushR q.1 [vI x1]) q.2) := st_call (st := false) (ins_of mI_196 (by rfl)) mC_196 mr_11_117 (by decide) mS_159 mN_159 rfl (Nat.le_of_ble_eq_true rfl) rfl rfl (Or.inr ⟨_, _, rfl, rcv mC_159 rfl wid_196 (by decide +kernel)⟩) (Or.inl (wid_196.trans wid_159.symm))
theorem r196_46 : runs cal 196 46 [v0, v1, v2] [vI x0, vI x1] I = if x1 < x0 then runs cal 196 49 [v0, v1, v2] [] I else runs cal 196 76 [v0, v1, v2] [] I := st_cmp_ge (ins_of mI_196 (by rfl)) (by decide)
theorem r196_49 : runs cal 196 49 [vR 70, v1, v2] [] I = runs cal 196 50 [vR 70, v1, v2] [vR 70] I := runs_to (ins_of mI_196 (by rfl)) rfl rfl
theorem r196_50 : runs cal 196 50 [v0, v1, v2] [vR 70] I = runs cal 196 53 [v0, v1, v2] [vR 71] I := st_getR (ins_of mI_196 (by rfl)) mC_196 (by decide) fr_11_7 cT_70 (wdc wid_196 wd_70) rfl rfl
theorem r196_53 : runs cal 196 53 [v0, v1, v2] [vR 71] I = runs cal 196 55 [v0, v1, v2] [vI (9), vR 71] I := runs_to (ins_of mI_196 (by rfl)) rfl rfl
theorem r196_55 : runs cal 196 55 [v0, v1, v2] [vI x0, vR 71] I = runs cal 196 56 [v0, v1, v2] [vI (3), vI x0, vR 71] I := runs_to (ins_of mI_196 (by rfl)) rfl rfl
theorem r196_56 : runs cal 196 56 [v0, v1, vI w] [vI x0, vI x1, vR 71] I = runs cal 196 57 [v0, v1, vI w] [vI w, vI x0, vI x1, vR 71] I := runs_to (ins_of mI_196 (by rfl)) rfl rfl
theorem r196_57 : runs cal 196 57 [v0, v1, v2] [vI x0, vI x1, vI x2, vR 71] I = runs cal 196 58 [v0, v1, v2] [vI (imul x1 x0), vI x2, vR 71] I := runs_to (ins_of mI_196 (by rfl)) rfl rfl
theorem r196_58 : runs cal 196 58 [v0, v1, v2] [vI x0, vI x1, vR 71] I = runs cal 196 59 [v0, v1, v2] [vI (iadd x1 x0), vR 71] I := runs_to (ins_of mI_196 (by rfl)) rfl rfl
theorem r196_59 : runs cal 196 59 [v0, v1, v2] [vI x0, vR 71] I = runs cal 196 60 [v0, v1, v2] [vI (1), vI x0, vR 71] I := runs_to (ins_of mI_196 (by rfl)) rfl rfl
theorem r196_60 : runs cal 196 60 [v0, v1, v2] [vI x0, vI x1, vR 71] I = runs cal 196 61 [v0, v1, v2] [vI (iadd x1 x0), vR 71] I := runs_to (ins_of mI_196 (by rfl)) rfl rfl
theorem r196_61 : runs cal 196 61 [vR 70, v1, v2] [vI x0, vR 71] I = runs cal 196 62 [vR 70, v1, v2] [vR 70, vI x0, vR 71] I := runs_to (ins_of mI_196 (by rfl)) rfl rfl
theorem r196_62 : runs cal 196 62 [v0, v1, v2] [vR 70, vI x1, vR 71] I = runs cal 196 65 [v0, v1, v2] [vR 71, vI x1, vR 71] I := st_getR (ins_of mI_196 (by rfl)) mC_196 (by decide) fr_11_7 cT_70 (wdc wid_196 wd_70) rfl rfl
theorem r196_65 : runs cal 196 65 [v0, vI w, v2] [vR 71, vI x1, vR 71] I = runs cal 196 66 [v0, vI w, v2] [vI w, vR 71, vI x1, vR 71] I := runs_to (ins_of mI_196 (by rfl)) rfl rfl
theorem r196_66 : runs cal 196 66 [v0, v1, vI w] [vI x0, vR 71, vI x2, vR 71] I = runs cal 196 67 [v0, v1, vI w] [vI w, vI x0, vR 71, vI x2, vR 71] I := runs_to (ins_of mI_196 (by rfl)) rfl rfl
theorem r196_67 : runs cal 196 67 [v0, v1, v2] [vI x0, vI x1, vR 71, vI x3, vR 71] I = runs cal 196 68 [v0, v1, v2] [vI (iadd x1 x0), vR 71, vI x3, vR 71] I := runs_to (ins_of mI_196 (by rfl)) rfl rfl
theorem r196_68 : runs cal 196 68 [v0, v1, v2] [vI x0, vR 71, vI x2, vR 71] I = if 0 ≤ x0 ∧ x0 < 110 then runs cal 196 69 [v0, v1, v2] [vI (I 71 x0), vI x2, vR 71] I else none := st_iald (ins_of mI_196 (by rfl)) cT_71 (wdc wid_196 wd_71)
theorem r196_69 : runs cal 196 69 [v0, v1, v2] [vI x0, vI x1, vR 71] I = if 0 ≤ x1 ∧ x1 < 110 then runs cal 196 70 [v0, v1, v2] [] (mset I 71 x1 x0) else none := st_iast (ins_of mI_196 (by rfl)) cT_71 (wdc wid_196 wd_71)
theorem r196_70 : runs cal 196 70 [v0, vI u, vI w] [] I = runs cal 196 73 [v0, vI u, vI (iadd w (1))] [] I := runs_to (ins_of mI_196 (by rfl)) rfl rfl
theorem r196_73 : runs cal 196 73 [v0, v1, v2] [] I = runs cal 196 41 [v0, v1, v2] [] I := st_goto (ins_of mI_196 (by rfl)) (by decide)
theorem r196_76 : runs cal 196 76 [v0, v1, v2] [] I = runs cal 196 77 [v0, v1, v2] [vI (0)] I := runs_to (ins_of mI_196 (by rfl)) rfl rfl
theorem r196_77 : runs cal 196 77 [v0, vI u, v2] [vI x0] I = runs cal 196 78 [v0, vI u, vI x0] [] I := runs_to (ins_of mI_196 (by rfl)) rfl rfl
theorem r196_78 : runs cal 196 78 [v0, v1, vI w] [] I = runs cal 196 79 [v0, v1, vI w] [vI w] I := runs_to (ins_of mI_196 (by rfl)) rfl rfl
theorem r196_79 : runs cal 196 79 [vR 70, v1, v2] [vI x0] I = runs cal 196 80 [vR 70, v1, v2] [vR 70, vI x0] I := runs_to (ins_of mI_196 (by rfl)) rfl rfl
theorem r196_80 : runs cal 196 80 [v0, v1, v2] [vR 70, vI x1] I = (cal 160 [vR 70] I).bind (fun q => runs cal 196 83 [v0, v1, v2] (pushR q.1 [vI x1]) q.2) := st_call (st := false) (ins_of mI_196 (by rfl)) mC_196 mr_11_125 (by decide) mS_160 mN_160 rfl (Nat.le_of_ble_eq_true rfl) rfl rfl (Or.inr ⟨_, _, rfl, rcv mC_160 rfl wid_196 (by decide +kernel)⟩) (Or.inl (wid_196.trans wid_160.symm))
theorem r196_83 : runs cal 196 83 [v0, v1, v2] [vI x0, vI x1] I = if x1 < x0 then runs cal 196 86 [v0, v1, v2] [] I else runs cal 196 115 [v0, v1, v2] [] I := st_cmp_ge (ins_of mI_196 (by rfl)) (by decide)
theorem r196_86 : runs cal 196 86 [vR 70, v1, v2] [] I = runs cal 196 87 [vR 70, v1, v2] [vR 70] I := runs_to (ins_of mI_196 (by rfl)) rfl rfl
theorem r196_87 : runs cal 196 87 [v0, v1, v2] [vR 70] I = runs cal 196 90 [v0, v1, v2] [vR 71] I := st_getR (ins_of mI_196 (by rfl)) mC_196 (by decide) fr_11_7 cT_70 (wdc wid_196 wd_70) rfl rfl
theorem r196_90 : runs cal 196 90 [v0, v1, v2] [vR 71] I = runs cal 196 92 [v0, v1, v2] [vI (18), vR 71] I := runs_to (ins_of mI_196 (by rfl)) rfl rfl
theorem r196_92 : runs cal 196 92 [v0, v1, v2] [vI x0, vR 71] I = runs cal 196 93 [v0, v1, v2] [vI (4), vI x0, vR 71] I := runs_to (ins_of mI_196 (by rfl)) rfl rfl
theorem r196_93 : runs cal 196 93 [v0, v1, vI w] [vI x0, vI x1, vR 71] I = runs cal 196 94 [v0, v1, vI w] [vI w, vI x0, vI x1, vR 71] I := runs_to (ins_of mI_196 (by rfl)) rfl rfl
theorem r196_94 : runs cal 196 94 [v0, v1, v2] [vI x0, vI x1, vI x2, vR 71] I = runs cal 196 95 [v0, v1, v2] [vI (imul x1 x0), vI x2, vR 71] I := runs_to (ins_of mI_196 (by rfl)) rfl rfl
theorem r196_95 : runs cal 196 95 [v0, v1, v2] [vI x0, vI x1, vR 71] I = runs cal 196 96 [v0, v1, v2] [vI (iadd x1 x0), vR 71] I := runs_to (ins_of mI_196 (by rfl)) rfl rfl
theorem r196_96 : runs cal 196 96 [v0, v1, v2] [vI x0, vR 71] I = runs cal 196 97 [v0, v1, v2] [vI (3), vI x0, vR 71] I := runs_to (ins_of mI_196 (by rfl)) rfl rfl
theorem r196_97 : runs cal 196 97 [v0, v1, v2] [vI x0, vI x1, vR 71] I = runs cal 196 98 [v0, v1, v2] [vI (iadd x1 x0), vR 71] I := runs_to (ins_of mI_196 (by rfl)) rfl rfl
theorem r196_98 : runs cal 196 98 [vR 70, v1, v2] [vI x0, vR 71] I = runs cal 196 99 [vR 70, v1, v2] [vR 70, vI x0, vR 71] I := runs_to (ins_of mI_196 (by rfl)) rfl rfl
theorem r196_99 : runs cal 196 99 [v0, v1, v2] [vR 70, vI x1, vR 71] I = runs cal 196 102 [v0, v1, v2] [vR 71, vI x1, vR 71] I := st_getR (ins_of mI_196 (by rfl)) mC_196 (by decide) fr_11_7 cT_70 (wdc wid_196 wd_70) rfl rfl
theorem r196_102 : runs cal 196 102 [v0, vI w, v2] [vR 71, vI x1, vR 71] I = runs cal 196 103 [v0, vI w, v2] [vI w, vR 71, vI x1, vR 71] I := runs_to (ins_of mI_196 (by rfl)) rfl rfl
theorem r196_103 : runs cal 196 103 [v0, v1, v2] [vI x0, vR 71, vI x2, vR 71] I = runs cal 196 104 [v0, v1, v2] [vI (3), vI x0, vR 71, vI x2, vR 71] I := runs_to (ins_of mI_196 (by rfl)) rfl rfl
theorem r196_104 : runs cal 196 104 [v0, v1, v2] [vI x0, vI x1, vR 71, vI x3, vR 71] I = runs cal 196 105 [v0, v1, v2] [vI (iadd x1 x0), vR 71, vI x3, vR 71] I := runs_to (ins_of mI_196 (by rfl)) rfl rfl
theorem r196_105 : runs cal 196 105 [v0, v1, vI w] [vI x0, vR 71, vI x2, vR 71] I = runs cal 196 106 [v0, v1, vI w] [vI w, vI x0, vR 71, vI x2, vR 71] I := runs_to (ins_of mI_196 (by rfl)) rfl rfl
theorem r196_106 : runs cal 196 106 [v0, v1, v2] [vI x0, vI x1, vR 71, vI x3, vR 71] I = runs cal 196 107 [v0, v1, v2] [vI (iadd x1 x0), vR 71, vI x3, vR 71] I := runs_to (ins_of mI_196 (by rfl)) rfl rfl
theorem r196_107 : runs cal 196 107 [v0, v1, v2] [vI x0, vR 71, vI x2, vR 71] I = if 0 ≤ x0 ∧ x0 < 110 then runs cal 196 108 [v0, v1, v2] [vI (I 71 x0), vI x2, vR 71] I else none := st_iald (ins_of mI_196 (by rfl)) cT_71 (wdc wid_196 wd_71)
theorem r196_108 : runs cal 196 108 [v0, v1, v2] [vI x0, vI x1, vR 71] I = if 0 ≤ x1 ∧ x1 < 110 then runs cal 196 109 [v0, v1, v2] [] (mset I 71 x1 x0) else none := st_iast (ins_of mI_196 (by rfl)) cT_71 (wdc wid_196 wd_71)
theorem r196_109 : runs cal 196 109 [v0, vI u, vI w] [] I = runs cal 196 112 [v0, vI u, vI (iadd w (1))] [] I := runs_to (ins_of mI_196 (by rfl)) rfl rfl
theorem r196_112 : runs cal 196 112 [v0, v1, v2] [] I = runs cal 196 78 [v0, v1, v2] [] I := st_goto (ins_of mI_196 (by rfl)) (by decide)
theorem r196_115 : runs cal 196 115 [v0, v1, v2] [] I = runs cal 196 116 [v0, v1, v2] [vI (1)] I := runs_to (ins_of mI_196 (by rfl)) rfl rfl
theorem r196_116 : runs cal 196 116 [v0, v1, v2] [vI x0] I = some (some (vI x0), I) := st_ret (q := some (vI x0)) (k := 0) (ins_of mI_196 (by rfl)) rfl (by decide) mR_196 rfl trivial
theorem r197_0 : runs cal 197 0 [vR 70] [] I = runs cal 197 1 [vR 70] [vR 70] I := runs_to (ins_of mI_197 (by rfl)) rfl rfl
theorem r197_1 : runs cal 197 1 [v0] [vR 70] I = (cal 164 [vR 70] I).bind (fun q => runs cal 197 4 [v0] (pushR q.1 []) q.2) := st_call (st := false) (ins_of mI_197 (by rfl)) mC_197 mr_11_230 (by decide) mS_164 mN_164 rfl (Nat.le_of_ble_eq_true rfl) rfl rfl (Or.inr ⟨_, _, rfl, rcv mC_164 rfl wid_197 (by decide +kernel)⟩) (Or.inl (wid_197.trans wid_164.symm))
theorem r197_4 : runs cal 197 4 [vR 70] [] I = runs cal 197 5 [vR 70] [vR 70] I := runs_to (ins_of mI_197 (by rfl)) rfl rfl
theorem r197_5 : runs cal 197 5 [v0] [vR 70] I = (cal 178 [vR 70] I).bind (fun q => runs cal 197 8 [v0] (pushR q.1 []) q.2) := st_call (st := false) (ins_of mI_197 (by rfl)) mC_197 mr_11_248 (by decide) mS_178 mN_178 rfl (Nat.le_of_ble_eq_true rfl) rfl rfl (Or.inr ⟨_, _, rfl, rcv mC_178 rfl wid_197 (by decide +kernel)⟩) (Or.inl (wid_197.trans wid_178.symm))
theorem r197_8 : runs cal 197 8 [v0] [vI x0] I = if x0 = 0 then runs cal 197 15 [v0] [] I else runs cal 197 11 [v0] [] I := st_if_eq (ins_of mI_197 (by rfl)) (by decide)
theorem r197_11 : runs cal 197 11 [v0] [] I = runs cal 197 12 [v0] [vI (1)] I := runs_to (ins_of mI_197 (by rfl)) rfl rfl
theorem r197_12 : runs cal 197 12 [v0] [vI x0] I = runs cal 197 16 [v0] [vI x0] I := st_goto (ins_of mI_197 (by rfl)) (by decide)
theorem r197_15 : runs cal 197 15 [v0] [] I = runs cal 197 16 [v0] [vI (0)] I := runs_to (ins_of mI_197 (by rfl)) rfl rfl
theorem r197_16 : runs cal 197 16 [v0] [vI x0] I = some (some (vI x0), I) := st_ret (q := some (vI x0)) (k := 0) (ins_of mI_197 (by rfl)) rfl (by decide) mR_197 rfl trivial
theorem r198_0 : runs cal 198 0 [v0, vI w, v2, v3] [] I = runs cal 198 1 [v0, vI w, v2, v3] [vI w] I := runs_to (ins_of mI_198 (by rfl)) rfl rfl
theorem r198_1 : runs cal 198 1 [v0, v1, v2, v3] [vI x0] I = runs cal 198 2 [v0, v1, v2, v3] [vI (-1), vI x0] I := runs_to (ins_of mI_198 (by rfl)) rfl rfl
theorem r198_2 : runs cal 198 2 [v0, v1, v2, v3] [vI x0, vI x1] I = if x1 < x0 then runs cal 198 5 [v0, v1, v2, v3] [] I else runs cal 198 12 [v0, v1, v2, v3] [] I := st_cmp_ge (ins_of mI_198 (by rfl)) (by decide)
theorem r198_5 : runs cal 198 5 [vR 70, v1, v2, v3] [] I = runs cal 198 6 [vR 70, v1, v2, v3] [vR 70] I := runs_to (ins_of mI_198 (by rfl)) rfl rfl
theorem r198_6 : runs cal 198 6 [v0, v1, v2, v3] [vR 70] I = runs cal 198 8 [v0, v1, v2, v3] [vI (-10), vR 70] I := runs_to (ins_of mI_198 (by rfl)) rfl rfl
theorem r198_8 : runs cal 198 8 [v0, v1, v2, v3] [vI x0, vR 70] I = (cal 143 [vR 70, vI x0] I).bind (fun q => runs cal 198 11 [v0, v1, v2, v3] (pushR q.1 []) q.2) := st_call (st := false) (ins_of mI_198 (by rfl)) mC_198 mr_11_251 (by decide) mS_143 mN_143 rfl (Nat.le_of_ble_eq_true rfl) rfl rfl (Or.inr ⟨_, _, rfl, rcv mC_143 rfl wid_198 (by decide +kernel)⟩) (Or.inl (wid_198.trans wid_143.symm))
theorem r198_11 : runs cal 198 11 [v0, v1, v2, v3] [vI x0] I = some (some (vI x0), I) := st_ret (q := some (vI x0)) (k := 0) (ins_of mI_198 (by rfl)) rfl (by decide) mR_198 rfl trivial
theorem r198_12 : runs cal 198 12 [v0, v1, v2, v3] [] I = runs cal 198 13 [v0, v1, v2, v3] [vI (0)] I := runs_to (ins_of mI_198 (by rfl)) rfl rfl
theorem r198_13 : runs cal 198 13 [v0, vI u, v2, v3] [vI x0] I = runs cal 198 14 [v0, vI u, vI x0, v3] [] I := runs_to (ins_of mI_198 (by rfl)) rfl rfl
theorem r198_14 : runs cal 198 14 [v0, v1, v2, v3] [] I = runs cal 198 15 [v0, v1, v2, v3] [vI (0)] I := runs_to (ins_of mI_198 (by rfl)) rfl rfl
theorem r198_15 : runs cal 198 15 [v0, v1, vI u, v3] [vI x0] I = runs cal 198 16 [v0, v1, vI u, vI x0] [] I := runs_to (ins_of mI_198 (by rfl)) rfl rfl
theorem r198_16 : runs cal 198 16 [v0, v1, v2, vI w] [] I = runs cal 198 17 [v0, v1, v2, vI w] [vI w] I := runs_to (ins_of mI_198 (by rfl)) rfl rfl
theorem r198_17 : runs cal 198 17 [v0, v1, v2, v3] [vI x0] I = runs cal 198 20 [v0, v1, v2, v3] [vI (1024), vI x0] I := runs_to (ins_of mI_198 (by rfl)) rfl rfl
theorem r198_20 : runs cal 198 20 [v0, v1, v2, v3] [vI x0, vI x1] I = if x1 < x0 then runs cal 198 23 [v0, v1, v2, v3] [] I else runs cal 198 48 [v0, v1, v2, v3] [] I := st_cmp_ge (ins_of mI_198 (by rfl)) (by decide)
theorem r198_23 : runs cal 198 23 [vR 70, v1, v2, v3] [] I = runs cal 198 24 [vR 70, v1, v2, v3] [vR 70] I := runs_to (ins_of mI_198 (by rfl)) rfl rfl
theorem r198_24 : runs cal 198 24 [v0, v1, v2, vI w] [vR 70] I = runs cal 198 25 [v0, v1, v2, vI w] [vI w, vR 70] I := runs_to (ins_of mI_198 (by rfl)) rfl rfl
theorem r198_25 : runs cal 198 25 [v0, v1, v2, v3] [vI x0, vR 70] I = (cal 193 [vR 70, vI x0] I).bind (fun q => runs cal 198 28 [v0, v1, v2, v3] (pushR q.1 []) q.2) := st_call (st := false) (ins_of mI_198 (by rfl)) mC_198 mr_11_239 (by decide) mS_193 mN_193 rfl (Nat.le_of_ble_eq_true rfl) rfl rfl (Or.inr ⟨_, _, rfl, rcv mC_193 rfl wid_198 (by decide +kernel)⟩) (Or.inl (wid_198.trans wid_193.symm))
theorem r198_28 : runs cal 198 28 [v0, v1, v2, v3] [vI x0] I = runs cal 198 29 [v0, v1, v2, v3] [vI (3), vI x0] I := runs_to (ins_of mI_198 (by rfl)) rfl rfl
theorem r198_29 : runs cal 198 29 [v0, v1, v2, v3] [vI x0, vI x1] I = if x1 = x0 then runs cal 198 32 [v0, v1, v2, v3] [] I else runs cal 198 42 [v0, v1, v2, v3] [] I := st_cmp_ne (ins_of mI_198 (by rfl)) (by decide)
theorem r198_32 : runs cal 198 32 [v0, v1, vI w, v3] [] I = runs cal 198 33 [v0, v1, vI w, v3] [vI w] I := runs_to (ins_of mI_198 (by rfl)) rfl rfl
theorem r198_33 : runs cal 198 33 [v0, vI w, v2, v3] [vI x0] I = runs cal 198 34 [v0, vI w, v2, v3] [vI w, vI x0] I := runs_to (ins_of mI_198 (by rfl)) rfl rfl
theorem r198_34 : runs cal 198 34 [v0, v1, v2, v3] [vI x0, vI x1] I = if x1 = x0 then runs cal 198 37 [v0, v1, v2, v3] [] I else runs cal 198 39 [v0, v1, v2, v3] [] I := st_cmp_ne (ins_of mI_198 (by rfl)) (by decide)
theorem r198_37 : runs cal 198 37 [v0, v1, v2, vI w] [] I = runs cal 198 38 [v0, v1, v2, vI w] [vI w] I := runs_to (ins_of mI_198 (by rfl)) rfl rfl
theorem r198_38 : runs cal 198 38 [v0, v1, v2, v3] [vI x0] I = some (some (vI x0), I) := st_ret (q := some (vI x0)) (k := 0) (ins_of mI_198 (by rfl)) rfl (by decide) mR_198 rfl trivial
theorem r198_39 : runs cal 198 39 [v0, vI u, vI w, v3] [] I = runs cal 198 42 [v0, vI u, vI (iadd w (1)), v3] [] I := runs_to (ins_of mI_198 (by rfl)) rfl rfl
theorem r198_42 : runs cal 198 42 [v0, v1, vI u, vI w] [] I = runs cal 198 45 [v0, v1, vI u, vI (iadd w (1))] [] I := runs_to (ins_of mI_198 (by rfl)) rfl rfl
theorem r198_45 : runs cal 198 45 [v0, v1, v2, v3] [] I = runs cal 198 16 [v0, v1, v2, v3] [] I := st_goto (ins_of mI_198 (by rfl)) (by decide)
theorem r198_48 : runs cal 198 48 [v0, vI w, v2, v3] [] I = runs cal 198 49 [v0, vI w, v2, v3] [vI w] I := runs_to (ins_of mI_198 (by rfl)) rfl rfl
theorem r198_49 : runs cal 198 49 [v0, v1, v2, v3] [vI x0] I = runs cal 198 50 [v0, v1, v2, v3] [vI (-1), vI x0] I := runs_to (ins_of mI_198 (by rfl)) rfl rfl
theorem r198_50 : runs cal 198 50 [v0, v1, v2, v3] [vI x0, vI x1] I = if x1 = x0 then runs cal 198 53 [v0, v1, v2, v3] [] I else runs cal 198 57 [v0, v1, v2, v3] [] I := st_cmp_ne (ins_of mI_198 (by rfl)) (by decide)
theorem r198_53 : runs cal 198 53 [v0, v1, vI w, v3] [] I = runs cal 198 54 [v0, v1, vI w, v3] [vI w] I := runs_to (ins_of mI_198 (by rfl)) rfl rfl
theorem r198_54 : runs cal 198 54 [v0, v1, v2, v3] [vI x0] I = runs cal 198 59 [v0, v1, v2, v3] [vI x0] I := st_goto (ins_of mI_198 (by rfl)) (by decide)
theorem r198_57 : runs cal 198 57 [v0, v1, v2, v3] [] I = runs cal 198 59 [v0, v1, v2, v3] [vI (-5)] I := runs_to (ins_of mI_198 (by rfl)) rfl rfl
theorem r198_59 : runs cal 198 59 [v0, v1, v2, v3] [vI x0] I = some (some (vI x0), I) := st_ret (q := some (vI x0)) (k := 0) (ins_of mI_198 (by rfl)) rfl (by decide) mR_198 rfl trivial
theorem r199_0 : runs cal 199 0 [v0, v1, v2] [] I = runs cal 199 1 [v0, v1, v2] [vI (0)] I := runs_to (ins_of mI_199 (by rfl)) rfl rfl
theorem r199_1 : runs cal 199 1 [vR b0, v1, v2] [vI x0] I = runs cal 199 2 [vR b0, vI x0, v2] [] I := runs_to (ins_of mI_199 (by rfl)) rfl rfl
theorem r199_2 : runs cal 199 2 [v0, v1, v2] [] I = runs cal 199 3 [v0, v1, v2] [vI (0)] I := runs_to (ins_of mI_199 (by rfl)) rfl rfl
theorem r199_3 : runs cal 199 3 [v0, vI u, v2] [vI x0] I = runs cal 199 4 [v0, vI u, vI x0] [] I := runs_to (ins_of mI_199 (by rfl)) rfl rfl
theorem r199_4 : runs cal 199 4 [v0, v1, vI w] [] I = runs cal 199 5 [v0, v1, vI w] [vI w] I := runs_to (ins_of mI_199 (by rfl)) rfl rfl
theorem r199_5 : runs cal 199 5 [v0, v1, v2] [vI x0] I = runs cal 199 6 [v0, v1, v2] [vI (3), vI x0] I := runs_to (ins_of mI_199 (by rfl)) rfl rfl
theorem r199_6 : runs cal 199 6 [v0, v1, v2] [vI x0, vI x1] I = if x1 < x0 then runs cal 199 9 [v0, v1, v2] [] I else runs cal 199 39 [v0, v1, v2] [] I := st_cmp_ge (ins_of mI_199 (by rfl)) (by decide)
theorem r199_9 : runs cal 199 9 [v0, v1, v2] [] I = runs cal 199 11 [v0, v1, v2] [vI (8)] I := runs_to (ins_of mI_199 (by rfl)) rfl rfl
theorem r199_11 : runs cal 199 11 [v0, vI w, v2] [vI x0] I = runs cal 199 12 [v0, vI w, v2] [vI w, vI x0] I := runs_to (ins_of mI_199 (by rfl)) rfl rfl
theorem r199_12 : runs cal 199 12 [v0, v1, v2] [vI x0, vI x1] I = runs cal 199 13 [v0, v1, v2] [vI (imul x1 x0)] I := runs_to (ins_of mI_199 (by rfl)) rfl rfl
theorem r199_13 : runs cal 199 13 [v0, v1, vI w] [vI x0] I = runs cal 199 14 [v0, v1, vI w] [vI w, vI x0] I := runs_to (ins_of mI_199 (by rfl)) rfl rfl
theorem r199_14 : runs cal 199 14 [vR 70, v1, v2] [vI x0, vI x1] I = runs cal 199 15 [vR 70, v1, v2] [vR 70, vI x0, vI x1] I := runs_to (ins_of mI_199 (by rfl)) rfl rfl
theorem r199_15 : runs cal 199 15 [v0, v1, v2] [vR 70, vI x1, vI x2] I = (cal 159 [vR 70] I).bind (fun q => runs cal 199 18 [v0, v1, v2] (pushR q.1 [vI x1, vI x2]) q.2) := st_call (st := false) (ins_of mI_199 (by rfl)) mC_199 mr_11_117 (by decide) mS_159 mN_159 rfl (Nat.le_of_ble_eq_true rfl) rfl rfl (Or.inr ⟨_, _, rfl, rcv mC_159 rfl wid_199 (by decide +kernel)⟩) (Or.inl (wid_199.trans wid_159.symm))
theorem r199_18 : runs cal 199 18 [v0, v1, v2] [vI x0, vI x1, vI x2] I = if x1 < x0 then runs cal 199 21 [v0, v1, v2] [vI x2] I else runs cal 199 30 [v0, v1, v2] [vI x2] I := st_cmp_ge (ins_of mI_199 (by rfl)) (by decide)
theorem r199_21 : runs cal 199 21 [vR 70, v1, v2] [vI x0] I = runs cal 199 22 [vR 70, v1, v2] [vR 70, vI x0] I := runs_to (ins_of mI_199 (by rfl)) rfl rfl
theorem r199_22 : runs cal 199 22 [v0, v1, v2] [vR 70, vI x1] I = runs cal 199 25 [v0, v1, v2] [vR 77, vI x1] I := st_getR (ins_of mI_199 (by rfl)) mC_199 (by decide) fr_11_30 cT_70 (wdc wid_199 wd_70) rfl rfl
theorem r199_25 : runs cal 199 25 [v0, v1, vI w] [vR 77, vI x1] I = runs cal 199 26 [v0, v1, vI w] [vI w, vR 77, vI x1] I := runs_to (ins_of mI_199 (by rfl)) rfl rfl
theorem r199_26 : runs cal 199 26 [v0, v1, v2] [vI x0, vR 77, vI x2] I = if 0 ≤ x0 ∧ x0 < 3 then runs cal 199 27 [v0, v1, v2] [vI (I 77 x0), vI x2] I else none := st_iald (ins_of mI_199 (by rfl)) cT_77 (wdc wid_199 wd_77)
theorem r199_27 : runs cal 199 27 [v0, v1, v2] [vI x0, vI x1] I = runs cal 199 31 [v0, v1, v2] [vI x0, vI x1] I := st_goto (ins_of mI_199 (by rfl)) (by decide)
theorem r199_30 : runs cal 199 30 [v0, v1, v2] [vI x0] I = runs cal 199 31 [v0, v1, v2] [vI (0), vI x0] I := runs_to (ins_of mI_199 (by rfl)) rfl rfl
theorem r199_31 : runs cal 199 31 [v0, v1, v2] [vI x0, vI x1] I = runs cal 199 32 [v0, v1, v2] [vI (iadd x1 x0)] I := runs_to (ins_of mI_199 (by rfl)) rfl rfl
theorem r199_32 : runs cal 199 32 [vR b0, v1, v2] [vI x0] I = runs cal 199 33 [vR b0, vI x0, v2] [] I := runs_to (ins_of mI_199 (by rfl)) rfl rfl
theorem r199_33 : runs cal 199 33 [v0, vI u, vI w] [] I = runs cal 199 36 [v0, vI u, vI (iadd w (1))] [] I := runs_to (ins_of mI_199 (by rfl)) rfl rfl
theorem r199_36 : runs cal 199 36 [v0, v1, v2] [] I = runs cal 199 4 [v0, v1, v2] [] I := st_goto (ins_of mI_199 (by rfl)) (by decide)
theorem r199_39 : runs cal 199 39 [v0, v1, v2] [] I = runs cal 199 40 [v0, v1, v2] [vI (0)] I := runs_to (ins_of mI_199 (by rfl)) rfl rfl
theorem r199_40 : runs cal 199 40 [v0, vI u, v2] [vI x0] I = runs cal 199 41 [v0, vI u, vI x0] [] I := runs_to (ins_of mI_199 (by rfl)) rfl rfl
theorem r199_41 : runs cal 199 41 [v0, v1, vI w] [] I = runs cal 199 42 [v0, v1, vI w] [vI w] I := runs_to (ins_of mI_199 (by rfl)) rfl rfl
theorem r199_42 : runs cal 199 42 [v0, v1, v2] [vI x0] I = runs cal 199 43 [v0, v1, v2] [vI (2), vI x0] I := runs_to (ins_of mI_199 (by rfl)) rfl rfl
theorem r199_43 : runs cal 199 43 [v0, v1, v2] [vI x0, vI x1] I = if x1 < x0 then runs cal 199 46 [v0, v1, v2] [] I else runs cal 199 76 [v0, v1, v2] [] I := st_cmp_ge (ins_of mI_199 (by rfl)) (by decide)
theorem r199_46 : runs cal 199 46 [v0, v1, v2] [] I = runs cal 199 48 [v0, v1, v2] [vI (12)] I := runs_to (ins_of mI_199 (by rfl)) rfl rfl
theorem r199_48 : runs cal 199 48 [v0, vI w, v2] [vI x0] I = runs cal 199 49 [v0, vI w, v2] [vI w, vI x0] I := runs_to (ins_of mI_199 (by rfl)) rfl rfl
theorem r199_49 : runs cal 199 49 [v0, v1, v2] [vI x0, vI x1] I = runs cal 199 50 [v0, v1, v2] [vI (imul x1 x0)] I := runs_to (ins_of mI_199 (by rfl)) rfl rfl
theorem r199_50 : runs cal 199 50 [v0, v1, vI w] [vI x0] I = runs cal 199 51 [v0, v1, vI w] [vI w, vI x0] I := runs_to (ins_of mI_199 (by rfl)) rfl rfl
theorem r199_51 : runs cal 199 51 [vR 70, v1, v2] [vI x0, vI x1] I = runs cal 199 52 [vR 70, v1, v2] [vR 70, vI x0, vI x1] I := runs_to (ins_of mI_199 (by rfl)) rfl rfl
theorem r199_52 : runs cal 199 52 [v0, v1, v2] [vR 70, vI x1, vI x2] I = (cal 160 [vR 70] I).bind (fun q => runs cal 199 55 [v0, v1, v2] (pushR q.1 [vI x1, vI x2]) q.2) := st_call (st := false) (ins_of mI_199 (by rfl)) mC_199 mr_11_125 (by decide) mS_160 mN_160 rfl (Nat.le_of_ble_eq_true rfl) rfl rfl (Or.inr ⟨_, _, rfl, rcv mC_160 rfl wid_199 (by decide +kernel)⟩) (Or.inl (wid_199.trans wid_160.symm))
theorem r199_55 : runs cal 199 55 [v0, v1, v2] [vI x0, vI x1, vI x2] I = if x1 < x0 then runs cal 199 58 [v0, v1, v2] [vI x2] I else runs cal 199 67 [v0, v1, v2] [vI x2] I := st_cmp_ge (ins_of mI_199 (by rfl)) (by decide)
theorem r199_58 : runs cal 199 58 [vR 70, v1, v2] [vI x0] I = runs cal 199 59 [vR 70, v1, v2] [vR 70, vI x0] I := runs_to (ins_of mI_199 (by rfl)) rfl rfl
theorem r199_59 : runs cal 199 59 [v0, v1, v2] [vR 70, vI x1] I = runs cal 199 62 [v0, v1, v2] [vR 78, vI x1] I := st_getR (ins_of mI_199 (by rfl)) mC_199 (by decide) fr_11_33 cT_70 (wdc wid_199 wd_70) rfl rfl
theorem r199_62 : runs cal 199 62 [v0, v1, vI w] [vR 78, vI x1] I = runs cal 199 63 [v0, v1, vI w] [vI w, vR 78, vI x1] I := runs_to (ins_of mI_199 (by rfl)) rfl rfl
theorem r199_63 : runs cal 199 63 [v0, v1, v2] [vI x0, vR 78, vI x2] I = if 0 ≤ x0 ∧ x0 < 2 then runs cal 199 64 [v0, v1, v2] [vI (I 78 x0), vI x2] I else none := st_iald (ins_of mI_199 (by rfl)) cT_78 (wdc wid_199 wd_78)
theorem r199_64 : runs cal 199 64 [v0, v1, v2] [vI x0, vI x1] I = runs cal 199 68 [v0, v1, v2] [vI x0, vI x1] I := st_goto (ins_of mI_199 (by rfl)) (by decide)
theorem r199_67 : runs cal 199 67 [v0, v1, v2] [vI x0] I = runs cal 199 68 [v0, v1, v2] [vI (0), vI x0] I := runs_to (ins_of mI_199 (by rfl)) rfl rfl
theorem r199_68 : runs cal 199 68 [v0, v1, v2] [vI x0, vI x1] I = runs cal 199 69 [v0, v1, v2] [vI (iadd x1 x0)] I := runs_to (ins_of mI_199 (by rfl)) rfl rfl
theorem r199_69 : runs cal 199 69 [vR b0, v1, v2] [vI x0] I = runs cal 199 70 [vR b0, vI x0, v2] [] I := runs_to (ins_of mI_199 (by rfl)) rfl rfl
theorem r199_70 : runs cal 199 70 [v0, vI u, vI w] [] I = runs cal 199 73 [v0, vI u, vI (iadd w (1))] [] I := runs_to (ins_of mI_199 (by rfl)) rfl rfl
theorem r199_73 : runs cal 199 73 [v0, v1, v2] [] I = runs cal 199 41 [v0, v1, v2] [] I := st_goto (ins_of mI_199 (by rfl)) (by decide)
theorem r199_76 : runs cal 199 76 [v0, vI w, v2] [] I = runs cal 199 77 [v0, vI w, v2] [vI w] I := runs_to (ins_of mI_199 (by rfl)) rfl rfl
theorem r199_77 : runs cal 199 77 [v0, v1, v2] [vI x0] I = some (some (vI x0), I) := st_ret (q := some (vI x0)) (k := 0) (ins_of mI_199 (by rfl)) rfl (by decide) mR_199 rfl trivial
theorem r200_0 : runs cal 200 0 [v0, vI w, v2, v3] [] I = runs cal 200 1 [v0, vI w, v2, v3] [vI w] I := runs_to (ins_of mI_200 (by rfl)) rfl rfl
theorem r200_1 : runs cal 200 1 [v0, vI u, v2, v3] [vI x0] I = runs cal 200 2 [v0, vI u, vI x0, v3] [] I := runs_to (ins_of mI_200 (by rfl)) rfl rfl
theorem r200_2 : runs cal 200 2 [v0, v1, v2, v3] [] I = runs cal 200 3 [v0, v1, v2, v3] [vI (1)] I := runs_to (ins_of mI_200 (by rfl)) rfl rfl
theorem r200_3 : runs cal 200 3 [v0, v1, vI u, v3] [vI x0] I = runs cal 200 4 [v0, v1, vI u, vI x0] [] I := runs_to (ins_of mI_200 (by rfl)) rfl rfl
theorem r200_4 : runs cal 200 4 [v0, v1, v2, vI w] [] I = runs cal 200 5 [v0, v1, v2, vI w] [vI w] I := runs_to (ins_of mI_200 (by rfl)) rfl rfl
theorem r200_5 : runs cal 200 5 [v0, v1, v2, v3] [vI x0] I = if x0 < 0 then runs cal 200 29 [v0, v1, v2, v3] [] I else runs cal 200 8 [v0, v1, v2, v3] [] I := st_if_lt (ins_of mI_200 (by rfl)) (by decide)
theorem r200_8 : runs cal 200 8 [vR 70, v1, v2, v3] [] I = runs cal 200 9 [vR 70, v1, v2, v3] [vR 70] I := runs_to (ins_of mI_200 (by rfl)) rfl rfl
theorem r200_9 : runs cal 200 9 [v0, v1, v2, v3] [vR 70] I = runs cal 200 12 [v0, v1, v2, v3] [vR 78] I := st_getR (ins_of mI_200 (by rfl)) mC_200 (by decide) fr_11_33 cT_70 (wdc wid_200 wd_70) rfl rfl
theorem r200_12 : runs cal 200 12 [v0, v1, v2, vI w] [vR 78] I = runs cal 200 13 [v0, v1, v2, vI w] [vI w, vR 78] I := runs_to (ins_of mI_200 (by rfl)) rfl rfl
theorem r200_13 : runs cal 200 13 [v0, v1, vI w, v3] [vI x0, vR 78] I = runs cal 200 14 [v0, v1, vI w, v3] [vI w, vI x0, vR 78] I := runs_to (ins_of mI_200 (by rfl)) rfl rfl
theorem r200_14 : runs cal 200 14 [v0, v1, v2, v3] [vI x0, vI x1, vR 78] I = runs cal 200 16 [v0, v1, v2, v3] [vI (12), vI x0, vI x1, vR 78] I := runs_to (ins_of mI_200 (by rfl)) rfl rfl
theorem r200_16 : runs cal 200 16 [v0, v1, v2, v3] [vI x0, vI x1, vI x2, vR 78] I = if x0 = 0 then none else runs cal 200 17 [v0, v1, v2, v3] [vI (irem x1 x0), vI x2, vR 78] I := st_nz (ins_of mI_200 (by rfl)) rfl rfl
theorem r200_17 : runs cal 200 17 [v0, v1, v2, v3] [vI x0, vI x1, vR 78] I = if 0 ≤ x1 ∧ x1 < 2 then runs cal 200 18 [v0, v1, v2, v3] [] (mset I 78 x1 x0) else none := st_iast (ins_of mI_200 (by rfl)) cT_78 (wdc wid_200 wd_78)
theorem r200_18 : runs cal 200 18 [v0, v1, vI w, v3] [] I = runs cal 200 19 [v0, v1, vI w, v3] [vI w] I := runs_to (ins_of mI_200 (by rfl)) rfl rfl
theorem r200_19 : runs cal 200 19 [v0, v1, v2, v3] [vI x0] I = runs cal 200 21 [v0, v1, v2, v3] [vI (12), vI x0] I := runs_to (ins_of mI_200 (by rfl)) rfl rfl
theorem r200_21 : runs cal 200 21 [v0, v1, v2, v3] [vI x0, vI x1] I = if x0 = 0 then none else runs cal 200 22 [v0, v1, v2, v3] [vI (idiv x1 x0)] I := st_nz (ins_of mI_200 (by rfl)) rfl rfl
theorem r200_22 : runs cal 200 22 [v0, vI u, v2, v3] [vI x0] I = runs cal 200 23 [v0, vI u, vI x0, v3] [] I := runs_to (ins_of mI_200 (by rfl)) rfl rfl
theorem r200_23 : runs cal 200 23 [v0, v1, vI u, vI w] [] I = runs cal 200 26 [v0, v1, vI u, vI (iadd w (-1))] [] I := runs_to (ins_of mI_200 (by rfl)) rfl rfl
theorem r200_26 : runs cal 200 26 [v0, v1, v2, v3] [] I = runs cal 200 4 [v0, v1, v2, v3] [] I := st_goto (ins_of mI_200 (by rfl)) (by decide)
theorem r200_29 : runs cal 200 29 [v0, v1, v2, v3] [] I = runs cal 200 30 [v0, v1, v2, v3] [vI (2)] I := runs_to (ins_of mI_200 (by rfl)) rfl rfl
theorem r200_30 : runs cal 200 30 [v0, v1, vI u, v3] [vI x0] I = runs cal 200 31 [v0, v1, vI u, vI x0] [] I := runs_to (ins_of mI_200 (by rfl)) rfl rfl
theorem r200_31 : runs cal 200 31 [v0, v1, v2, vI w] [] I = runs cal 200 32 [v0, v1, v2, vI w] [vI w] I := runs_to (ins_of mI_200 (by rfl)) rfl rfl
theorem r200_32 : runs cal 200 32 [v0, v1, v2, v3] [vI x0] I = if x0 < 0 then runs cal 200 56 [v0, v1, v2, v3] [] I else runs cal 200 35 [v0, v1, v2, v3] [] I := st_if_lt (ins_of mI_200 (by rfl)) (by decide)
theorem r200_35 : runs cal 200 35 [vR 70, v1, v2, v3] [] I = runs cal 200 36 [vR 70, v1, v2, v3] [vR 70] I := runs_to (ins_of mI_200 (by rfl)) rfl rfl
theorem r200_36 : runs cal 200 36 [v0, v1, v2, v3] [vR 70] I = runs cal 200 39 [v0, v1, v2, v3] [vR 77] I := st_getR (ins_of mI_200 (by rfl)) mC_200 (by decide) fr_11_30 cT_70 (wdc wid_200 wd_70) rfl rfl
theorem r200_39 : runs cal 200 39 [v0, v1, v2, vI w] [vR 77] I = runs cal 200 40 [v0, v1, v2, vI w] [vI w, vR 77] I := runs_to (ins_of mI_200 (by rfl)) rfl rfl
theorem r200_40 : runs cal 200 40 [v0, v1, vI w, v3] [vI x0, vR 77] I = runs cal 200 41 [v0, v1, vI w, v3] [vI w, vI x0, vR 77] I := runs_to (ins_of mI_200 (by rfl)) rfl rfl
theorem r200_41 : runs cal 200 41 [v0, v1, v2, v3] [vI x0, vI x1, vR 77] I = runs cal 200 43 [v0, v1, v2, v3] [vI (8), vI x0, vI x1, vR 77] I := runs_to (ins_of mI_200 (by rfl)) rfl rfl
theorem r200_43 : runs cal 200 43 [v0, v1, v2, v3] [vI x0, vI x1, vI x2, vR 77] I = if x0 = 0 then none else runs cal 200 44 [v0, v1, v2, v3] [vI (irem x1 x0), vI x2, vR 77] I := st_nz (ins_of mI_200 (by rfl)) rfl rfl
theorem r200_44 : runs cal 200 44 [v0, v1, v2, v3] [vI x0, vI x1, vR 77] I = if 0 ≤ x1 ∧ x1 < 3 then runs cal 200 45 [v0, v1, v2, v3] [] (mset I 77 x1 x0) else none := st_iast (ins_of mI_200 (by rfl)) cT_77 (wdc wid_200 wd_77)
theorem r200_45 : runs cal 200 45 [v0, v1, vI w, v3] [] I = runs cal 200 46 [v0, v1, vI w, v3] [vI w] I := runs_to (ins_of mI_200 (by rfl)) rfl rfl
theorem r200_46 : runs cal 200 46 [v0, v1, v2, v3] [vI x0] I = runs cal 200 48 [v0, v1, v2, v3] [vI (8), vI x0] I := runs_to (ins_of mI_200 (by rfl)) rfl rfl
theorem r200_48 : runs cal 200 48 [v0, v1, v2, v3] [vI x0, vI x1] I = if x0 = 0 then none else runs cal 200 49 [v0, v1, v2, v3] [vI (idiv x1 x0)] I := st_nz (ins_of mI_200 (by rfl)) rfl rfl
theorem r200_49 : runs cal 200 49 [v0, vI u, v2, v3] [vI x0] I = runs cal 200 50 [v0, vI u, vI x0, v3] [] I := runs_to (ins_of mI_200 (by rfl)) rfl rfl
theorem r200_50 : runs cal 200 50 [v0, v1, vI u, vI w] [] I = runs cal 200 53 [v0, v1, vI u, vI (iadd w (-1))] [] I := runs_to (ins_of mI_200 (by rfl)) rfl rfl
theorem r200_53 : runs cal 200 53 [v0, v1, v2, v3] [] I = runs cal 200 31 [v0, v1, v2, v3] [] I := st_goto (ins_of mI_200 (by rfl)) (by decide)
theorem r200_56 : runs cal 200 56 [v0, v1, v2, v3] [] I = some (none, I) := st_ret (q := none) (k := 3) (ins_of mI_200 (by rfl)) rfl (by decide) mR_200 rfl trivial
theorem r201_0 : runs cal 201 0 [v0, vI w, v2] [] I = runs cal 201 1 [v0, vI w, v2] [vI w] I := runs_to (ins_of mI_201 (by rfl)) rfl rfl
theorem r201_1 : runs cal 201 1 [v0, v1, v2] [vI x0] I = runs cal 201 2 [v0, v1, v2] [vI (1), vI x0] I := runs_to (ins_of mI_201 (by rfl)) rfl rfl
theorem r201_2 : runs cal 201 2 [v0, v1, v2] [vI x0, vI x1] I = runs cal 201 3 [v0, v1, v2] [vI (iadd x1 x0)] I := runs_to (ins_of mI_201 (by rfl)) rfl rfl
theorem r201_3 : runs cal 201 3 [v0, vI u, v2] [vI x0] I = runs cal 201 4 [v0, vI u, vI x0] [] I := runs_to (ins_of mI_201 (by rfl)) rfl rfl
theorem r201_4 : runs cal 201 4 [v0, v1, vI w] [] I = runs cal 201 5 [v0, v1, vI w] [vI w] I := runs_to (ins_of mI_201 (by rfl)) rfl rfl
theorem r201_5 : runs cal 201 5 [v0, v1, v2] [vI x0] I = runs cal 201 8 [v0, v1, v2] [vI (1024), vI x0] I := runs_to (ins_of mI_201 (by rfl)) rfl rfl
theorem r201_8 : runs cal 201 8 [v0, v1, v2] [vI x0, vI x1] I = if x1 < x0 then runs cal 201 11 [v0, v1, v2] [] I else runs cal 201 73 [v0, v1, v2] [] I := st_cmp_ge (ins_of mI_201 (by rfl)) (by decide)
theorem r201_11 : runs cal 201 11 [vR 70, v1, v2] [] I = runs cal 201 12 [vR 70, v1, v2] [vR 70] I := runs_to (ins_of mI_201 (by rfl)) rfl rfl
theorem r201_12 : runs cal 201 12 [v0, v1, vI w] [vR 70] I = runs cal 201 13 [v0, v1, vI w] [vI w, vR 70] I := runs_to (ins_of mI_201 (by rfl)) rfl rfl
theorem r201_13 : runs cal 201 13 [v0, v1, v2] [vI x0, vR 70] I = (cal 189 [vR 70, vI x0] I).bind (fun q => runs cal 201 16 [v0, v1, v2] (pushR q.1 []) q.2) := st_call (st := false) (ins_of mI_201 (by rfl)) mC_201 mr_11_233 (by decide) mS_189 mN_189 rfl (Nat.le_of_ble_eq_true rfl) rfl rfl (Or.inr ⟨_, _, rfl, rcv mC_189 rfl wid_201 (by decide +kernel)⟩) (Or.inl (wid_201.trans wid_189.symm))
theorem r201_16 : runs cal 201 16 [vR 70, v1, v2] [] I = runs cal 201 17 [vR 70, v1, v2] [vR 70] I := runs_to (ins_of mI_201 (by rfl)) rfl rfl
theorem r201_17 : runs cal 201 17 [v0, v1, v2] [vR 70] I = (cal 180 [vR 70] I).bind (fun q => runs cal 201 20 [v0, v1, v2] (pushR q.1 []) q.2) := st_call (st := false) (ins_of mI_201 (by rfl)) mC_201 mr_11_209 (by decide) mS_180 mN_180 rfl (Nat.le_of_ble_eq_true rfl) rfl rfl (Or.inr ⟨_, _, rfl, rcv mC_180 rfl wid_201 (by decide +kernel)⟩) (Or.inl (wid_201.trans wid_180.symm))
theorem r201_20 : runs cal 201 20 [v0, v1, v2] [vI x0] I = if x0 = 0 then runs cal 201 25 [v0, v1, v2] [] I else runs cal 201 23 [v0, v1, v2] [] I := st_if_eq (ins_of mI_201 (by rfl)) (by decide)
theorem r201_23 : runs cal 201 23 [v0, v1, vI w] [] I = runs cal 201 24 [v0, v1, vI w] [vI w] I := runs_to (ins_of mI_201 (by rfl)) rfl rfl
theorem r201_24 : runs cal 201 24 [v0, v1, v2] [vI x0] I = some (some (vI x0), I) := st_ret (q := some (vI x0)) (k := 0) (ins_of mI_201 (by rfl)) rfl (by decide) mR_201 rfl trivial
theorem r201_25 : runs cal 201 25 [vR 70, v1, v2] [] I = runs cal 201 26 [vR 70, v1, v2] [vR 70] I := runs_to (ins_of mI_201 (by rfl)) rfl rfl
theorem r201_26 : runs cal 201 26 [v0, v1, v2] [vR 70] I = runs cal 201 29 [v0, v1, v2] [vI (I 70 12)] I := st_getI (ins_of mI_201 (by rfl)) mC_201 (by decide) fr_11_178 cT_70 (wdc wid_201 wd_70) (Or.inl rfl)
theorem r201_29 : runs cal 201 29 [v0, v1, v2] [vI x0] I = runs cal 201 30 [v0, v1, v2] [vI (2), vI x0] I := runs_to (ins_of mI_201 (by rfl)) rfl rfl
theorem r201_30 : runs cal 201 30 [v0, v1, v2] [vI x0, vI x1] I = if x1 < x0 then runs cal 201 33 [v0, v1, v2] [] I else runs cal 201 39 [v0, v1, v2] [] I := st_cmp_ge (ins_of mI_201 (by rfl)) (by decide)
theorem r201_33 : runs cal 201 33 [v0, v1, vI w] [] I = runs cal 201 34 [v0, v1, vI w] [vI w] I := runs_to (ins_of mI_201 (by rfl)) rfl rfl
theorem r201_34 : runs cal 201 34 [v0, v1, v2] [vI x0] I = runs cal 201 35 [v0, v1, v2] [vI (1), vI x0] I := runs_to (ins_of mI_201 (by rfl)) rfl rfl
theorem r201_35 : runs cal 201 35 [v0, v1, v2] [vI x0, vI x1] I = runs cal 201 36 [v0, v1, v2] [vI (iadd x1 x0)] I := runs_to (ins_of mI_201 (by rfl)) rfl rfl
theorem r201_36 : runs cal 201 36 [v0, v1, v2] [vI x0] I = runs cal 201 69 [v0, v1, v2] [vI x0] I := st_goto (ins_of mI_201 (by rfl)) (by decide)
theorem r201_39 : runs cal 201 39 [vR 70, v1, v2] [] I = runs cal 201 40 [vR 70, v1, v2] [vR 70] I := runs_to (ins_of mI_201 (by rfl)) rfl rfl
theorem r201_40 : runs cal 201 40 [v0, v1, v2] [vR 70] I = runs cal 201 43 [v0, v1, v2] [vI (I 70 11)] I := st_getI (ins_of mI_201 (by rfl)) mC_201 (by decide) fr_11_175 cT_70 (wdc wid_201 wd_70) (Or.inl rfl)
theorem r201_43 : runs cal 201 43 [v0, v1, v2] [vI x0] I = runs cal 201 44 [v0, v1, v2] [vI (1), vI x0] I := runs_to (ins_of mI_201 (by rfl)) rfl rfl
theorem r201_44 : runs cal 201 44 [v0, v1, v2] [vI x0, vI x1] I = if x1 < x0 then runs cal 201 47 [v0, v1, v2] [] I else runs cal 201 59 [v0, v1, v2] [] I := st_cmp_ge (ins_of mI_201 (by rfl)) (by decide)
theorem r201_47 : runs cal 201 47 [v0, v1, vI w] [] I = runs cal 201 48 [v0, v1, vI w] [vI w] I := runs_to (ins_of mI_201 (by rfl)) rfl rfl
theorem r201_48 : runs cal 201 48 [vR 70, v1, v2] [vI x0] I = runs cal 201 49 [vR 70, v1, v2] [vR 70, vI x0] I := runs_to (ins_of mI_201 (by rfl)) rfl rfl
theorem r201_49 : runs cal 201 49 [v0, v1, v2] [vR 70, vI x1] I = runs cal 201 52 [v0, v1, v2] [vI (I 70 12), vI x1] I := st_getI (ins_of mI_201 (by rfl)) mC_201 (by decide) fr_11_178 cT_70 (wdc wid_201 wd_70) (Or.inl rfl)
theorem r201_52 : runs cal 201 52 [v0, v1, v2] [vI x0, vI x1] I = runs cal 201 53 [v0, v1, v2] [vI (isub x1 x0)] I := runs_to (ins_of mI_201 (by rfl)) rfl rfl
theorem r201_53 : runs cal 201 53 [v0, v1, v2] [vI x0] I = runs cal 201 55 [v0, v1, v2] [vI (8), vI x0] I := runs_to (ins_of mI_201 (by rfl)) rfl rfl
theorem r201_55 : runs cal 201 55 [v0, v1, v2] [vI x0, vI x1] I = runs cal 201 56 [v0, v1, v2] [vI (iadd x1 x0)] I := runs_to (ins_of mI_201 (by rfl)) rfl rfl
theorem r201_56 : runs cal 201 56 [v0, v1, v2] [vI x0] I = runs cal 201 69 [v0, v1, v2] [vI x0] I := st_goto (ins_of mI_201 (by rfl)) (by decide)
theorem r201_59 : runs cal 201 59 [v0, v1, vI w] [] I = runs cal 201 60 [v0, v1, vI w] [vI w] I := runs_to (ins_of mI_201 (by rfl)) rfl rfl
theorem r201_60 : runs cal 201 60 [v0, v1, v2] [vI x0] I = runs cal 201 62 [v0, v1, v2] [vI (64), vI x0] I := runs_to (ins_of mI_201 (by rfl)) rfl rfl
theorem r201_62 : runs cal 201 62 [v0, v1, v2] [vI x0, vI x1] I = if x0 = 0 then none else runs cal 201 63 [v0, v1, v2] [vI (idiv x1 x0)] I := st_nz (ins_of mI_201 (by rfl)) rfl rfl
theorem r201_63 : runs cal 201 63 [v0, v1, v2] [vI x0] I = runs cal 201 65 [v0, v1, v2] [vI (64), vI x0] I := runs_to (ins_of mI_201 (by rfl)) rfl rfl
theorem r201_65 : runs cal 201 65 [v0, v1, v2] [vI x0, vI x1] I = runs cal 201 66 [v0, v1, v2] [vI (imul x1 x0)] I := runs_to (ins_of mI_201 (by rfl)) rfl rfl
theorem r201_66 : runs cal 201 66 [v0, v1, v2] [vI x0] I = runs cal 201 68 [v0, v1, v2] [vI (64), vI x0] I := runs_to (ins_of mI_201 (by rfl)) rfl rfl
theorem r201_68 : runs cal 201 68 [v0, v1, v2] [vI x0, vI x1] I = runs cal 201 69 [v0, v1, v2] [vI (iadd x1 x0)] I := runs_to (ins_of mI_201 (by rfl)) rfl rfl
theorem r201_69 : runs cal 201 69 [v0, vI u, v2] [vI x0] I = runs cal 201 70 [v0, vI u, vI x0] [] I := runs_to (ins_of mI_201 (by rfl)) rfl rfl
theorem r201_70 : runs cal 201 70 [v0, v1, v2] [] I = runs cal 201 4 [v0, v1, v2] [] I := st_goto (ins_of mI_201 (by rfl)) (by decide)
theorem r201_73 : runs cal 201 73 [v0, v1, v2] [] I = runs cal 201 76 [v0, v1, v2] [vI (2048)] I := runs_to (ins_of mI_201 (by rfl)) rfl rfl
theorem r201_76 : runs cal 201 76 [v0, v1, v2] [vI x0] I = some (some (vI x0), I) := st_ret (q := some (vI x0)) (k := 0) (ins_of mI_201 (by rfl)) rfl (by decide) mR_201 rfl trivial
theorem r202_0 : runs cal 202 0 [v0, v1, v2] [] I = runs cal 202 1 [v0, v1, v2] [vI (0)] I := runs_to (ins_of mI_202 (by rfl)) rfl rfl
theorem r202_1 : runs cal 202 1 [v0, vI u, v2] [vI x0] I = runs cal 202 2 [v0, vI u, vI x0] [] I := runs_to (ins_of mI_202 (by rfl)) rfl rfl
theorem r202_2 : runs cal 202 2 [v0, v1, vI w] [] I = runs cal 202 3 [v0, v1, vI w] [vI w] I := runs_to (ins_of mI_202 (by rfl)) rfl rfl
theorem r202_3 : runs cal 202 3 [v0, v1, v2] [vI x0] I = runs cal 202 5 [v0, v1, v2] [vI (73728), vI x0] I := runs_to (ins_of mI_202 (by rfl)) rfl (by simp only [stepI, ldk, mC_202]; rfl)
theorem r202_5 : runs cal 202 5 [v0, v1, v2] [vI x0, vI x1] I = if x1 < x0 then runs cal 202 8 [v0, v1, v2] [] I else runs cal 202 21 [v0, v1, v2] [] I := st_cmp_ge (ins_of mI_202 (by rfl)) (by decide)
theorem r202_8 : runs cal 202 8 [vR 70, v1, v2] [] I = runs cal 202 9 [vR 70, v1, v2] [vR 70] I := runs_to (ins_of mI_202 (by rfl)) rfl rfl
theorem r202_9 : runs cal 202 9 [v0, v1, v2] [vR 70] I = runs cal 202 12 [v0, v1, v2] [vR 81] I := st_getR (ins_of mI_202 (by rfl)) mC_202 (by decide) fr_11_43 cT_70 (wdc wid_202 wd_70) rfl rfl
theorem r202_12 : runs cal 202 12 [v0, v1, vI w] [vR 81] I = runs cal 202 13 [v0, v1, vI w] [vI w, vR 81] I := runs_to (ins_of mI_202 (by rfl)) rfl rfl
theorem r202_13 : runs cal 202 13 [v0, v1, v2] [vI x0, vR 81] I = runs cal 202 14 [v0, v1, v2] [vI (-1), vI x0, vR 81] I := runs_to (ins_of mI_202 (by rfl)) rfl rfl
theorem r202_14 : runs cal 202 14 [v0, v1, v2] [vI x0, vI x1, vR 81] I = if 0 ≤ x1 ∧ x1 < 73728 then runs cal 202 15 [v0, v1, v2] [] (mset I 81 x1 x0) else none := st_iast (ins_of mI_202 (by rfl)) cT_81 (wdc wid_202 wd_81)
theorem r202_15 : runs cal 202 15 [v0, vI u, vI w] [] I = runs cal 202 18 [v0, vI u, vI (iadd w (1))] [] I := runs_to (ins_of mI_202 (by rfl)) rfl rfl
theorem r202_18 : runs cal 202 18 [v0, v1, v2] [] I = runs cal 202 2 [v0, v1, v2] [] I := st_goto (ins_of mI_202 (by rfl)) (by decide)
theorem r202_21 : runs cal 202 21 [vR 70, v1, v2] [] I = runs cal 202 22 [vR 70, v1, v2] [vR 70] I := runs_to (ins_of mI_202 (by rfl)) rfl rfl
theorem r202_22 : runs cal 202 22 [v0, v1, v2] [vR 70] I = runs cal 202 25 [v0, v1, v2] [vR 82] I := st_getR (ins_of mI_202 (by rfl)) mC_202 (by decide) fr_11_46 cT_70 (wdc wid_202 wd_70) rfl rfl
theorem r202_25 : runs cal 202 25 [v0, v1, v2] [vR 82] I = runs cal 202 26 [v0, v1, v2] [vI (0), vR 82] I := runs_to (ins_of mI_202 (by rfl)) rfl rfl
theorem r202_26 : runs cal 202 26 [v0, vI w, v2] [vI x0, vR 82] I = runs cal 202 27 [v0, vI w, v2] [vI w, vI x0, vR 82] I := runs_to (ins_of mI_202 (by rfl)) rfl rfl
theorem r202_27 : runs cal 202 27 [v0, v1, v2] [vI x0, vI x1, vR 82] I = if 0 ≤ x1 ∧ x1 < 73728 then runs cal 202 28 [v0, v1, v2] [] (mset I 82 x1 x0) else none := st_iast (ins_of mI_202 (by rfl)) cT_82 (wdc wid_202 wd_82)
theorem r202_28 : runs cal 202 28 [vR 70, v1, v2] [] I = runs cal 202 29 [vR 70, v1, v2] [vR 70] I := runs_to (ins_of mI_202 (by rfl)) rfl rfl
theorem r202_29 : runs cal 202 29 [v0, v1, v2] [vR 70] I = runs cal 202 32 [v0, v1, v2] [vR 81] I := st_getR (ins_of mI_202 (by rfl)) mC_202 (by decide) fr_11_43 cT_70 (wdc wid_202 wd_70) rfl rfl
theorem r202_32 : runs cal 202 32 [v0, vI w, v2] [vR 81] I = runs cal 202 33 [v0, vI w, v2] [vI w, vR 81] I := runs_to (ins_of mI_202 (by rfl)) rfl rfl
theorem r202_33 : runs cal 202 33 [v0, v1, v2] [vI x0, vR 81] I = runs cal 202 34 [v0, v1, v2] [vI (0), vI x0, vR 81] I := runs_to (ins_of mI_202 (by rfl)) rfl rfl
theorem r202_34 : runs cal 202 34 [v0, v1, v2] [vI x0, vI x1, vR 81] I = if 0 ≤ x1 ∧ x1 < 73728 then runs cal 202 35 [v0, v1, v2] [] (mset I 81 x1 x0) else none := st_iast (ins_of mI_202 (by rfl)) cT_81 (wdc wid_202 wd_81)
theorem r202_35 : runs cal 202 35 [vR 70, v1, v2] [] I = runs cal 202 36 [vR 70, v1, v2] [vR 70] I := runs_to (ins_of mI_202 (by rfl)) rfl rfl
theorem r202_36 : runs cal 202 36 [v0, v1, v2] [vR 70] I = runs cal 202 37 [v0, v1, v2] [vI (1), vR 70] I := runs_to (ins_of mI_202 (by rfl)) rfl rfl
theorem r202_37 : runs cal 202 37 [v0, v1, v2] [vI x0, vR 70] I = runs cal 202 40 [v0, v1, v2] [] (mset I 70 18 x0) := st_putI (ins_of mI_202 (by rfl)) mC_202 fr_11_254 cT_70 (wdc wid_202 wd_70) rfl
theorem r202_40 : runs cal 202 40 [v0, v1, v2] [] I = some (none, I) := st_ret (q := none) (k := 3) (ins_of mI_202 (by rfl)) rfl (by decide) mR_202 rfl trivial
end PRINTED
