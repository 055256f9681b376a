section PRINTED
variable {cal : Nat → List AV → MM → Option RES} {I : MM}
variable {v0 v1 v2 v3 v4 v5 v6 v7 v8 v9 v10 v11 v12 v13 v14 v15 v16 v17 v18 v19 v20 v21 v22 v23 v24 v25 v26 v27 v28 v29 v30 v31 v32 v33 v34 v35 v36 v37 v38 v39 v40 v41 v42 v43 v44 v45 v46 v47 v48 v49 v50 v51 v52 v53 v54 v55 v56 v57 v58 v59 : AV} {x0 x1 x2 x3 x4 x5 x6 x7 x8 x9 w u : Int} {a0 a1 a2 a3 a4 a5 a6 b0 : Nat}

theorem r0_0 : runs cal 0 0 [vR 10, v1] [] I = runs cal 0 1 [vR 10, v1] [vR 10] I := runs_to (ins_of mI_0 (by rfl)) rfl rfl
theorem r0_1 : runs cal 0 1 [v0, vI w] [vR 10] I = runs cal 0 2 [v0, vI w] [vI w, vR 10] I := runs_to (ins_of mI_0 (by rfl)) rfl rfl
theorem r0_2 : runs cal 0 2 [v0, v1] [vI x0, vR 10] I = runs cal 0 5 [v0, v1] [] (mset I 10 0 x0) := st_putI (ins_of mI_0 (by rfl)) mC_0 fr_0_11 cT_10 (wdc wid_0 wd_10) rfl
theorem r0_5 : runs cal 0 5 [vR 10, v1] [] I = runs cal 0 6 [vR 10, v1] [vR 10] I := runs_to (ins_of mI_0 (by rfl)) rfl rfl
theorem r0_6 : runs cal 0 6 [v0, v1] [vR 10] I = runs cal 0 7 [v0, v1] [vI (0), vR 10] I := runs_to (ins_of mI_0 (by rfl)) rfl rfl
theorem r0_7 : runs cal 0 7 [v0, v1] [vI x0, vR 10] I = runs cal 0 10 [v0, v1] [] (mset I 10 1 x0) := st_putI (ins_of mI_0 (by rfl)) mC_0 fr_0_37 cT_10 (wdc wid_0 wd_10) rfl
theorem r0_10 : runs cal 0 10 [vR 10, v1] [] I = runs cal 0 11 [vR 10, v1] [vR 10] I := runs_to (ins_of mI_0 (by rfl)) rfl rfl
theorem r0_11 : runs cal 0 11 [v0, v1] [vR 10] I = runs cal 0 12 [v0, v1] [vI (0), vR 10] I := runs_to (ins_of mI_0 (by rfl)) rfl rfl
theorem r0_12 : runs cal 0 12 [v0, v1] [vI x0, vR 10] I = runs cal 0 15 [v0, v1] [] (mset I 10 2 x0) := st_putI (ins_of mI_0 (by rfl)) mC_0 fr_0_40 cT_10 (wdc wid_0 wd_10) rfl
theorem r0_15 : runs cal 0 15 [vR 10, v1] [] I = runs cal 0 16 [vR 10, v1] [vR 10] I := runs_to (ins_of mI_0 (by rfl)) rfl rfl
theorem r0_16 : runs cal 0 16 [v0, v1] [vR 10] I = runs cal 0 17 [v0, v1] [vI (0), vR 10] I := runs_to (ins_of mI_0 (by rfl)) rfl rfl
theorem r0_17 : runs cal 0 17 [v0, v1] [vI x0, vR 10] I = runs cal 0 20 [v0, v1] [] (mset I 10 3 x0) := st_putI (ins_of mI_0 (by rfl)) mC_0 fr_0_43 cT_10 (wdc wid_0 wd_10) rfl
theorem r0_20 : runs cal 0 20 [vR 10, v1] [] I = runs cal 0 21 [vR 10, v1] [vR 10] I := runs_to (ins_of mI_0 (by rfl)) rfl rfl
theorem r0_21 : runs cal 0 21 [v0, v1] [vR 10] I = runs cal 0 22 [v0, v1] [vI (0), vR 10] I := runs_to (ins_of mI_0 (by rfl)) rfl rfl
theorem r0_22 : runs cal 0 22 [v0, v1] [vI x0, vR 10] I = runs cal 0 25 [v0, v1] [] (mset I 10 4 x0) := st_putI (ins_of mI_0 (by rfl)) mC_0 fr_0_46 cT_10 (wdc wid_0 wd_10) rfl
theorem r0_25 : runs cal 0 25 [v0, v1] [] I = some (none, I) := st_ret (q := none) (k := 3) (ins_of mI_0 (by rfl)) rfl (by decide) mR_0 rfl trivial
theorem r1_0 : runs cal 1 0 [vR 2, v1] [] I = runs cal 1 1 [vR 2, v1] [vR 2] I := runs_to (ins_of mI_1 (by rfl)) rfl rfl
theorem r1_1 : runs cal 1 1 [v0, vR 10] [vR 2] I = runs cal 1 2 [v0, vR 10] [vR 10, vR 2] I := runs_to (ins_of mI_1 (by rfl)) rfl rfl
theorem r1_2 : runs cal 1 2 [v0, v1] [vR 10, vR 2] I = runs cal 1 5 [v0, v1] [vI (I 10 0), vR 2] I := st_getI (ins_of mI_1 (by rfl)) mC_1 (by decide) fr_0_11 cT_10 (wdc wid_1 wd_10) (Or.inl rfl)
theorem r1_5 : runs cal 1 5 [v0, v1] [vI x0, vR 2] I = runs cal 1 8 [v0, v1] [] (mset I 2 0 x0) := st_putI (ins_of mI_1 (by rfl)) mC_1 fr_0_11 cT_2 (wdc wid_1 wd_2) rfl
theorem r1_8 : runs cal 1 8 [vR 2, v1] [] I = runs cal 1 9 [vR 2, v1] [vR 2] I := runs_to (ins_of mI_1 (by rfl)) rfl rfl
theorem r1_9 : runs cal 1 9 [v0, vR 10] [vR 2] I = runs cal 1 10 [v0, vR 10] [vR 10, vR 2] I := runs_to (ins_of mI_1 (by rfl)) rfl rfl
theorem r1_10 : runs cal 1 10 [v0, v1] [vR 10, vR 2] I = runs cal 1 13 [v0, v1] [vI (I 10 1), vR 2] I := st_getI (ins_of mI_1 (by rfl)) mC_1 (by decide) fr_0_37 cT_10 (wdc wid_1 wd_10) (Or.inl rfl)
theorem r1_13 : runs cal 1 13 [v0, v1] [vI x0, vR 2] I = runs cal 1 16 [v0, v1] [] (mset I 2 1 x0) := st_putI (ins_of mI_1 (by rfl)) mC_1 fr_0_37 cT_2 (wdc wid_1 wd_2) rfl
theorem r1_16 : runs cal 1 16 [vR 2, v1] [] I = runs cal 1 17 [vR 2, v1] [vR 2] I := runs_to (ins_of mI_1 (by rfl)) rfl rfl
theorem r1_17 : runs cal 1 17 [v0, vR 10] [vR 2] I = runs cal 1 18 [v0, vR 10] [vR 10, vR 2] I := runs_to (ins_of mI_1 (by rfl)) rfl rfl
theorem r1_18 : runs cal 1 18 [v0, v1] [vR 10, vR 2] I = runs cal 1 21 [v0, v1] [vI (I 10 2), vR 2] I := st_getI (ins_of mI_1 (by rfl)) mC_1 (by decide) fr_0_40 cT_10 (wdc wid_1 wd_10) (Or.inl rfl)
theorem r1_21 : runs cal 1 21 [v0, v1] [vI x0, vR 2] I = runs cal 1 24 [v0, v1] [] (mset I 2 2 x0) := st_putI (ins_of mI_1 (by rfl)) mC_1 fr_0_40 cT_2 (wdc wid_1 wd_2) rfl
theorem r1_24 : runs cal 1 24 [vR 2, v1] [] I = runs cal 1 25 [vR 2, v1] [vR 2] I := runs_to (ins_of mI_1 (by rfl)) rfl rfl
theorem r1_25 : runs cal 1 25 [v0, vR 10] [vR 2] I = runs cal 1 26 [v0, vR 10] [vR 10, vR 2] I := runs_to (ins_of mI_1 (by rfl)) rfl rfl
theorem r1_26 : runs cal 1 26 [v0, v1] [vR 10, vR 2] I = runs cal 1 29 [v0, v1] [vI (I 10 3), vR 2] I := st_getI (ins_of mI_1 (by rfl)) mC_1 (by decide) fr_0_43 cT_10 (wdc wid_1 wd_10) (Or.inl rfl)
theorem r1_29 : runs cal 1 29 [v0, v1] [vI x0, vR 2] I = runs cal 1 32 [v0, v1] [] (mset I 2 3 x0) := st_putI (ins_of mI_1 (by rfl)) mC_1 fr_0_43 cT_2 (wdc wid_1 wd_2) rfl
theorem r1_32 : runs cal 1 32 [vR 2, v1] [] I = runs cal 1 33 [vR 2, v1] [vR 2] I := runs_to (ins_of mI_1 (by rfl)) rfl rfl
theorem r1_33 : runs cal 1 33 [v0, vR 10] [vR 2] I = runs cal 1 34 [v0, vR 10] [vR 10, vR 2] I := runs_to (ins_of mI_1 (by rfl)) rfl rfl
theorem r1_34 : runs cal 1 34 [v0, v1] [vR 10, vR 2] I = runs cal 1 37 [v0, v1] [vI (I 10 4), vR 2] I := st_getI (ins_of mI_1 (by rfl)) mC_1 (by decide) fr_0_46 cT_10 (wdc wid_1 wd_10) (Or.inl rfl)
theorem r1_37 : runs cal 1 37 [v0, v1] [vI x0, vR 2] I = runs cal 1 40 [v0, v1] [] (mset I 2 4 x0) := st_putI (ins_of mI_1 (by rfl)) mC_1 fr_0_46 cT_2 (wdc wid_1 wd_2) rfl
theorem r1_40 : runs cal 1 40 [v0, vR 10] [] I = runs cal 1 41 [v0, vR 10] [vR 10] I := runs_to (ins_of mI_1 (by rfl)) rfl rfl
theorem r1_41 : runs cal 1 41 [v0, v1] [vR 10] I = runs cal 1 44 [v0, v1] [vR 11] I := st_getR (ins_of mI_1 (by rfl)) mC_1 (by decide) fr_0_15 cT_10 (wdc wid_1 wd_10) rfl rfl
theorem r1_44 : runs cal 1 44 [v0, v1] [vR 11] I = runs cal 1 45 [v0, v1] [vI (0), vR 11] I := runs_to (ins_of mI_1 (by rfl)) rfl rfl
theorem r1_45 : runs cal 1 45 [vR 2, v1] [vI x0, vR 11] I = runs cal 1 46 [vR 2, v1] [vR 2, vI x0, vR 11] I := runs_to (ins_of mI_1 (by rfl)) rfl rfl
theorem r1_46 : runs cal 1 46 [v0, v1] [vR 2, vI x1, vR 11] I = runs cal 1 49 [v0, v1] [vR 3, vI x1, vR 11] I := st_getR (ins_of mI_1 (by rfl)) mC_1 (by decide) fr_0_15 cT_2 (wdc wid_1 wd_2) rfl rfl
theorem r1_49 : runs cal 1 49 [v0, v1] [vR 3, vI x1, vR 11] I = runs cal 1 50 [v0, v1] [vI (0), vR 3, vI x1, vR 11] I := runs_to (ins_of mI_1 (by rfl)) rfl rfl
theorem r1_50 : runs cal 1 50 [v0, v1] [vI x0, vR 3, vI x2, vR 11] I = runs cal 1 51 [v0, v1] [vI (3), vI x0, vR 3, vI x2, vR 11] I := runs_to (ins_of mI_1 (by rfl)) rfl rfl
theorem r1_51 : runs cal 1 51 [v0, v1] [vI x0, vI x1, vR 3, vI x3, vR 11] I = if 0 ≤ x3 ∧ 0 ≤ x1 ∧ 0 ≤ x0 ∧ x3 + x0 ≤ 3 ∧ x1 + x0 ≤ 3 then runs cal 1 54 [v0, v1] [] (mcpy I 11 x3 3 x1 x0) else none := st_copy (ins_of mI_1 (by rfl)) mC_1 mr_0_49 cT_11 cT_3 (wdc wid_1 wd_11) (wdc wid_1 wd_3) (by decide)
theorem r1_54 : runs cal 1 54 [v0, vR 10] [] I = runs cal 1 55 [v0, vR 10] [vR 10] I := runs_to (ins_of mI_1 (by rfl)) rfl rfl
theorem r1_55 : runs cal 1 55 [v0, v1] [vR 10] I = runs cal 1 58 [v0, v1] [vR 12] I := st_getR (ins_of mI_1 (by rfl)) mC_1 (by decide) fr_0_19 cT_10 (wdc wid_1 wd_10) rfl rfl
theorem r1_58 : runs cal 1 58 [v0, v1] [vR 12] I = runs cal 1 59 [v0, v1] [vI (0), vR 12] I := runs_to (ins_of mI_1 (by rfl)) rfl rfl
theorem r1_59 : runs cal 1 59 [vR 2, v1] [vI x0, vR 12] I = runs cal 1 60 [vR 2, v1] [vR 2, vI x0, vR 12] I := runs_to (ins_of mI_1 (by rfl)) rfl rfl
theorem r1_60 : runs cal 1 60 [v0, v1] [vR 2, vI x1, vR 12] I = runs cal 1 63 [v0, v1] [vR 4, vI x1, vR 12] I := st_getR (ins_of mI_1 (by rfl)) mC_1 (by decide) fr_0_19 cT_2 (wdc wid_1 wd_2) rfl rfl
theorem r1_63 : runs cal 1 63 [v0, v1] [vR 4, vI x1, vR 12] I = runs cal 1 64 [v0, v1] [vI (0), vR 4, vI x1, vR 12] I := runs_to (ins_of mI_1 (by rfl)) rfl rfl
theorem r1_64 : runs cal 1 64 [v0, v1] [vI x0, vR 4, vI x2, vR 12] I = runs cal 1 65 [v0, v1] [vI (3), vI x0, vR 4, vI x2, vR 12] I := runs_to (ins_of mI_1 (by rfl)) rfl rfl
theorem r1_65 : runs cal 1 65 [v0, v1] [vI x0, vI x1, vR 4, vI x3, vR 12] I = if 0 ≤ x3 ∧ 0 ≤ x1 ∧ 0 ≤ x0 ∧ x3 + x0 ≤ 3 ∧ x1 + x0 ≤ 3 then runs cal 1 68 [v0, v1] [] (mcpy I 12 x3 4 x1 x0) else none := st_copy (ins_of mI_1 (by rfl)) mC_1 mr_0_49 cT_12 cT_4 (wdc wid_1 wd_12) (wdc wid_1 wd_4) (by decide)
theorem r1_68 : runs cal 1 68 [v0, vR 10] [] I = runs cal 1 69 [v0, vR 10] [vR 10] I := runs_to (ins_of mI_1 (by rfl)) rfl rfl
theorem r1_69 : runs cal 1 69 [v0, v1] [vR 10] I = runs cal 1 72 [v0, v1] [vR 13] I := st_getR (ins_of mI_1 (by rfl)) mC_1 (by decide) fr_0_22 cT_10 (wdc wid_1 wd_10) rfl rfl
theorem r1_72 : runs cal 1 72 [v0, v1] [vR 13] I = runs cal 1 73 [v0, v1] [vI (0), vR 13] I := runs_to (ins_of mI_1 (by rfl)) rfl rfl
theorem r1_73 : runs cal 1 73 [vR 2, v1] [vI x0, vR 13] I = runs cal 1 74 [vR 2, v1] [vR 2, vI x0, vR 13] I := runs_to (ins_of mI_1 (by rfl)) rfl rfl
theorem r1_74 : runs cal 1 74 [v0, v1] [vR 2, vI x1, vR 13] I = runs cal 1 77 [v0, v1] [vR 5, vI x1, vR 13] I := st_getR (ins_of mI_1 (by rfl)) mC_1 (by decide) fr_0_22 cT_2 (wdc wid_1 wd_2) rfl rfl
theorem r1_77 : runs cal 1 77 [v0, v1] [vR 5, vI x1, vR 13] I = runs cal 1 78 [v0, v1] [vI (0), vR 5, vI x1, vR 13] I := runs_to (ins_of mI_1 (by rfl)) rfl rfl
theorem r1_78 : runs cal 1 78 [v0, v1] [vI x0, vR 5, vI x2, vR 13] I = runs cal 1 79 [v0, v1] [vI (2), vI x0, vR 5, vI x2, vR 13] I := runs_to (ins_of mI_1 (by rfl)) rfl rfl
theorem r1_79 : runs cal 1 79 [v0, v1] [vI x0, vI x1, vR 5, vI x3, vR 13] I = if 0 ≤ x3 ∧ 0 ≤ x1 ∧ 0 ≤ x0 ∧ x3 + x0 ≤ 2 ∧ x1 + x0 ≤ 2 then runs cal 1 82 [v0, v1] [] (mcpy I 13 x3 5 x1 x0) else none := st_copy (ins_of mI_1 (by rfl)) mC_1 mr_0_49 cT_13 cT_5 (wdc wid_1 wd_13) (wdc wid_1 wd_5) (by decide)
theorem r1_82 : runs cal 1 82 [v0, vR 10] [] I = runs cal 1 83 [v0, vR 10] [vR 10] I := runs_to (ins_of mI_1 (by rfl)) rfl rfl
theorem r1_83 : runs cal 1 83 [v0, v1] [vR 10] I = runs cal 1 86 [v0, v1] [vR 14] I := st_getR (ins_of mI_1 (by rfl)) mC_1 (by decide) fr_0_25 cT_10 (wdc wid_1 wd_10) rfl rfl
theorem r1_86 : runs cal 1 86 [v0, v1] [vR 14] I = runs cal 1 87 [v0, v1] [vI (0), vR 14] I := runs_to (ins_of mI_1 (by rfl)) rfl rfl
theorem r1_87 : runs cal 1 87 [vR 2, v1] [vI x0, vR 14] I = runs cal 1 88 [vR 2, v1] [vR 2, vI x0, vR 14] I := runs_to (ins_of mI_1 (by rfl)) rfl rfl
theorem r1_88 : runs cal 1 88 [v0, v1] [vR 2, vI x1, vR 14] I = runs cal 1 91 [v0, v1] [vR 6, vI x1, vR 14] I := st_getR (ins_of mI_1 (by rfl)) mC_1 (by decide) fr_0_25 cT_2 (wdc wid_1 wd_2) rfl rfl
theorem r1_91 : runs cal 1 91 [v0, v1] [vR 6, vI x1, vR 14] I = runs cal 1 92 [v0, v1] [vI (0), vR 6, vI x1, vR 14] I := runs_to (ins_of mI_1 (by rfl)) rfl rfl
theorem r1_92 : runs cal 1 92 [v0, v1] [vI x0, vR 6, vI x2, vR 14] I = runs cal 1 93 [v0, v1] [vI (2), vI x0, vR 6, vI x2, vR 14] I := runs_to (ins_of mI_1 (by rfl)) rfl rfl
theorem r1_93 : runs cal 1 93 [v0, v1] [vI x0, vI x1, vR 6, vI x3, vR 14] I = if 0 ≤ x3 ∧ 0 ≤ x1 ∧ 0 ≤ x0 ∧ x3 + x0 ≤ 2 ∧ x1 + x0 ≤ 2 then runs cal 1 96 [v0, v1] [] (mcpy I 14 x3 6 x1 x0) else none := st_copy (ins_of mI_1 (by rfl)) mC_1 mr_0_49 cT_14 cT_6 (wdc wid_1 wd_14) (wdc wid_1 wd_6) (by decide)
theorem r1_96 : runs cal 1 96 [v0, vR 10] [] I = runs cal 1 97 [v0, vR 10] [vR 10] I := runs_to (ins_of mI_1 (by rfl)) rfl rfl
theorem r1_97 : runs cal 1 97 [v0, v1] [vR 10] I = runs cal 1 100 [v0, v1] [vR 15] I := st_getR (ins_of mI_1 (by rfl)) mC_1 (by decide) fr_0_28 cT_10 (wdc wid_1 wd_10) rfl rfl
theorem r1_100 : runs cal 1 100 [v0, v1] [vR 15] I = runs cal 1 101 [v0, v1] [vI (0), vR 15] I := runs_to (ins_of mI_1 (by rfl)) rfl rfl
theorem r1_101 : runs cal 1 101 [vR 2, v1] [vI x0, vR 15] I = runs cal 1 102 [vR 2, v1] [vR 2, vI x0, vR 15] I := runs_to (ins_of mI_1 (by rfl)) rfl rfl
theorem r1_102 : runs cal 1 102 [v0, v1] [vR 2, vI x1, vR 15] I = runs cal 1 105 [v0, v1] [vR 7, vI x1, vR 15] I := st_getR (ins_of mI_1 (by rfl)) mC_1 (by decide) fr_0_28 cT_2 (wdc wid_1 wd_2) rfl rfl
theorem r1_105 : runs cal 1 105 [v0, v1] [vR 7, vI x1, vR 15] I = runs cal 1 106 [v0, v1] [vI (0), vR 7, vI x1, vR 15] I := runs_to (ins_of mI_1 (by rfl)) rfl rfl
theorem r1_106 : runs cal 1 106 [v0, v1] [vI x0, vR 7, vI x2, vR 15] I = runs cal 1 107 [v0, v1] [vI (2), vI x0, vR 7, vI x2, vR 15] I := runs_to (ins_of mI_1 (by rfl)) rfl rfl
theorem r1_107 : runs cal 1 107 [v0, v1] [vI x0, vI x1, vR 7, vI x3, vR 15] I = if 0 ≤ x3 ∧ 0 ≤ x1 ∧ 0 ≤ x0 ∧ x3 + x0 ≤ 2 ∧ x1 + x0 ≤ 2 then runs cal 1 110 [v0, v1] [] (mcpy I 15 x3 7 x1 x0) else none := st_copy (ins_of mI_1 (by rfl)) mC_1 mr_0_49 cT_15 cT_7 (wdc wid_1 wd_15) (wdc wid_1 wd_7) (by decide)
theorem r1_110 : runs cal 1 110 [v0, vR 10] [] I = runs cal 1 111 [v0, vR 10] [vR 10] I := runs_to (ins_of mI_1 (by rfl)) rfl rfl
theorem r1_111 : runs cal 1 111 [v0, v1] [vR 10] I = runs cal 1 114 [v0, v1] [vR 16] I := st_getR (ins_of mI_1 (by rfl)) mC_1 (by decide) fr_0_31 cT_10 (wdc wid_1 wd_10) rfl rfl
theorem r1_114 : runs cal 1 114 [v0, v1] [vR 16] I = runs cal 1 115 [v0, v1] [vI (0), vR 16] I := runs_to (ins_of mI_1 (by rfl)) rfl rfl
theorem r1_115 : runs cal 1 115 [vR 2, v1] [vI x0, vR 16] I = runs cal 1 116 [vR 2, v1] [vR 2, vI x0, vR 16] I := runs_to (ins_of mI_1 (by rfl)) rfl rfl
theorem r1_116 : runs cal 1 116 [v0, v1] [vR 2, vI x1, vR 16] I = runs cal 1 119 [v0, v1] [vR 8, vI x1, vR 16] I := st_getR (ins_of mI_1 (by rfl)) mC_1 (by decide) fr_0_31 cT_2 (wdc wid_1 wd_2) rfl rfl
theorem r1_119 : runs cal 1 119 [v0, v1] [vR 8, vI x1, vR 16] I = runs cal 1 120 [v0, v1] [vI (0), vR 8, vI x1, vR 16] I := runs_to (ins_of mI_1 (by rfl)) rfl rfl
theorem r1_120 : runs cal 1 120 [v0, v1] [vI x0, vR 8, vI x2, vR 16] I = runs cal 1 121 [v0, v1] [vI (2), vI x0, vR 8, vI x2, vR 16] I := runs_to (ins_of mI_1 (by rfl)) rfl rfl
theorem r1_121 : runs cal 1 121 [v0, v1] [vI x0, vI x1, vR 8, vI x3, vR 16] I = if 0 ≤ x3 ∧ 0 ≤ x1 ∧ 0 ≤ x0 ∧ x3 + x0 ≤ 2 ∧ x1 + x0 ≤ 2 then runs cal 1 124 [v0, v1] [] (mcpy I 16 x3 8 x1 x0) else none := st_copy (ins_of mI_1 (by rfl)) mC_1 mr_0_49 cT_16 cT_8 (wdc wid_1 wd_16) (wdc wid_1 wd_8) (by decide)
theorem r1_124 : runs cal 1 124 [v0, vR 10] [] I = runs cal 1 125 [v0, vR 10] [vR 10] I := runs_to (ins_of mI_1 (by rfl)) rfl rfl
theorem r1_125 : runs cal 1 125 [v0, v1] [vR 10] I = runs cal 1 128 [v0, v1] [vR 17] I := st_getR (ins_of mI_1 (by rfl)) mC_1 (by decide) fr_0_34 cT_10 (wdc wid_1 wd_10) rfl rfl
theorem r1_128 : runs cal 1 128 [v0, v1] [vR 17] I = runs cal 1 129 [v0, v1] [vI (0), vR 17] I := runs_to (ins_of mI_1 (by rfl)) rfl rfl
theorem r1_129 : runs cal 1 129 [vR 2, v1] [vI x0, vR 17] I = runs cal 1 130 [vR 2, v1] [vR 2, vI x0, vR 17] I := runs_to (ins_of mI_1 (by rfl)) rfl rfl
theorem r1_130 : runs cal 1 130 [v0, v1] [vR 2, vI x1, vR 17] I = runs cal 1 133 [v0, v1] [vR 9, vI x1, vR 17] I := st_getR (ins_of mI_1 (by rfl)) mC_1 (by decide) fr_0_34 cT_2 (wdc wid_1 wd_2) rfl rfl
theorem r1_133 : runs cal 1 133 [v0, v1] [vR 9, vI x1, vR 17] I = runs cal 1 134 [v0, v1] [vI (0), vR 9, vI x1, vR 17] I := runs_to (ins_of mI_1 (by rfl)) rfl rfl
theorem r1_134 : runs cal 1 134 [v0, v1] [vI x0, vR 9, vI x2, vR 17] I = runs cal 1 135 [v0, v1] [vI (2), vI x0, vR 9, vI x2, vR 17] I := runs_to (ins_of mI_1 (by rfl)) rfl rfl
theorem r1_135 : runs cal 1 135 [v0, v1] [vI x0, vI x1, vR 9, vI x3, vR 17] I = if 0 ≤ x3 ∧ 0 ≤ x1 ∧ 0 ≤ x0 ∧ x3 + x0 ≤ 2 ∧ x1 + x0 ≤ 2 then runs cal 1 138 [v0, v1] [] (mcpy I 17 x3 9 x1 x0) else none := st_copy (ins_of mI_1 (by rfl)) mC_1 mr_0_49 cT_17 cT_9 (wdc wid_1 wd_17) (wdc wid_1 wd_9) (by decide)
theorem r1_138 : runs cal 1 138 [v0, v1] [] I = some (none, I) := st_ret (q := none) (k := 3) (ins_of mI_1 (by rfl)) rfl (by decide) mR_1 rfl trivial
theorem r1_1a : runs cal 1 1 [v0, vR 41] [vR 2] I = runs cal 1 2 [v0, vR 41] [vR 41, vR 2] I := runs_to (ins_of mI_1 (by rfl)) rfl rfl
theorem r1_2a : runs cal 1 2 [v0, v1] [vR 41, vR 2] I = runs cal 1 5 [v0, v1] [vI (I 41 0), vR 2] I := st_getI (ins_of mI_1 (by rfl)) mC_1 (by decide) fr_0_11 cT_41 (wdc wid_1 wd_41) (Or.inl rfl)
theorem r1_9a : runs cal 1 9 [v0, vR 41] [vR 2] I = runs cal 1 10 [v0, vR 41] [vR 41, vR 2] I := runs_to (ins_of mI_1 (by rfl)) rfl rfl
theorem r1_10a : runs cal 1 10 [v0, v1] [vR 41, vR 2] I = runs cal 1 13 [v0, v1] [vI (I 41 1), vR 2] I := st_getI (ins_of mI_1 (by rfl)) mC_1 (by decide) fr_0_37 cT_41 (wdc wid_1 wd_41) (Or.inl rfl)
theorem r1_17a : runs cal 1 17 [v0, vR 41] [vR 2] I = runs cal 1 18 [v0, vR 41] [vR 41, vR 2] I := runs_to (ins_of mI_1 (by rfl)) rfl rfl
theorem r1_18a : runs cal 1 18 [v0, v1] [vR 41, vR 2] I = runs cal 1 21 [v0, v1] [vI (I 41 2), vR 2] I := st_getI (ins_of mI_1 (by rfl)) mC_1 (by decide) fr_0_40 cT_41 (wdc wid_1 wd_41) (Or.inl rfl)
theorem r1_25a : runs cal 1 25 [v0, vR 41] [vR 2] I = runs cal 1 26 [v0, vR 41] [vR 41, vR 2] I := runs_to (ins_of mI_1 (by rfl)) rfl rfl
theorem r1_26a : runs cal 1 26 [v0, v1] [vR 41, vR 2] I = runs cal 1 29 [v0, v1] [vI (I 41 3), vR 2] I := st_getI (ins_of mI_1 (by rfl)) mC_1 (by decide) fr_0_43 cT_41 (wdc wid_1 wd_41) (Or.inl rfl)
theorem r1_33a : runs cal 1 33 [v0, vR 41] [vR 2] I = runs cal 1 34 [v0, vR 41] [vR 41, vR 2] I := runs_to (ins_of mI_1 (by rfl)) rfl rfl
theorem r1_34a : runs cal 1 34 [v0, v1] [vR 41, vR 2] I = runs cal 1 37 [v0, v1] [vI (I 41 4), vR 2] I := st_getI (ins_of mI_1 (by rfl)) mC_1 (by decide) fr_0_46 cT_41 (wdc wid_1 wd_41) (Or.inl rfl)
theorem r1_40a : runs cal 1 40 [v0, vR 41] [] I = runs cal 1 41 [v0, vR 41] [vR 41] I := runs_to (ins_of mI_1 (by rfl)) rfl rfl
theorem r1_41a : runs cal 1 41 [v0, v1] [vR 41] I = runs cal 1 44 [v0, v1] [vR 42] I := st_getR (ins_of mI_1 (by rfl)) mC_1 (by decide) fr_0_15 cT_41 (wdc wid_1 wd_41) rfl rfl
theorem r1_44a : runs cal 1 44 [v0, v1] [vR 42] I = runs cal 1 45 [v0, v1] [vI (0), vR 42] I := runs_to (ins_of mI_1 (by rfl)) rfl rfl
theorem r1_45a : runs cal 1 45 [vR 2, v1] [vI x0, vR 42] I = runs cal 1 46 [vR 2, v1] [vR 2, vI x0, vR 42] I := runs_to (ins_of mI_1 (by rfl)) rfl rfl
theorem r1_46a : runs cal 1 46 [v0, v1] [vR 2, vI x1, vR 42] I = runs cal 1 49 [v0, v1] [vR 3, vI x1, vR 42] I := st_getR (ins_of mI_1 (by rfl)) mC_1 (by decide) fr_0_15 cT_2 (wdc wid_1 wd_2) rfl rfl
theorem r1_49a : runs cal 1 49 [v0, v1] [vR 3, vI x1, vR 42] I = runs cal 1 50 [v0, v1] [vI (0), vR 3, vI x1, vR 42] I := runs_to (ins_of mI_1 (by rfl)) rfl rfl
theorem r1_50a : runs cal 1 50 [v0, v1] [vI x0, vR 3, vI x2, vR 42] I = runs cal 1 51 [v0, v1] [vI (3), vI x0, vR 3, vI x2, vR 42] I := runs_to (ins_of mI_1 (by rfl)) rfl rfl
theorem r1_51a : runs cal 1 51 [v0, v1] [vI x0, vI x1, vR 3, vI x3, vR 42] I = if 0 ≤ x3 ∧ 0 ≤ x1 ∧ 0 ≤ x0 ∧ x3 + x0 ≤ 3 ∧ x1 + x0 ≤ 3 then runs cal 1 54 [v0, v1] [] (mcpy I 42 x3 3 x1 x0) else none := st_copy (ins_of mI_1 (by rfl)) mC_1 mr_0_49 cT_42 cT_3 (wdc wid_1 wd_42) (wdc wid_1 wd_3) (by decide)
theorem r1_54a : runs cal 1 54 [v0, vR 41] [] I = runs cal 1 55 [v0, vR 41] [vR 41] I := runs_to (ins_of mI_1 (by rfl)) rfl rfl
theorem r1_55a : runs cal 1 55 [v0, v1] [vR 41] I = runs cal 1 58 [v0, v1] [vR 43] I := st_getR (ins_of mI_1 (by rfl)) mC_1 (by decide) fr_0_19 cT_41 (wdc wid_1 wd_41) rfl rfl
theorem r1_58a : runs cal 1 58 [v0, v1] [vR 43] I = runs cal 1 59 [v0, v1] [vI (0), vR 43] I := runs_to (ins_of mI_1 (by rfl)) rfl rfl
theorem r1_59a : runs cal 1 59 [vR 2, v1] [vI x0, vR 43] I = runs cal 1 60 [vR 2, v1] [vR 2, vI x0, vR 43] I := runs_to (ins_of mI_1 (by rfl)) rfl rfl
theorem r1_60a : runs cal 1 60 [v0, v1] [vR 2, vI x1, vR 43] I = runs cal 1 63 [v0, v1] [vR 4, vI x1, vR 43] I := st_getR (ins_of mI_1 (by rfl)) mC_1 (by decide) fr_0_19 cT_2 (wdc wid_1 wd_2) rfl rfl
theorem r1_63a : runs cal 1 63 [v0, v1] [vR 4, vI x1, vR 43] I = runs cal 1 64 [v0, v1] [vI (0), vR 4, vI x1, vR 43] I := runs_to (ins_of mI_1 (by rfl)) rfl rfl
theorem r1_64a : runs cal 1 64 [v0, v1] [vI x0, vR 4, vI x2, vR 43] I = runs cal 1 65 [v0, v1] [vI (3), vI x0, vR 4, vI x2, vR 43] I := runs_to (ins_of mI_1 (by rfl)) rfl rfl
theorem r1_65a : runs cal 1 65 [v0, v1] [vI x0, vI x1, vR 4, vI x3, vR 43] I = if 0 ≤ x3 ∧ 0 ≤ x1 ∧ 0 ≤ x0 ∧ x3 + x0 ≤ 3 ∧ x1 + x0 ≤ 3 then runs cal 1 68 [v0, v1] [] (mcpy I 43 x3 4 x1 x0) else none := st_copy (ins_of mI_1 (by rfl)) mC_1 mr_0_49 cT_43 cT_4 (wdc wid_1 wd_43) (wdc wid_1 wd_4) (by decide)
theorem r1_68a : runs cal 1 68 [v0, vR 41] [] I = runs cal 1 69 [v0, vR 41] [vR 41] I := runs_to (ins_of mI_1 (by rfl)) rfl rfl
theorem r1_69a : runs cal 1 69 [v0, v1] [vR 41] I = runs cal 1 72 [v0, v1] [vR 44] I := st_getR (ins_of mI_1 (by rfl)) mC_1 (by decide) fr_0_22 cT_41 (wdc wid_1 wd_41) rfl rfl
theorem r1_72a : runs cal 1 72 [v0, v1] [vR 44] I = runs cal 1 73 [v0, v1] [vI (0), vR 44] I := runs_to (ins_of mI_1 (by rfl)) rfl rfl
theorem r1_73a : runs cal 1 73 [vR 2, v1] [vI x0, vR 44] I = runs cal 1 74 [vR 2, v1] [vR 2, vI x0, vR 44] I := runs_to (ins_of mI_1 (by rfl)) rfl rfl
theorem r1_74a : runs cal 1 74 [v0, v1] [vR 2, vI x1, vR 44] I = runs cal 1 77 [v0, v1] [vR 5, vI x1, vR 44] I := st_getR (ins_of mI_1 (by rfl)) mC_1 (by decide) fr_0_22 cT_2 (wdc wid_1 wd_2) rfl rfl
theorem r1_77a : runs cal 1 77 [v0, v1] [vR 5, vI x1, vR 44] I = runs cal 1 78 [v0, v1] [vI (0), vR 5, vI x1, vR 44] I := runs_to (ins_of mI_1 (by rfl)) rfl rfl
theorem r1_78a : runs cal 1 78 [v0, v1] [vI x0, vR 5, vI x2, vR 44] I = runs cal 1 79 [v0, v1] [vI (2), vI x0, vR 5, vI x2, vR 44] I := runs_to (ins_of mI_1 (by rfl)) rfl rfl
theorem r1_79a : runs cal 1 79 [v0, v1] [vI x0, vI x1, vR 5, vI x3, vR 44] I = if 0 ≤ x3 ∧ 0 ≤ x1 ∧ 0 ≤ x0 ∧ x3 + x0 ≤ 2 ∧ x1 + x0 ≤ 2 then runs cal 1 82 [v0, v1] [] (mcpy I 44 x3 5 x1 x0) else none := st_copy (ins_of mI_1 (by rfl)) mC_1 mr_0_49 cT_44 cT_5 (wdc wid_1 wd_44) (wdc wid_1 wd_5) (by decide)
theorem r1_82a : runs cal 1 82 [v0, vR 41] [] I = runs cal 1 83 [v0, vR 41] [vR 41] I := runs_to (ins_of mI_1 (by rfl)) rfl rfl
theorem r1_83a : runs cal 1 83 [v0, v1] [vR 41] I = runs cal 1 86 [v0, v1] [vR 45] I := st_getR (ins_of mI_1 (by rfl)) mC_1 (by decide) fr_0_25 cT_41 (wdc wid_1 wd_41) rfl rfl
theorem r1_86a : runs cal 1 86 [v0, v1] [vR 45] I = runs cal 1 87 [v0, v1] [vI (0), vR 45] I := runs_to (ins_of mI_1 (by rfl)) rfl rfl
theorem r1_87a : runs cal 1 87 [vR 2, v1] [vI x0, vR 45] I = runs cal 1 88 [vR 2, v1] [vR 2, vI x0, vR 45] I := runs_to (ins_of mI_1 (by rfl)) rfl rfl
theorem r1_88a : runs cal 1 88 [v0, v1] [vR 2, vI x1, vR 45] I = runs cal 1 91 [v0, v1] [vR 6, vI x1, vR 45] I := st_getR (ins_of mI_1 (by rfl)) mC_1 (by decide) fr_0_25 cT_2 (wdc wid_1 wd_2) rfl rfl
theorem r1_91a : runs cal 1 91 [v0, v1] [vR 6, vI x1, vR 45] I = runs cal 1 92 [v0, v1] [vI (0), vR 6, vI x1, vR 45] I := runs_to (ins_of mI_1 (by rfl)) rfl rfl
theorem r1_92a : runs cal 1 92 [v0, v1] [vI x0, vR 6, vI x2, vR 45] I = runs cal 1 93 [v0, v1] [vI (2), vI x0, vR 6, vI x2, vR 45] I := runs_to (ins_of mI_1 (by rfl)) rfl rfl
theorem r1_93a : runs cal 1 93 [v0, v1] [vI x0, vI x1, vR 6, vI x3, vR 45] I = if 0 ≤ x3 ∧ 0 ≤ x1 ∧ 0 ≤ x0 ∧ x3 + x0 ≤ 2 ∧ x1 + x0 ≤ 2 then runs cal 1 96 [v0, v1] [] (mcpy I 45 x3 6 x1 x0) else none := st_copy (ins_of mI_1 (by rfl)) mC_1 mr_0_49 cT_45 cT_6 (wdc wid_1 wd_45) (wdc wid_1 wd_6) (by decide)
theorem r1_96a : runs cal 1 96 [v0, vR 41] [] I = runs cal 1 97 [v0, vR 41] [vR 41] I := runs_to (ins_of mI_1 (by rfl)) rfl rfl
theorem r1_97a : runs cal 1 97 [v0, v1] [vR 41] I = runs cal 1 100 [v0, v1] [vR 46] I := st_getR (ins_of mI_1 (by rfl)) mC_1 (by decide) fr_0_28 cT_41 (wdc wid_1 wd_41) rfl rfl
theorem r1_100a : runs cal 1 100 [v0, v1] [vR 46] I = runs cal 1 101 [v0, v1] [vI (0), vR 46] I := runs_to (ins_of mI_1 (by rfl)) rfl rfl
theorem r1_101a : runs cal 1 101 [vR 2, v1] [vI x0, vR 46] I = runs cal 1 102 [vR 2, v1] [vR 2, vI x0, vR 46] I := runs_to (ins_of mI_1 (by rfl)) rfl rfl
theorem r1_102a : runs cal 1 102 [v0, v1] [vR 2, vI x1, vR 46] I = runs cal 1 105 [v0, v1] [vR 7, vI x1, vR 46] I := st_getR (ins_of mI_1 (by rfl)) mC_1 (by decide) fr_0_28 cT_2 (wdc wid_1 wd_2) rfl rfl
theorem r1_105a : runs cal 1 105 [v0, v1] [vR 7, vI x1, vR 46] I = runs cal 1 106 [v0, v1] [vI (0), vR 7, vI x1, vR 46] I := runs_to (ins_of mI_1 (by rfl)) rfl rfl
theorem r1_106a : runs cal 1 106 [v0, v1] [vI x0, vR 7, vI x2, vR 46] I = runs cal 1 107 [v0, v1] [vI (2), vI x0, vR 7, vI x2, vR 46] I := runs_to (ins_of mI_1 (by rfl)) rfl rfl
theorem r1_107a : runs cal 1 107 [v0, v1] [vI x0, vI x1, vR 7, vI x3, vR 46] I = if 0 ≤ x3 ∧ 0 ≤ x1 ∧ 0 ≤ x0 ∧ x3 + x0 ≤ 2 ∧ x1 + x0 ≤ 2 then runs cal 1 110 [v0, v1] [] (mcpy I 46 x3 7 x1 x0) else none := st_copy (ins_of mI_1 (by rfl)) mC_1 mr_0_49 cT_46 cT_7 (wdc wid_1 wd_46) (wdc wid_1 wd_7) (by decide)
theorem r1_110a : runs cal 1 110 [v0, vR 41] [] I = runs cal 1 111 [v0, vR 41] [vR 41] I := runs_to (ins_of mI_1 (by rfl)) rfl rfl
theorem r1_111a : runs cal 1 111 [v0, v1] [vR 41] I = runs cal 1 114 [v0, v1] [vR 47] I := st_getR (ins_of mI_1 (by rfl)) mC_1 (by decide) fr_0_31 cT_41 (wdc wid_1 wd_41) rfl rfl
theorem r1_114a : runs cal 1 114 [v0, v1] [vR 47] I = runs cal 1 115 [v0, v1] [vI (0), vR 47] I := runs_to (ins_of mI_1 (by rfl)) rfl rfl
theorem r1_115a : runs cal 1 115 [vR 2, v1] [vI x0, vR 47] I = runs cal 1 116 [vR 2, v1] [vR 2, vI x0, vR 47] I := runs_to (ins_of mI_1 (by rfl)) rfl rfl
theorem r1_116a : runs cal 1 116 [v0, v1] [vR 2, vI x1, vR 47] I = runs cal 1 119 [v0, v1] [vR 8, vI x1, vR 47] I := st_getR (ins_of mI_1 (by rfl)) mC_1 (by decide) fr_0_31 cT_2 (wdc wid_1 wd_2) rfl rfl
theorem r1_119a : runs cal 1 119 [v0, v1] [vR 8, vI x1, vR 47] I = runs cal 1 120 [v0, v1] [vI (0), vR 8, vI x1, vR 47] I := runs_to (ins_of mI_1 (by rfl)) rfl rfl
theorem r1_120a : runs cal 1 120 [v0, v1] [vI x0, vR 8, vI x2, vR 47] I = runs cal 1 121 [v0, v1] [vI (2), vI x0, vR 8, vI x2, vR 47] I := runs_to (ins_of mI_1 (by rfl)) rfl rfl
theorem r1_121a : runs cal 1 121 [v0, v1] [vI x0, vI x1, vR 8, vI x3, vR 47] I = if 0 ≤ x3 ∧ 0 ≤ x1 ∧ 0 ≤ x0 ∧ x3 + x0 ≤ 2 ∧ x1 + x0 ≤ 2 then runs cal 1 124 [v0, v1] [] (mcpy I 47 x3 8 x1 x0) else none := st_copy (ins_of mI_1 (by rfl)) mC_1 mr_0_49 cT_47 cT_8 (wdc wid_1 wd_47) (wdc wid_1 wd_8) (by decide)
theorem r1_124a : runs cal 1 124 [v0, vR 41] [] I = runs cal 1 125 [v0, vR 41] [vR 41] I := runs_to (ins_of mI_1 (by rfl)) rfl rfl
theorem r1_125a : runs cal 1 125 [v0, v1] [vR 41] I = runs cal 1 128 [v0, v1] [vR 48] I := st_getR (ins_of mI_1 (by rfl)) mC_1 (by decide) fr_0_34 cT_41 (wdc wid_1 wd_41) rfl rfl
theorem r1_128a : runs cal 1 128 [v0, v1] [vR 48] I = runs cal 1 129 [v0, v1] [vI (0), vR 48] I := runs_to (ins_of mI_1 (by rfl)) rfl rfl
theorem r1_129a : runs cal 1 129 [vR 2, v1] [vI x0, vR 48] I = runs cal 1 130 [vR 2, v1] [vR 2, vI x0, vR 48] I := runs_to (ins_of mI_1 (by rfl)) rfl rfl
theorem r1_130a : runs cal 1 130 [v0, v1] [vR 2, vI x1, vR 48] I = runs cal 1 133 [v0, v1] [vR 9, vI x1, vR 48] I := st_getR (ins_of mI_1 (by rfl)) mC_1 (by decide) fr_0_34 cT_2 (wdc wid_1 wd_2) rfl rfl
theorem r1_133a : runs cal 1 133 [v0, v1] [vR 9, vI x1, vR 48] I = runs cal 1 134 [v0, v1] [vI (0), vR 9, vI x1, vR 48] I := runs_to (ins_of mI_1 (by rfl)) rfl rfl
theorem r1_134a : runs cal 1 134 [v0, v1] [vI x0, vR 9, vI x2, vR 48] I = runs cal 1 135 [v0, v1] [vI (2), vI x0, vR 9, vI x2, vR 48] I := runs_to (ins_of mI_1 (by rfl)) rfl rfl
theorem r1_135a : runs cal 1 135 [v0, v1] [vI x0, vI x1, vR 9, vI x3, vR 48] I = if 0 ≤ x3 ∧ 0 ≤ x1 ∧ 0 ≤ x0 ∧ x3 + x0 ≤ 2 ∧ x1 + x0 ≤ 2 then runs cal 1 138 [v0, v1] [] (mcpy I 48 x3 9 x1 x0) else none := st_copy (ins_of mI_1 (by rfl)) mC_1 mr_0_49 cT_48 cT_9 (wdc wid_1 wd_48) (wdc wid_1 wd_9) (by decide)
theorem r1_1b : runs cal 1 1 [v0, vR 56] [vR 2] I = runs cal 1 2 [v0, vR 56] [vR 56, vR 2] I := runs_to (ins_of mI_1 (by rfl)) rfl rfl
theorem r1_2b : runs cal 1 2 [v0, v1] [vR 56, vR 2] I = runs cal 1 5 [v0, v1] [vI (I 56 0), vR 2] I := st_getI (ins_of mI_1 (by rfl)) mC_1 (by decide) fr_0_11 cT_56 (wdc wid_1 wd_56) (Or.inl rfl)
theorem r1_9b : runs cal 1 9 [v0, vR 56] [vR 2] I = runs cal 1 10 [v0, vR 56] [vR 56, vR 2] I := runs_to (ins_of mI_1 (by rfl)) rfl rfl
theorem r1_10b : runs cal 1 10 [v0, v1] [vR 56, vR 2] I = runs cal 1 13 [v0, v1] [vI (I 56 1), vR 2] I := st_getI (ins_of mI_1 (by rfl)) mC_1 (by decide) fr_0_37 cT_56 (wdc wid_1 wd_56) (Or.inl rfl)
theorem r1_17b : runs cal 1 17 [v0, vR 56] [vR 2] I = runs cal 1 18 [v0, vR 56] [vR 56, vR 2] I := runs_to (ins_of mI_1 (by rfl)) rfl rfl
theorem r1_18b : runs cal 1 18 [v0, v1] [vR 56, vR 2] I = runs cal 1 21 [v0, v1] [vI (I 56 2), vR 2] I := st_getI (ins_of mI_1 (by rfl)) mC_1 (by decide) fr_0_40 cT_56 (wdc wid_1 wd_56) (Or.inl rfl)
theorem r1_25b : runs cal 1 25 [v0, vR 56] [vR 2] I = runs cal 1 26 [v0, vR 56] [vR 56, vR 2] I := runs_to (ins_of mI_1 (by rfl)) rfl rfl
theorem r1_26b : runs cal 1 26 [v0, v1] [vR 56, vR 2] I = runs cal 1 29 [v0, v1] [vI (I 56 3), vR 2] I := st_getI (ins_of mI_1 (by rfl)) mC_1 (by decide) fr_0_43 cT_56 (wdc wid_1 wd_56) (Or.inl rfl)
theorem r1_33b : runs cal 1 33 [v0, vR 56] [vR 2] I = runs cal 1 34 [v0, vR 56] [vR 56, vR 2] I := runs_to (ins_of mI_1 (by rfl)) rfl rfl
theorem r1_34b : runs cal 1 34 [v0, v1] [vR 56, vR 2] I = runs cal 1 37 [v0, v1] [vI (I 56 4), vR 2] I := st_getI (ins_of mI_1 (by rfl)) mC_1 (by decide) fr_0_46 cT_56 (wdc wid_1 wd_56) (Or.inl rfl)
theorem r1_40b : runs cal 1 40 [v0, vR 56] [] I = runs cal 1 41 [v0, vR 56] [vR 56] I := runs_to (ins_of mI_1 (by rfl)) rfl rfl
theorem r1_41b : runs cal 1 41 [v0, v1] [vR 56] I = runs cal 1 44 [v0, v1] [vR 57] I := st_getR (ins_of mI_1 (by rfl)) mC_1 (by decide) fr_0_15 cT_56 (wdc wid_1 wd_56) rfl rfl
theorem r1_44b : runs cal 1 44 [v0, v1] [vR 57] I = runs cal 1 45 [v0, v1] [vI (0), vR 57] I := runs_to (ins_of mI_1 (by rfl)) rfl rfl
theorem r1_45b : runs cal 1 45 [vR 2, v1] [vI x0, vR 57] I = runs cal 1 46 [vR 2, v1] [vR 2, vI x0, vR 57] I := runs_to (ins_of mI_1 (by rfl)) rfl rfl
theorem r1_46b : runs cal 1 46 [v0, v1] [vR 2, vI x1, vR 57] I = runs cal 1 49 [v0, v1] [vR 3, vI x1, vR 57] I := st_getR (ins_of mI_1 (by rfl)) mC_1 (by decide) fr_0_15 cT_2 (wdc wid_1 wd_2) rfl rfl
theorem r1_49b : runs cal 1 49 [v0, v1] [vR 3, vI x1, vR 57] I = runs cal 1 50 [v0, v1] [vI (0), vR 3, vI x1, vR 57] I := runs_to (ins_of mI_1 (by rfl)) rfl rfl
theorem r1_50b : runs cal 1 50 [v0, v1] [vI x0, vR 3, vI x2, vR 57] I = runs cal 1 51 [v0, v1] [vI (3), vI x0, vR 3, vI x2, vR 57] I := runs_to (ins_of mI_1 (by rfl)) rfl rfl
theorem r1_51b : runs cal 1 51 [v0, v1] [vI x0, vI x1, vR 3, vI x3, vR 57] I = if 0 ≤ x3 ∧ 0 ≤ x1 ∧ 0 ≤ x0 ∧ x3 + x0 ≤ 3 ∧ x1 + x0 ≤ 3 then runs cal 1 54 [v0, v1] [] (mcpy I 57 x3 3 x1 x0) else none := st_copy (ins_of mI_1 (by rfl)) mC_1 mr_0_49 cT_57 cT_3 (wdc wid_1 wd_57) (wdc wid_1 wd_3) (by decide)
theorem r1_54b : runs cal 1 54 [v0, vR 56] [] I = runs cal 1 55 [v0, vR 56] [vR 56] I := runs_to (ins_of mI_1 (by rfl)) rfl rfl
theorem r1_55b : runs cal 1 55 [v0, v1] [vR 56] I = runs cal 1 58 [v0, v1] [vR 58] I := st_getR (ins_of mI_1 (by rfl)) mC_1 (by decide) fr_0_19 cT_56 (wdc wid_1 wd_56) rfl rfl
theorem r1_58b : runs cal 1 58 [v0, v1] [vR 58] I = runs cal 1 59 [v0, v1] [vI (0), vR 58] I := runs_to (ins_of mI_1 (by rfl)) rfl rfl
theorem r1_59b : runs cal 1 59 [vR 2, v1] [vI x0, vR 58] I = runs cal 1 60 [vR 2, v1] [vR 2, vI x0, vR 58] I := runs_to (ins_of mI_1 (by rfl)) rfl rfl
theorem r1_60b : runs cal 1 60 [v0, v1] [vR 2, vI x1, vR 58] I = runs cal 1 63 [v0, v1] [vR 4, vI x1, vR 58] I := st_getR (ins_of mI_1 (by rfl)) mC_1 (by decide) fr_0_19 cT_2 (wdc wid_1 wd_2) rfl rfl
theorem r1_63b : runs cal 1 63 [v0, v1] [vR 4, vI x1, vR 58] I = runs cal 1 64 [v0, v1] [vI (0), vR 4, vI x1, vR 58] I := runs_to (ins_of mI_1 (by rfl)) rfl rfl
theorem r1_64b : runs cal 1 64 [v0, v1] [vI x0, vR 4, vI x2, vR 58] I = runs cal 1 65 [v0, v1] [vI (3), vI x0, vR 4, vI x2, vR 58] I := runs_to (ins_of mI_1 (by rfl)) rfl rfl
theorem r1_65b : runs cal 1 65 [v0, v1] [vI x0, vI x1, vR 4, vI x3, vR 58] I = if 0 ≤ x3 ∧ 0 ≤ x1 ∧ 0 ≤ x0 ∧ x3 + x0 ≤ 3 ∧ x1 + x0 ≤ 3 then runs cal 1 68 [v0, v1] [] (mcpy I 58 x3 4 x1 x0) else none := st_copy (ins_of mI_1 (by rfl)) mC_1 mr_0_49 cT_58 cT_4 (wdc wid_1 wd_58) (wdc wid_1 wd_4) (by decide)
theorem r1_68b : runs cal 1 68 [v0, vR 56] [] I = runs cal 1 69 [v0, vR 56] [vR 56] I := runs_to (ins_of mI_1 (by rfl)) rfl rfl
theorem r1_69b : runs cal 1 69 [v0, v1] [vR 56] I = runs cal 1 72 [v0, v1] [vR 59] I := st_getR (ins_of mI_1 (by rfl)) mC_1 (by decide) fr_0_22 cT_56 (wdc wid_1 wd_56) rfl rfl
theorem r1_72b : runs cal 1 72 [v0, v1] [vR 59] I = runs cal 1 73 [v0, v1] [vI (0), vR 59] I := runs_to (ins_of mI_1 (by rfl)) rfl rfl
theorem r1_73b : runs cal 1 73 [vR 2, v1] [vI x0, vR 59] I = runs cal 1 74 [vR 2, v1] [vR 2, vI x0, vR 59] I := runs_to (ins_of mI_1 (by rfl)) rfl rfl
theorem r1_74b : runs cal 1 74 [v0, v1] [vR 2, vI x1, vR 59] I = runs cal 1 77 [v0, v1] [vR 5, vI x1, vR 59] I := st_getR (ins_of mI_1 (by rfl)) mC_1 (by decide) fr_0_22 cT_2 (wdc wid_1 wd_2) rfl rfl
theorem r1_77b : runs cal 1 77 [v0, v1] [vR 5, vI x1, vR 59] I = runs cal 1 78 [v0, v1] [vI (0), vR 5, vI x1, vR 59] I := runs_to (ins_of mI_1 (by rfl)) rfl rfl
theorem r1_78b : runs cal 1 78 [v0, v1] [vI x0, vR 5, vI x2, vR 59] I = runs cal 1 79 [v0, v1] [vI (2), vI x0, vR 5, vI x2, vR 59] I := runs_to (ins_of mI_1 (by rfl)) rfl rfl
theorem r1_79b : runs cal 1 79 [v0, v1] [vI x0, vI x1, vR 5, vI x3, vR 59] I = if 0 ≤ x3 ∧ 0 ≤ x1 ∧ 0 ≤ x0 ∧ x3 + x0 ≤ 2 ∧ x1 + x0 ≤ 2 then runs cal 1 82 [v0, v1] [] (mcpy I 59 x3 5 x1 x0) else none := st_copy (ins_of mI_1 (by rfl)) mC_1 mr_0_49 cT_59 cT_5 (wdc wid_1 wd_59) (wdc wid_1 wd_5) (by decide)
theorem r1_82b : runs cal 1 82 [v0, vR 56] [] I = runs cal 1 83 [v0, vR 56] [vR 56] I := runs_to (ins_of mI_1 (by rfl)) rfl rfl
theorem r1_83b : runs cal 1 83 [v0, v1] [vR 56] I = runs cal 1 86 [v0, v1] [vR 60] I := st_getR (ins_of mI_1 (by rfl)) mC_1 (by decide) fr_0_25 cT_56 (wdc wid_1 wd_56) rfl rfl
theorem r1_86b : runs cal 1 86 [v0, v1] [vR 60] I = runs cal 1 87 [v0, v1] [vI (0), vR 60] I := runs_to (ins_of mI_1 (by rfl)) rfl rfl
theorem r1_87b : runs cal 1 87 [vR 2, v1] [vI x0, vR 60] I = runs cal 1 88 [vR 2, v1] [vR 2, vI x0, vR 60] I := runs_to (ins_of mI_1 (by rfl)) rfl rfl
theorem r1_88b : runs cal 1 88 [v0, v1] [vR 2, vI x1, vR 60] I = runs cal 1 91 [v0, v1] [vR 6, vI x1, vR 60] I := st_getR (ins_of mI_1 (by rfl)) mC_1 (by decide) fr_0_25 cT_2 (wdc wid_1 wd_2) rfl rfl
theorem r1_91b : runs cal 1 91 [v0, v1] [vR 6, vI x1, vR 60] I = runs cal 1 92 [v0, v1] [vI (0), vR 6, vI x1, vR 60] I := runs_to (ins_of mI_1 (by rfl)) rfl rfl
theorem r1_92b : runs cal 1 92 [v0, v1] [vI x0, vR 6, vI x2, vR 60] I = runs cal 1 93 [v0, v1] [vI (2), vI x0, vR 6, vI x2, vR 60] I := runs_to (ins_of mI_1 (by rfl)) rfl rfl
theorem r1_93b : runs cal 1 93 [v0, v1] [vI x0, vI x1, vR 6, vI x3, vR 60] I = if 0 ≤ x3 ∧ 0 ≤ x1 ∧ 0 ≤ x0 ∧ x3 + x0 ≤ 2 ∧ x1 + x0 ≤ 2 then runs cal 1 96 [v0, v1] [] (mcpy I 60 x3 6 x1 x0) else none := st_copy (ins_of mI_1 (by rfl)) mC_1 mr_0_49 cT_60 cT_6 (wdc wid_1 wd_60) (wdc wid_1 wd_6) (by decide)
theorem r1_96b : runs cal 1 96 [v0, vR 56] [] I = runs cal 1 97 [v0, vR 56] [vR 56] I := runs_to (ins_of mI_1 (by rfl)) rfl rfl
theorem r1_97b : runs cal 1 97 [v0, v1] [vR 56] I = runs cal 1 100 [v0, v1] [vR 61] I := st_getR (ins_of mI_1 (by rfl)) mC_1 (by decide) fr_0_28 cT_56 (wdc wid_1 wd_56) rfl rfl
theorem r1_100b : runs cal 1 100 [v0, v1] [vR 61] I = runs cal 1 101 [v0, v1] [vI (0), vR 61] I := runs_to (ins_of mI_1 (by rfl)) rfl rfl
theorem r1_101b : runs cal 1 101 [vR 2, v1] [vI x0, vR 61] I = runs cal 1 102 [vR 2, v1] [vR 2, vI x0, vR 61] I := runs_to (ins_of mI_1 (by rfl)) rfl rfl
theorem r1_102b : runs cal 1 102 [v0, v1] [vR 2, vI x1, vR 61] I = runs cal 1 105 [v0, v1] [vR 7, vI x1, vR 61] I := st_getR (ins_of mI_1 (by rfl)) mC_1 (by decide) fr_0_28 cT_2 (wdc wid_1 wd_2) rfl rfl
theorem r1_105b : runs cal 1 105 [v0, v1] [vR 7, vI x1, vR 61] I = runs cal 1 106 [v0, v1] [vI (0), vR 7, vI x1, vR 61] I := runs_to (ins_of mI_1 (by rfl)) rfl rfl
theorem r1_106b : runs cal 1 106 [v0, v1] [vI x0, vR 7, vI x2, vR 61] I = runs cal 1 107 [v0, v1] [vI (2), vI x0, vR 7, vI x2, vR 61] I := runs_to (ins_of mI_1 (by rfl)) rfl rfl
theorem r1_107b : runs cal 1 107 [v0, v1] [vI x0, vI x1, vR 7, vI x3, vR 61] I = if 0 ≤ x3 ∧ 0 ≤ x1 ∧ 0 ≤ x0 ∧ x3 + x0 ≤ 2 ∧ x1 + x0 ≤ 2 then runs cal 1 110 [v0, v1] [] (mcpy I 61 x3 7 x1 x0) else none := st_copy (ins_of mI_1 (by rfl)) mC_1 mr_0_49 cT_61 cT_7 (wdc wid_1 wd_61) (wdc wid_1 wd_7) (by decide)
theorem r1_110b : runs cal 1 110 [v0, vR 56] [] I = runs cal 1 111 [v0, vR 56] [vR 56] I := runs_to (ins_of mI_1 (by rfl)) rfl rfl
theorem r1_111b : runs cal 1 111 [v0, v1] [vR 56] I = runs cal 1 114 [v0, v1] [vR 62] I := st_getR (ins_of mI_1 (by rfl)) mC_1 (by decide) fr_0_31 cT_56 (wdc wid_1 wd_56) rfl rfl
theorem r1_114b : runs cal 1 114 [v0, v1] [vR 62] I = runs cal 1 115 [v0, v1] [vI (0), vR 62] I := runs_to (ins_of mI_1 (by rfl)) rfl rfl
theorem r1_115b : runs cal 1 115 [vR 2, v1] [vI x0, vR 62] I = runs cal 1 116 [vR 2, v1] [vR 2, vI x0, vR 62] I := runs_to (ins_of mI_1 (by rfl)) rfl rfl
theorem r1_116b : runs cal 1 116 [v0, v1] [vR 2, vI x1, vR 62] I = runs cal 1 119 [v0, v1] [vR 8, vI x1, vR 62] I := st_getR (ins_of mI_1 (by rfl)) mC_1 (by decide) fr_0_31 cT_2 (wdc wid_1 wd_2) rfl rfl
theorem r1_119b : runs cal 1 119 [v0, v1] [vR 8, vI x1, vR 62] I = runs cal 1 120 [v0, v1] [vI (0), vR 8, vI x1, vR 62] I := runs_to (ins_of mI_1 (by rfl)) rfl rfl
theorem r1_120b : runs cal 1 120 [v0, v1] [vI x0, vR 8, vI x2, vR 62] I = runs cal 1 121 [v0, v1] [vI (2), vI x0, vR 8, vI x2, vR 62] I := runs_to (ins_of mI_1 (by rfl)) rfl rfl
theorem r1_121b : runs cal 1 121 [v0, v1] [vI x0, vI x1, vR 8, vI x3, vR 62] I = if 0 ≤ x3 ∧ 0 ≤ x1 ∧ 0 ≤ x0 ∧ x3 + x0 ≤ 2 ∧ x1 + x0 ≤ 2 then runs cal 1 124 [v0, v1] [] (mcpy I 62 x3 8 x1 x0) else none := st_copy (ins_of mI_1 (by rfl)) mC_1 mr_0_49 cT_62 cT_8 (wdc wid_1 wd_62) (wdc wid_1 wd_8) (by decide)
theorem r1_124b : runs cal 1 124 [v0, vR 56] [] I = runs cal 1 125 [v0, vR 56] [vR 56] I := runs_to (ins_of mI_1 (by rfl)) rfl rfl
theorem r1_125b : runs cal 1 125 [v0, v1] [vR 56] I = runs cal 1 128 [v0, v1] [vR 63] I := st_getR (ins_of mI_1 (by rfl)) mC_1 (by decide) fr_0_34 cT_56 (wdc wid_1 wd_56) rfl rfl
theorem r1_128b : runs cal 1 128 [v0, v1] [vR 63] I = runs cal 1 129 [v0, v1] [vI (0), vR 63] I := runs_to (ins_of mI_1 (by rfl)) rfl rfl
theorem r1_129b : runs cal 1 129 [vR 2, v1] [vI x0, vR 63] I = runs cal 1 130 [vR 2, v1] [vR 2, vI x0, vR 63] I := runs_to (ins_of mI_1 (by rfl)) rfl rfl
theorem r1_130b : runs cal 1 130 [v0, v1] [vR 2, vI x1, vR 63] I = runs cal 1 133 [v0, v1] [vR 9, vI x1, vR 63] I := st_getR (ins_of mI_1 (by rfl)) mC_1 (by decide) fr_0_34 cT_2 (wdc wid_1 wd_2) rfl rfl
theorem r1_133b : runs cal 1 133 [v0, v1] [vR 9, vI x1, vR 63] I = runs cal 1 134 [v0, v1] [vI (0), vR 9, vI x1, vR 63] I := runs_to (ins_of mI_1 (by rfl)) rfl rfl
theorem r1_134b : runs cal 1 134 [v0, v1] [vI x0, vR 9, vI x2, vR 63] I = runs cal 1 135 [v0, v1] [vI (2), vI x0, vR 9, vI x2, vR 63] I := runs_to (ins_of mI_1 (by rfl)) rfl rfl
theorem r1_135b : runs cal 1 135 [v0, v1] [vI x0, vI x1, vR 9, vI x3, vR 63] I = if 0 ≤ x3 ∧ 0 ≤ x1 ∧ 0 ≤ x0 ∧ x3 + x0 ≤ 2 ∧ x1 + x0 ≤ 2 then runs cal 1 138 [v0, v1] [] (mcpy I 63 x3 9 x1 x0) else none := st_copy (ins_of mI_1 (by rfl)) mC_1 mr_0_49 cT_63 cT_9 (wdc wid_1 wd_63) (wdc wid_1 wd_9) (by decide)
theorem r1_0a : runs cal 1 0 [vR 41, v1] [] I = runs cal 1 1 [vR 41, v1] [vR 41] I := runs_to (ins_of mI_1 (by rfl)) rfl rfl
theorem r1_1c : runs cal 1 1 [v0, vR 2] [vR 41] I = runs cal 1 2 [v0, vR 2] [vR 2, vR 41] I := runs_to (ins_of mI_1 (by rfl)) rfl rfl
theorem r1_2c : runs cal 1 2 [v0, v1] [vR 2, vR 41] I = runs cal 1 5 [v0, v1] [vI (I 2 0), vR 41] I := st_getI (ins_of mI_1 (by rfl)) mC_1 (by decide) fr_0_11 cT_2 (wdc wid_1 wd_2) (Or.inl rfl)
theorem r1_5a : runs cal 1 5 [v0, v1] [vI x0, vR 41] I = runs cal 1 8 [v0, v1] [] (mset I 41 0 x0) := st_putI (ins_of mI_1 (by rfl)) mC_1 fr_0_11 cT_41 (wdc wid_1 wd_41) rfl
theorem r1_8a : runs cal 1 8 [vR 41, v1] [] I = runs cal 1 9 [vR 41, v1] [vR 41] I := runs_to (ins_of mI_1 (by rfl)) rfl rfl
theorem r1_9c : runs cal 1 9 [v0, vR 2] [vR 41] I = runs cal 1 10 [v0, vR 2] [vR 2, vR 41] I := runs_to (ins_of mI_1 (by rfl)) rfl rfl
theorem r1_10c : runs cal 1 10 [v0, v1] [vR 2, vR 41] I = runs cal 1 13 [v0, v1] [vI (I 2 1), vR 41] I := st_getI (ins_of mI_1 (by rfl)) mC_1 (by decide) fr_0_37 cT_2 (wdc wid_1 wd_2) (Or.inl rfl)
theorem r1_13a : runs cal 1 13 [v0, v1] [vI x0, vR 41] I = runs cal 1 16 [v0, v1] [] (mset I 41 1 x0) := st_putI (ins_of mI_1 (by rfl)) mC_1 fr_0_37 cT_41 (wdc wid_1 wd_41) rfl
theorem r1_16a : runs cal 1 16 [vR 41, v1] [] I = runs cal 1 17 [vR 41, v1] [vR 41] I := runs_to (ins_of mI_1 (by rfl)) rfl rfl
theorem r1_17c : runs cal 1 17 [v0, vR 2] [vR 41] I = runs cal 1 18 [v0, vR 2] [vR 2, vR 41] I := runs_to (ins_of mI_1 (by rfl)) rfl rfl
theorem r1_18c : runs cal 1 18 [v0, v1] [vR 2, vR 41] I = runs cal 1 21 [v0, v1] [vI (I 2 2), vR 41] I := st_getI (ins_of mI_1 (by rfl)) mC_1 (by decide) fr_0_40 cT_2 (wdc wid_1 wd_2) (Or.inl rfl)
theorem r1_21a : runs cal 1 21 [v0, v1] [vI x0, vR 41] I = runs cal 1 24 [v0, v1] [] (mset I 41 2 x0) := st_putI (ins_of mI_1 (by rfl)) mC_1 fr_0_40 cT_41 (wdc wid_1 wd_41) rfl
theorem r1_24a : runs cal 1 24 [vR 41, v1] [] I = runs cal 1 25 [vR 41, v1] [vR 41] I := runs_to (ins_of mI_1 (by rfl)) rfl rfl
theorem r1_25c : runs cal 1 25 [v0, vR 2] [vR 41] I = runs cal 1 26 [v0, vR 2] [vR 2, vR 41] I := runs_to (ins_of mI_1 (by rfl)) rfl rfl
theorem r1_26c : runs cal 1 26 [v0, v1] [vR 2, vR 41] I = runs cal 1 29 [v0, v1] [vI (I 2 3), vR 41] I := st_getI (ins_of mI_1 (by rfl)) mC_1 (by decide) fr_0_43 cT_2 (wdc wid_1 wd_2) (Or.inl rfl)
theorem r1_29a : runs cal 1 29 [v0, v1] [vI x0, vR 41] I = runs cal 1 32 [v0, v1] [] (mset I 41 3 x0) := st_putI (ins_of mI_1 (by rfl)) mC_1 fr_0_43 cT_41 (wdc wid_1 wd_41) rfl
theorem r1_32a : runs cal 1 32 [vR 41, v1] [] I = runs cal 1 33 [vR 41, v1] [vR 41] I := runs_to (ins_of mI_1 (by rfl)) rfl rfl
theorem r1_33c : runs cal 1 33 [v0, vR 2] [vR 41] I = runs cal 1 34 [v0, vR 2] [vR 2, vR 41] I := runs_to (ins_of mI_1 (by rfl)) rfl rfl
theorem r1_34c : runs cal 1 34 [v0, v1] [vR 2, vR 41] I = runs cal 1 37 [v0, v1] [vI (I 2 4), vR 41] I := st_getI (ins_of mI_1 (by rfl)) mC_1 (by decide) fr_0_46 cT_2 (wdc wid_1 wd_2) (Or.inl rfl)
theorem r1_37a : runs cal 1 37 [v0, v1] [vI x0, vR 41] I = runs cal 1 40 [v0, v1] [] (mset I 41 4 x0) := st_putI (ins_of mI_1 (by rfl)) mC_1 fr_0_46 cT_41 (wdc wid_1 wd_41) rfl
theorem r1_40c : runs cal 1 40 [v0, vR 2] [] I = runs cal 1 41 [v0, vR 2] [vR 2] I := runs_to (ins_of mI_1 (by rfl)) rfl rfl
theorem r1_41c : runs cal 1 41 [v0, v1] [vR 2] I = runs cal 1 44 [v0, v1] [vR 3] I := st_getR (ins_of mI_1 (by rfl)) mC_1 (by decide) fr_0_15 cT_2 (wdc wid_1 wd_2) rfl rfl
theorem r1_44c : runs cal 1 44 [v0, v1] [vR 3] I = runs cal 1 45 [v0, v1] [vI (0), vR 3] I := runs_to (ins_of mI_1 (by rfl)) rfl rfl
theorem r1_45c : runs cal 1 45 [vR 41, v1] [vI x0, vR 3] I = runs cal 1 46 [vR 41, v1] [vR 41, vI x0, vR 3] I := runs_to (ins_of mI_1 (by rfl)) rfl rfl
theorem r1_46c : runs cal 1 46 [v0, v1] [vR 41, vI x1, vR 3] I = runs cal 1 49 [v0, v1] [vR 42, vI x1, vR 3] I := st_getR (ins_of mI_1 (by rfl)) mC_1 (by decide) fr_0_15 cT_41 (wdc wid_1 wd_41) rfl rfl
theorem r1_49c : runs cal 1 49 [v0, v1] [vR 42, vI x1, vR 3] I = runs cal 1 50 [v0, v1] [vI (0), vR 42, vI x1, vR 3] I := runs_to (ins_of mI_1 (by rfl)) rfl rfl
theorem r1_50c : runs cal 1 50 [v0, v1] [vI x0, vR 42, vI x2, vR 3] I = runs cal 1 51 [v0, v1] [vI (3), vI x0, vR 42, vI x2, vR 3] I := runs_to (ins_of mI_1 (by rfl)) rfl rfl
theorem r1_51c : runs cal 1 51 [v0, v1] [vI x0, vI x1, vR 42, vI x3, vR 3] I = if 0 ≤ x3 ∧ 0 ≤ x1 ∧ 0 ≤ x0 ∧ x3 + x0 ≤ 3 ∧ x1 + x0 ≤ 3 then runs cal 1 54 [v0, v1] [] (mcpy I 3 x3 42 x1 x0) else none := st_copy (ins_of mI_1 (by rfl)) mC_1 mr_0_49 cT_3 cT_42 (wdc wid_1 wd_3) (wdc wid_1 wd_42) (by decide)
theorem r1_54c : runs cal 1 54 [v0, vR 2] [] I = runs cal 1 55 [v0, vR 2] [vR 2] I := runs_to (ins_of mI_1 (by rfl)) rfl rfl
theorem r1_55c : runs cal 1 55 [v0, v1] [vR 2] I = runs cal 1 58 [v0, v1] [vR 4] I := st_getR (ins_of mI_1 (by rfl)) mC_1 (by decide) fr_0_19 cT_2 (wdc wid_1 wd_2) rfl rfl
theorem r1_58c : runs cal 1 58 [v0, v1] [vR 4] I = runs cal 1 59 [v0, v1] [vI (0), vR 4] I := runs_to (ins_of mI_1 (by rfl)) rfl rfl
theorem r1_59c : runs cal 1 59 [vR 41, v1] [vI x0, vR 4] I = runs cal 1 60 [vR 41, v1] [vR 41, vI x0, vR 4] I := runs_to (ins_of mI_1 (by rfl)) rfl rfl
theorem r1_60c : runs cal 1 60 [v0, v1] [vR 41, vI x1, vR 4] I = runs cal 1 63 [v0, v1] [vR 43, vI x1, vR 4] I := st_getR (ins_of mI_1 (by rfl)) mC_1 (by decide) fr_0_19 cT_41 (wdc wid_1 wd_41) rfl rfl
theorem r1_63c : runs cal 1 63 [v0, v1] [vR 43, vI x1, vR 4] I = runs cal 1 64 [v0, v1] [vI (0), vR 43, vI x1, vR 4] I := runs_to (ins_of mI_1 (by rfl)) rfl rfl
theorem r1_64c : runs cal 1 64 [v0, v1] [vI x0, vR 43, vI x2, vR 4] I = runs cal 1 65 [v0, v1] [vI (3), vI x0, vR 43, vI x2, vR 4] I := runs_to (ins_of mI_1 (by rfl)) rfl rfl
theorem r1_65c : runs cal 1 65 [v0, v1] [vI x0, vI x1, vR 43, vI x3, vR 4] I = if 0 ≤ x3 ∧ 0 ≤ x1 ∧ 0 ≤ x0 ∧ x3 + x0 ≤ 3 ∧ x1 + x0 ≤ 3 then runs cal 1 68 [v0, v1] [] (mcpy I 4 x3 43 x1 x0) else none := st_copy (ins_of mI_1 (by rfl)) mC_1 mr_0_49 cT_4 cT_43 (wdc wid_1 wd_4) (wdc wid_1 wd_43) (by decide)
theorem r1_68c : runs cal 1 68 [v0, vR 2] [] I = runs cal 1 69 [v0, vR 2] [vR 2] I := runs_to (ins_of mI_1 (by rfl)) rfl rfl
theorem r1_69c : runs cal 1 69 [v0, v1] [vR 2] I = runs cal 1 72 [v0, v1] [vR 5] I := st_getR (ins_of mI_1 (by rfl)) mC_1 (by decide) fr_0_22 cT_2 (wdc wid_1 wd_2) rfl rfl
theorem r1_72c : runs cal 1 72 [v0, v1] [vR 5] I = runs cal 1 73 [v0, v1] [vI (0), vR 5] I := runs_to (ins_of mI_1 (by rfl)) rfl rfl
theorem r1_73c : runs cal 1 73 [vR 41, v1] [vI x0, vR 5] I = runs cal 1 74 [vR 41, v1] [vR 41, vI x0, vR 5] I := runs_to (ins_of mI_1 (by rfl)) rfl rfl
theorem r1_74c : runs cal 1 74 [v0, v1] [vR 41, vI x1, vR 5] I = runs cal 1 77 [v0, v1] [vR 44, vI x1, vR 5] I := st_getR (ins_of mI_1 (by rfl)) mC_1 (by decide) fr_0_22 cT_41 (wdc wid_1 wd_41) rfl rfl
theorem r1_77c : runs cal 1 77 [v0, v1] [vR 44, vI x1, vR 5] I = runs cal 1 78 [v0, v1] [vI (0), vR 44, vI x1, vR 5] I := runs_to (ins_of mI_1 (by rfl)) rfl rfl
theorem r1_78c : runs cal 1 78 [v0, v1] [vI x0, vR 44, vI x2, vR 5] I = runs cal 1 79 [v0, v1] [vI (2), vI x0, vR 44, vI x2, vR 5] I := runs_to (ins_of mI_1 (by rfl)) rfl rfl
theorem r1_79c : runs cal 1 79 [v0, v1] [vI x0, vI x1, vR 44, vI x3, vR 5] I = if 0 ≤ x3 ∧ 0 ≤ x1 ∧ 0 ≤ x0 ∧ x3 + x0 ≤ 2 ∧ x1 + x0 ≤ 2 then runs cal 1 82 [v0, v1] [] (mcpy I 5 x3 44 x1 x0) else none := st_copy (ins_of mI_1 (by rfl)) mC_1 mr_0_49 cT_5 cT_44 (wdc wid_1 wd_5) (wdc wid_1 wd_44) (by decide)
theorem r1_82c : runs cal 1 82 [v0, vR 2] [] I = runs cal 1 83 [v0, vR 2] [vR 2] I := runs_to (ins_of mI_1 (by rfl)) rfl rfl
theorem r1_83c : runs cal 1 83 [v0, v1] [vR 2] I = runs cal 1 86 [v0, v1] [vR 6] I := st_getR (ins_of mI_1 (by rfl)) mC_1 (by decide) fr_0_25 cT_2 (wdc wid_1 wd_2) rfl rfl
theorem r1_86c : runs cal 1 86 [v0, v1] [vR 6] I = runs cal 1 87 [v0, v1] [vI (0), vR 6] I := runs_to (ins_of mI_1 (by rfl)) rfl rfl
theorem r1_87c : runs cal 1 87 [vR 41, v1] [vI x0, vR 6] I = runs cal 1 88 [vR 41, v1] [vR 41, vI x0, vR 6] I := runs_to (ins_of mI_1 (by rfl)) rfl rfl
theorem r1_88c : runs cal 1 88 [v0, v1] [vR 41, vI x1, vR 6] I = runs cal 1 91 [v0, v1] [vR 45, vI x1, vR 6] I := st_getR (ins_of mI_1 (by rfl)) mC_1 (by decide) fr_0_25 cT_41 (wdc wid_1 wd_41) rfl rfl
theorem r1_91c : runs cal 1 91 [v0, v1] [vR 45, vI x1, vR 6] I = runs cal 1 92 [v0, v1] [vI (0), vR 45, vI x1, vR 6] I := runs_to (ins_of mI_1 (by rfl)) rfl rfl
theorem r1_92c : runs cal 1 92 [v0, v1] [vI x0, vR 45, vI x2, vR 6] I = runs cal 1 93 [v0, v1] [vI (2), vI x0, vR 45, vI x2, vR 6] I := runs_to (ins_of mI_1 (by rfl)) rfl rfl
theorem r1_93c : runs cal 1 93 [v0, v1] [vI x0, vI x1, vR 45, vI x3, vR 6] I = if 0 ≤ x3 ∧ 0 ≤ x1 ∧ 0 ≤ x0 ∧ x3 + x0 ≤ 2 ∧ x1 + x0 ≤ 2 then runs cal 1 96 [v0, v1] [] (mcpy I 6 x3 45 x1 x0) else none := st_copy (ins_of mI_1 (by rfl)) mC_1 mr_0_49 cT_6 cT_45 (wdc wid_1 wd_6) (wdc wid_1 wd_45) (by decide)
theorem r1_96c : runs cal 1 96 [v0, vR 2] [] I = runs cal 1 97 [v0, vR 2] [vR 2] I := runs_to (ins_of mI_1 (by rfl)) rfl rfl
theorem r1_97c : runs cal 1 97 [v0, v1] [vR 2] I = runs cal 1 100 [v0, v1] [vR 7] I := st_getR (ins_of mI_1 (by rfl)) mC_1 (by decide) fr_0_28 cT_2 (wdc wid_1 wd_2) rfl rfl
theorem r1_100c : runs cal 1 100 [v0, v1] [vR 7] I = runs cal 1 101 [v0, v1] [vI (0), vR 7] I := runs_to (ins_of mI_1 (by rfl)) rfl rfl
theorem r1_101c : runs cal 1 101 [vR 41, v1] [vI x0, vR 7] I = runs cal 1 102 [vR 41, v1] [vR 41, vI x0, vR 7] I := runs_to (ins_of mI_1 (by rfl)) rfl rfl
theorem r1_102c : runs cal 1 102 [v0, v1] [vR 41, vI x1, vR 7] I = runs cal 1 105 [v0, v1] [vR 46, vI x1, vR 7] I := st_getR (ins_of mI_1 (by rfl)) mC_1 (by decide) fr_0_28 cT_41 (wdc wid_1 wd_41) rfl rfl
theorem r1_105c : runs cal 1 105 [v0, v1] [vR 46, vI x1, vR 7] I = runs cal 1 106 [v0, v1] [vI (0), vR 46, vI x1, vR 7] I := runs_to (ins_of mI_1 (by rfl)) rfl rfl
theorem r1_106c : runs cal 1 106 [v0, v1] [vI x0, vR 46, vI x2, vR 7] I = runs cal 1 107 [v0, v1] [vI (2), vI x0, vR 46, vI x2, vR 7] I := runs_to (ins_of mI_1 (by rfl)) rfl rfl
theorem r1_107c : runs cal 1 107 [v0, v1] [vI x0, vI x1, vR 46, vI x3, vR 7] I = if 0 ≤ x3 ∧ 0 ≤ x1 ∧ 0 ≤ x0 ∧ x3 + x0 ≤ 2 ∧ x1 + x0 ≤ 2 then runs cal 1 110 [v0, v1] [] (mcpy I 7 x3 46 x1 x0) else none := st_copy (ins_of mI_1 (by rfl)) mC_1 mr_0_49 cT_7 cT_46 (wdc wid_1 wd_7) (wdc wid_1 wd_46) (by decide)
theorem r1_110c : runs cal 1 110 [v0, vR 2] [] I = runs cal 1 111 [v0, vR 2] [vR 2] I := runs_to (ins_of mI_1 (by rfl)) rfl rfl
theorem r1_111c : runs cal 1 111 [v0, v1] [vR 2] I = runs cal 1 114 [v0, v1] [vR 8] I := st_getR (ins_of mI_1 (by rfl)) mC_1 (by decide) fr_0_31 cT_2 (wdc wid_1 wd_2) rfl rfl
theorem r1_114c : runs cal 1 114 [v0, v1] [vR 8] I = runs cal 1 115 [v0, v1] [vI (0), vR 8] I := runs_to (ins_of mI_1 (by rfl)) rfl rfl
theorem r1_115c : runs cal 1 115 [vR 41, v1] [vI x0, vR 8] I = runs cal 1 116 [vR 41, v1] [vR 41, vI x0, vR 8] I := runs_to (ins_of mI_1 (by rfl)) rfl rfl
theorem r1_116c : runs cal 1 116 [v0, v1] [vR 41, vI x1, vR 8] I = runs cal 1 119 [v0, v1] [vR 47, vI x1, vR 8] I := st_getR (ins_of mI_1 (by rfl)) mC_1 (by decide) fr_0_31 cT_41 (wdc wid_1 wd_41) rfl rfl
theorem r1_119c : runs cal 1 119 [v0, v1] [vR 47, vI x1, vR 8] I = runs cal 1 120 [v0, v1] [vI (0), vR 47, vI x1, vR 8] I := runs_to (ins_of mI_1 (by rfl)) rfl rfl
theorem r1_120c : runs cal 1 120 [v0, v1] [vI x0, vR 47, vI x2, vR 8] I = runs cal 1 121 [v0, v1] [vI (2), vI x0, vR 47, vI x2, vR 8] I := runs_to (ins_of mI_1 (by rfl)) rfl rfl
theorem r1_121c : runs cal 1 121 [v0, v1] [vI x0, vI x1, vR 47, vI x3, vR 8] I = if 0 ≤ x3 ∧ 0 ≤ x1 ∧ 0 ≤ x0 ∧ x3 + x0 ≤ 2 ∧ x1 + x0 ≤ 2 then runs cal 1 124 [v0, v1] [] (mcpy I 8 x3 47 x1 x0) else none := st_copy (ins_of mI_1 (by rfl)) mC_1 mr_0_49 cT_8 cT_47 (wdc wid_1 wd_8) (wdc wid_1 wd_47) (by decide)
theorem r1_124c : runs cal 1 124 [v0, vR 2] [] I = runs cal 1 125 [v0, vR 2] [vR 2] I := runs_to (ins_of mI_1 (by rfl)) rfl rfl
theorem r1_125c : runs cal 1 125 [v0, v1] [vR 2] I = runs cal 1 128 [v0, v1] [vR 9] I := st_getR (ins_of mI_1 (by rfl)) mC_1 (by decide) fr_0_34 cT_2 (wdc wid_1 wd_2) rfl rfl
theorem r1_128c : runs cal 1 128 [v0, v1] [vR 9] I = runs cal 1 129 [v0, v1] [vI (0), vR 9] I := runs_to (ins_of mI_1 (by rfl)) rfl rfl
theorem r1_129c : runs cal 1 129 [vR 41, v1] [vI x0, vR 9] I = runs cal 1 130 [vR 41, v1] [vR 41, vI x0, vR 9] I := runs_to (ins_of mI_1 (by rfl)) rfl rfl
theorem r1_130c : runs cal 1 130 [v0, v1] [vR 41, vI x1, vR 9] I = runs cal 1 133 [v0, v1] [vR 48, vI x1, vR 9] I := st_getR (ins_of mI_1 (by rfl)) mC_1 (by decide) fr_0_34 cT_41 (wdc wid_1 wd_41) rfl rfl
theorem r1_133c : runs cal 1 133 [v0, v1] [vR 48, vI x1, vR 9] I = runs cal 1 134 [v0, v1] [vI (0), vR 48, vI x1, vR 9] I := runs_to (ins_of mI_1 (by rfl)) rfl rfl
theorem r1_134c : runs cal 1 134 [v0, v1] [vI x0, vR 48, vI x2, vR 9] I = runs cal 1 135 [v0, v1] [vI (2), vI x0, vR 48, vI x2, vR 9] I := runs_to (ins_of mI_1 (by rfl)) rfl rfl
theorem r1_135c : runs cal 1 135 [v0, v1] [vI x0, vI x1, vR 48, vI x3, vR 9] I = if 0 ≤ x3 ∧ 0 ≤ x1 ∧ 0 ≤ x0 ∧ x3 + x0 ≤ 2 ∧ x1 + x0 ≤ 2 then runs cal 1 138 [v0, v1] [] (mcpy I 9 x3 48 x1 x0) else none := st_copy (ins_of mI_1 (by rfl)) mC_1 mr_0_49 cT_9 cT_48 (wdc wid_1 wd_9) (wdc wid_1 wd_48) (by decide)
theorem r1_0b : runs cal 1 0 [vR 56, v1] [] I = runs cal 1 1 [vR 56, v1] [vR 56] I := runs_to (ins_of mI_1 (by rfl)) rfl rfl
theorem r1_1d : runs cal 1 1 [v0, vR 2] [vR 56] I = runs cal 1 2 [v0, vR 2] [vR 2, vR 56] I := runs_to (ins_of mI_1 (by rfl)) rfl rfl
theorem r1_2d : runs cal 1 2 [v0, v1] [vR 2, vR 56] I = runs cal 1 5 [v0, v1] [vI (I 2 0), vR 56] I := st_getI (ins_of mI_1 (by rfl)) mC_1 (by decide) fr_0_11 cT_2 (wdc wid_1 wd_2) (Or.inl rfl)
theorem r1_5b : runs cal 1 5 [v0, v1] [vI x0, vR 56] I = runs cal 1 8 [v0, v1] [] (mset I 56 0 x0) := st_putI (ins_of mI_1 (by rfl)) mC_1 fr_0_11 cT_56 (wdc wid_1 wd_56) rfl
theorem r1_8b : runs cal 1 8 [vR 56, v1] [] I = runs cal 1 9 [vR 56, v1] [vR 56] I := runs_to (ins_of mI_1 (by rfl)) rfl rfl
theorem r1_9d : runs cal 1 9 [v0, vR 2] [vR 56] I = runs cal 1 10 [v0, vR 2] [vR 2, vR 56] I := runs_to (ins_of mI_1 (by rfl)) rfl rfl
theorem r1_10d : runs cal 1 10 [v0, v1] [vR 2, vR 56] I = runs cal 1 13 [v0, v1] [vI (I 2 1), vR 56] I := st_getI (ins_of mI_1 (by rfl)) mC_1 (by decide) fr_0_37 cT_2 (wdc wid_1 wd_2) (Or.inl rfl)
theorem r1_13b : runs cal 1 13 [v0, v1] [vI x0, vR 56] I = runs cal 1 16 [v0, v1] [] (mset I 56 1 x0) := st_putI (ins_of mI_1 (by rfl)) mC_1 fr_0_37 cT_56 (wdc wid_1 wd_56) rfl
theorem r1_16b : runs cal 1 16 [vR 56, v1] [] I = runs cal 1 17 [vR 56, v1] [vR 56] I := runs_to (ins_of mI_1 (by rfl)) rfl rfl
theorem r1_17d : runs cal 1 17 [v0, vR 2] [vR 56] I = runs cal 1 18 [v0, vR 2] [vR 2, vR 56] I := runs_to (ins_of mI_1 (by rfl)) rfl rfl
theorem r1_18d : runs cal 1 18 [v0, v1] [vR 2, vR 56] I = runs cal 1 21 [v0, v1] [vI (I 2 2), vR 56] I := st_getI (ins_of mI_1 (by rfl)) mC_1 (by decide) fr_0_40 cT_2 (wdc wid_1 wd_2) (Or.inl rfl)
theorem r1_21b : runs cal 1 21 [v0, v1] [vI x0, vR 56] I = runs cal 1 24 [v0, v1] [] (mset I 56 2 x0) := st_putI (ins_of mI_1 (by rfl)) mC_1 fr_0_40 cT_56 (wdc wid_1 wd_56) rfl
theorem r1_24b : runs cal 1 24 [vR 56, v1] [] I = runs cal 1 25 [vR 56, v1] [vR 56] I := runs_to (ins_of mI_1 (by rfl)) rfl rfl
theorem r1_25d : runs cal 1 25 [v0, vR 2] [vR 56] I = runs cal 1 26 [v0, vR 2] [vR 2, vR 56] I := runs_to (ins_of mI_1 (by rfl)) rfl rfl
theorem r1_26d : runs cal 1 26 [v0, v1] [vR 2, vR 56] I = runs cal 1 29 [v0, v1] [vI (I 2 3), vR 56] I := st_getI (ins_of mI_1 (by rfl)) mC_1 (by decide) fr_0_43 cT_2 (wdc wid_1 wd_2) (Or.inl rfl)
theorem r1_29b : runs cal 1 29 [v0, v1] [vI x0, vR 56] I = runs cal 1 32 [v0, v1] [] (mset I 56 3 x0) := st_putI (ins_of mI_1 (by rfl)) mC_1 fr_0_43 cT_56 (wdc wid_1 wd_56) rfl
theorem r1_32b : runs cal 1 32 [vR 56, v1] [] I = runs cal 1 33 [vR 56, v1] [vR 56] I := runs_to (ins_of mI_1 (by rfl)) rfl rfl
theorem r1_33d : runs cal 1 33 [v0, vR 2] [vR 56] I = runs cal 1 34 [v0, vR 2] [vR 2, vR 56] I := runs_to (ins_of mI_1 (by rfl)) rfl rfl
theorem r1_34d : runs cal 1 34 [v0, v1] [vR 2, vR 56] I = runs cal 1 37 [v0, v1] [vI (I 2 4), vR 56] I := st_getI (ins_of mI_1 (by rfl)) mC_1 (by decide) fr_0_46 cT_2 (wdc wid_1 wd_2) (Or.inl rfl)
theorem r1_37b : runs cal 1 37 [v0, v1] [vI x0, vR 56] I = runs cal 1 40 [v0, v1] [] (mset I 56 4 x0) := st_putI (ins_of mI_1 (by rfl)) mC_1 fr_0_46 cT_56 (wdc wid_1 wd_56) rfl
theorem r1_45d : runs cal 1 45 [vR 56, v1] [vI x0, vR 3] I = runs cal 1 46 [vR 56, v1] [vR 56, vI x0, vR 3] I := runs_to (ins_of mI_1 (by rfl)) rfl rfl
theorem r1_46d : runs cal 1 46 [v0, v1] [vR 56, vI x1, vR 3] I = runs cal 1 49 [v0, v1] [vR 57, vI x1, vR 3] I := st_getR (ins_of mI_1 (by rfl)) mC_1 (by decide) fr_0_15 cT_56 (wdc wid_1 wd_56) rfl rfl
theorem r1_49d : runs cal 1 49 [v0, v1] [vR 57, vI x1, vR 3] I = runs cal 1 50 [v0, v1] [vI (0), vR 57, vI x1, vR 3] I := runs_to (ins_of mI_1 (by rfl)) rfl rfl
theorem r1_50d : runs cal 1 50 [v0, v1] [vI x0, vR 57, vI x2, vR 3] I = runs cal 1 51 [v0, v1] [vI (3), vI x0, vR 57, vI x2, vR 3] I := runs_to (ins_of mI_1 (by rfl)) rfl rfl
theorem r1_51d : runs cal 1 51 [v0, v1] [vI x0, vI x1, vR 57, vI x3, vR 3] I = if 0 ≤ x3 ∧ 0 ≤ x1 ∧ 0 ≤ x0 ∧ x3 + x0 ≤ 3 ∧ x1 + x0 ≤ 3 then runs cal 1 54 [v0, v1] [] (mcpy I 3 x3 57 x1 x0) else none := st_copy (ins_of mI_1 (by rfl)) mC_1 mr_0_49 cT_3 cT_57 (wdc wid_1 wd_3) (wdc wid_1 wd_57) (by decide)
theorem r1_59d : runs cal 1 59 [vR 56, v1] [vI x0, vR 4] I = runs cal 1 60 [vR 56, v1] [vR 56, vI x0, vR 4] I := runs_to (ins_of mI_1 (by rfl)) rfl rfl
theorem r1_60d : runs cal 1 60 [v0, v1] [vR 56, vI x1, vR 4] I = runs cal 1 63 [v0, v1] [vR 58, vI x1, vR 4] I := st_getR (ins_of mI_1 (by rfl)) mC_1 (by decide) fr_0_19 cT_56 (wdc wid_1 wd_56) rfl rfl
theorem r1_63d : runs cal 1 63 [v0, v1] [vR 58, vI x1, vR 4] I = runs cal 1 64 [v0, v1] [vI (0), vR 58, vI x1, vR 4] I := runs_to (ins_of mI_1 (by rfl)) rfl rfl
theorem r1_64d : runs cal 1 64 [v0, v1] [vI x0, vR 58, vI x2, vR 4] I = runs cal 1 65 [v0, v1] [vI (3), vI x0, vR 58, vI x2, vR 4] I := runs_to (ins_of mI_1 (by rfl)) rfl rfl
theorem r1_65d : runs cal 1 65 [v0, v1] [vI x0, vI x1, vR 58, vI x3, vR 4] I = if 0 ≤ x3 ∧ 0 ≤ x1 ∧ 0 ≤ x0 ∧ x3 + x0 ≤ 3 ∧ x1 + x0 ≤ 3 then runs cal 1 68 [v0, v1] [] (mcpy I 4 x3 58 x1 x0) else none := st_copy (ins_of mI_1 (by rfl)) mC_1 mr_0_49 cT_4 cT_58 (wdc wid_1 wd_4) (wdc wid_1 wd_58) (by decide)
theorem r1_73d : runs cal 1 73 [vR 56, v1] [vI x0, vR 5] I = runs cal 1 74 [vR 56, v1] [vR 56, vI x0, vR 5] I := runs_to (ins_of mI_1 (by rfl)) rfl rfl
theorem r1_74d : runs cal 1 74 [v0, v1] [vR 56, vI x1, vR 5] I = runs cal 1 77 [v0, v1] [vR 59, vI x1, vR 5] I := st_getR (ins_of mI_1 (by rfl)) mC_1 (by decide) fr_0_22 cT_56 (wdc wid_1 wd_56) rfl rfl
theorem r1_77d : runs cal 1 77 [v0, v1] [vR 59, vI x1, vR 5] I = runs cal 1 78 [v0, v1] [vI (0), vR 59, vI x1, vR 5] I := runs_to (ins_of mI_1 (by rfl)) rfl rfl
theorem r1_78d : runs cal 1 78 [v0, v1] [vI x0, vR 59, vI x2, vR 5] I = runs cal 1 79 [v0, v1] [vI (2), vI x0, vR 59, vI x2, vR 5] I := runs_to (ins_of mI_1 (by rfl)) rfl rfl
theorem r1_79d : runs cal 1 79 [v0, v1] [vI x0, vI x1, vR 59, vI x3, vR 5] I = if 0 ≤ x3 ∧ 0 ≤ x1 ∧ 0 ≤ x0 ∧ x3 + x0 ≤ 2 ∧ x1 + x0 ≤ 2 then runs cal 1 82 [v0, v1] [] (mcpy I 5 x3 59 x1 x0) else none := st_copy (ins_of mI_1 (by rfl)) mC_1 mr_0_49 cT_5 cT_59 (wdc wid_1 wd_5) (wdc wid_1 wd_59) (by decide)
theorem r1_87d : runs cal 1 87 [vR 56, v1] [vI x0, vR 6] I = runs cal 1 88 [vR 56, v1] [vR 56, vI x0, vR 6] I := runs_to (ins_of mI_1 (by rfl)) rfl rfl
theorem r1_88d : runs cal 1 88 [v0, v1] [vR 56, vI x1, vR 6] I = runs cal 1 91 [v0, v1] [vR 60, vI x1, vR 6] I := st_getR (ins_of mI_1 (by rfl)) mC_1 (by decide) fr_0_25 cT_56 (wdc wid_1 wd_56) rfl rfl
theorem r1_91d : runs cal 1 91 [v0, v1] [vR 60, vI x1, vR 6] I = runs cal 1 92 [v0, v1] [vI (0), vR 60, vI x1, vR 6] I := runs_to (ins_of mI_1 (by rfl)) rfl rfl
theorem r1_92d : runs cal 1 92 [v0, v1] [vI x0, vR 60, vI x2, vR 6] I = runs cal 1 93 [v0, v1] [vI (2), vI x0, vR 60, vI x2, vR 6] I := runs_to (ins_of mI_1 (by rfl)) rfl rfl
theorem r1_93d : runs cal 1 93 [v0, v1] [vI x0, vI x1, vR 60, vI x3, vR 6] I = if 0 ≤ x3 ∧ 0 ≤ x1 ∧ 0 ≤ x0 ∧ x3 + x0 ≤ 2 ∧ x1 + x0 ≤ 2 then runs cal 1 96 [v0, v1] [] (mcpy I 6 x3 60 x1 x0) else none := st_copy (ins_of mI_1 (by rfl)) mC_1 mr_0_49 cT_6 cT_60 (wdc wid_1 wd_6) (wdc wid_1 wd_60) (by decide)
theorem r1_101d : runs cal 1 101 [vR 56, v1] [vI x0, vR 7] I = runs cal 1 102 [vR 56, v1] [vR 56, vI x0, vR 7] I := runs_to (ins_of mI_1 (by rfl)) rfl rfl
theorem r1_102d : runs cal 1 102 [v0, v1] [vR 56, vI x1, vR 7] I = runs cal 1 105 [v0, v1] [vR 61, vI x1, vR 7] I := st_getR (ins_of mI_1 (by rfl)) mC_1 (by decide) fr_0_28 cT_56 (wdc wid_1 wd_56) rfl rfl
theorem r1_105d : runs cal 1 105 [v0, v1] [vR 61, vI x1, vR 7] I = runs cal 1 106 [v0, v1] [vI (0), vR 61, vI x1, vR 7] I := runs_to (ins_of mI_1 (by rfl)) rfl rfl
theorem r1_106d : runs cal 1 106 [v0, v1] [vI x0, vR 61, vI x2, vR 7] I = runs cal 1 107 [v0, v1] [vI (2), vI x0, vR 61, vI x2, vR 7] I := runs_to (ins_of mI_1 (by rfl)) rfl rfl
theorem r1_107d : runs cal 1 107 [v0, v1] [vI x0, vI x1, vR 61, vI x3, vR 7] I = if 0 ≤ x3 ∧ 0 ≤ x1 ∧ 0 ≤ x0 ∧ x3 + x0 ≤ 2 ∧ x1 + x0 ≤ 2 then runs cal 1 110 [v0, v1] [] (mcpy I 7 x3 61 x1 x0) else none := st_copy (ins_of mI_1 (by rfl)) mC_1 mr_0_49 cT_7 cT_61 (wdc wid_1 wd_7) (wdc wid_1 wd_61) (by decide)
theorem r1_115d : runs cal 1 115 [vR 56, v1] [vI x0, vR 8] I = runs cal 1 116 [vR 56, v1] [vR 56, vI x0, vR 8] I := runs_to (ins_of mI_1 (by rfl)) rfl rfl
theorem r1_116d : runs cal 1 116 [v0, v1] [vR 56, vI x1, vR 8] I = runs cal 1 119 [v0, v1] [vR 62, vI x1, vR 8] I := st_getR (ins_of mI_1 (by rfl)) mC_1 (by decide) fr_0_31 cT_56 (wdc wid_1 wd_56) rfl rfl
theorem r1_119d : runs cal 1 119 [v0, v1] [vR 62, vI x1, vR 8] I = runs cal 1 120 [v0, v1] [vI (0), vR 62, vI x1, vR 8] I := runs_to (ins_of mI_1 (by rfl)) rfl rfl
theorem r1_120d : runs cal 1 120 [v0, v1] [vI x0, vR 62, vI x2, vR 8] I = runs cal 1 121 [v0, v1] [vI (2), vI x0, vR 62, vI x2, vR 8] I := runs_to (ins_of mI_1 (by rfl)) rfl rfl
theorem r1_121d : runs cal 1 121 [v0, v1] [vI x0, vI x1, vR 62, vI x3, vR 8] I = if 0 ≤ x3 ∧ 0 ≤ x1 ∧ 0 ≤ x0 ∧ x3 + x0 ≤ 2 ∧ x1 + x0 ≤ 2 then runs cal 1 124 [v0, v1] [] (mcpy I 8 x3 62 x1 x0) else none := st_copy (ins_of mI_1 (by rfl)) mC_1 mr_0_49 cT_8 cT_62 (wdc wid_1 wd_8) (wdc wid_1 wd_62) (by decide)
theorem r1_129d : runs cal 1 129 [vR 56, v1] [vI x0, vR 9] I = runs cal 1 130 [vR 56, v1] [vR 56, vI x0, vR 9] I := runs_to (ins_of mI_1 (by rfl)) rfl rfl
theorem r1_130d : runs cal 1 130 [v0, v1] [vR 56, vI x1, vR 9] I = runs cal 1 133 [v0, v1] [vR 63, vI x1, vR 9] I := st_getR (ins_of mI_1 (by rfl)) mC_1 (by decide) fr_0_34 cT_56 (wdc wid_1 wd_56) rfl rfl
theorem r1_133d : runs cal 1 133 [v0, v1] [vR 63, vI x1, vR 9] I = runs cal 1 134 [v0, v1] [vI (0), vR 63, vI x1, vR 9] I := runs_to (ins_of mI_1 (by rfl)) rfl rfl
theorem r1_134d : runs cal 1 134 [v0, v1] [vI x0, vR 63, vI x2, vR 9] I = runs cal 1 135 [v0, v1] [vI (2), vI x0, vR 63, vI x2, vR 9] I := runs_to (ins_of mI_1 (by rfl)) rfl rfl
theorem r1_135d : runs cal 1 135 [v0, v1] [vI x0, vI x1, vR 63, vI x3, vR 9] I = if 0 ≤ x3 ∧ 0 ≤ x1 ∧ 0 ≤ x0 ∧ x3 + x0 ≤ 2 ∧ x1 + x0 ≤ 2 then runs cal 1 138 [v0, v1] [] (mcpy I 9 x3 63 x1 x0) else none := st_copy (ins_of mI_1 (by rfl)) mC_1 mr_0_49 cT_9 cT_63 (wdc wid_1 wd_9) (wdc wid_1 wd_63) (by decide)
theorem r2_0 : runs cal 2 0 [vR 10, v1, v2, v3] [] I = runs cal 2 1 [vR 10, v1, v2, v3] [vR 10] I := runs_to (ins_of mI_2 (by rfl)) rfl rfl
theorem r2_1 : runs cal 2 1 [v0, v1, v2, v3] [vR 10] I = runs cal 2 4 [v0, v1, v2, v3] [vI (I 10 2)] I := st_getI (ins_of mI_2 (by rfl)) mC_2 (by decide) fr_0_40 cT_10 (wdc wid_2 wd_10) (Or.inl rfl)
theorem r2_4 : runs cal 2 4 [v0, v1, v2, v3] [vI x0] I = runs cal 2 5 [v0, v1, v2, v3] [vI (3), vI x0] I := runs_to (ins_of mI_2 (by rfl)) rfl rfl
theorem r2_5 : runs cal 2 5 [v0, v1, v2, v3] [vI x0, vI x1] I = if x1 < x0 then runs cal 2 8 [v0, v1, v2, v3] [] I else runs cal 2 55 [v0, v1, v2, v3] [] I := st_cmp_ge (ins_of mI_2 (by rfl)) (by decide)
theorem r2_8 : runs cal 2 8 [vR 10, v1, v2, v3] [] I = runs cal 2 9 [vR 10, v1, v2, v3] [vR 10] I := runs_to (ins_of mI_2 (by rfl)) rfl rfl
theorem r2_9 : runs cal 2 9 [v0, v1, v2, v3] [vR 10] I = runs cal 2 12 [v0, v1, v2, v3] [vR 11] I := st_getR (ins_of mI_2 (by rfl)) mC_2 (by decide) fr_0_15 cT_10 (wdc wid_2 wd_10) rfl rfl
theorem r2_12 : runs cal 2 12 [vR 10, v1, v2, v3] [vR 11] I = runs cal 2 13 [vR 10, v1, v2, v3] [vR 10, vR 11] I := runs_to (ins_of mI_2 (by rfl)) rfl rfl
theorem r2_13 : runs cal 2 13 [v0, v1, v2, v3] [vR 10, vR 11] I = runs cal 2 16 [v0, v1, v2, v3] [vI (I 10 2), vR 11] I := st_getI (ins_of mI_2 (by rfl)) mC_2 (by decide) fr_0_40 cT_10 (wdc wid_2 wd_10) (Or.inl rfl)
theorem r2_16 : runs cal 2 16 [v0, vI w, v2, v3] [vI x0, vR 11] I = runs cal 2 17 [v0, vI w, v2, v3] [vI w, vI x0, vR 11] I := runs_to (ins_of mI_2 (by rfl)) rfl rfl
theorem r2_17 : runs cal 2 17 [v0, v1, v2, v3] [vI x0, vI x1, vR 11] I = if 0 ≤ x1 ∧ x1 < 3 then runs cal 2 18 [v0, v1, v2, v3] [] (mset I 11 x1 x0) else none := st_iast (ins_of mI_2 (by rfl)) cT_11 (wdc wid_2 wd_11)
theorem r2_18 : runs cal 2 18 [vR 10, v1, v2, v3] [] I = runs cal 2 19 [vR 10, v1, v2, v3] [vR 10] I := runs_to (ins_of mI_2 (by rfl)) rfl rfl
theorem r2_19 : runs cal 2 19 [v0, v1, v2, v3] [vR 10] I = runs cal 2 22 [v0, v1, v2, v3] [vR 12] I := st_getR (ins_of mI_2 (by rfl)) mC_2 (by decide) fr_0_19 cT_10 (wdc wid_2 wd_10) rfl rfl
theorem r2_22 : runs cal 2 22 [vR 10, v1, v2, v3] [vR 12] I = runs cal 2 23 [vR 10, v1, v2, v3] [vR 10, vR 12] I := runs_to (ins_of mI_2 (by rfl)) rfl rfl
theorem r2_23 : runs cal 2 23 [v0, v1, v2, v3] [vR 10, vR 12] I = runs cal 2 26 [v0, v1, v2, v3] [vI (I 10 2), vR 12] I := st_getI (ins_of mI_2 (by rfl)) mC_2 (by decide) fr_0_40 cT_10 (wdc wid_2 wd_10) (Or.inl rfl)
theorem r2_26 : runs cal 2 26 [v0, v1, v2, vI w] [vI x0, vR 12] I = runs cal 2 27 [v0, v1, v2, vI w] [vI w, vI x0, vR 12] I := runs_to (ins_of mI_2 (by rfl)) rfl rfl
theorem r2_27 : runs cal 2 27 [v0, v1, v2, v3] [vI x0, vI x1, vR 12] I = if 0 ≤ x1 ∧ x1 < 3 then runs cal 2 28 [v0, v1, v2, v3] [] (mset I 12 x1 x0) else none := st_iast (ins_of mI_2 (by rfl)) cT_12 (wdc wid_2 wd_12)
theorem r2_28 : runs cal 2 28 [vR 10, v1, v2, v3] [] I = runs cal 2 29 [vR 10, v1, v2, v3] [vR 10] I := runs_to (ins_of mI_2 (by rfl)) rfl rfl
theorem r2_29 : runs cal 2 29 [vR 10, v1, v2, v3] [vR 10] I = runs cal 2 30 [vR 10, v1, v2, v3] [vR 10, vR 10] I := runs_to (ins_of mI_2 (by rfl)) rfl rfl
theorem r2_30 : runs cal 2 30 [vR 10, v1, v2, v3] [vR 10, vR 10] I = runs cal 2 31 [vR 10, v1, v2, v3] [vR 10, vR 10, vR 10] I := runs_to (ins_of mI_2 (by rfl)) rfl rfl
theorem r2_31 : runs cal 2 31 [v0, v1, v2, v3] [vR 10, vR 10, vR 10] I = runs cal 2 34 [v0, v1, v2, v3] [vI (I 10 4), vR 10, vR 10] I := st_getI (ins_of mI_2 (by rfl)) mC_2 (by decide) fr_0_46 cT_10 (wdc wid_2 wd_10) (Or.inl rfl)
theorem r2_34 : runs cal 2 34 [vR 10, v1, v2, v3] [vI x0, vR 10, vR 10] I = runs cal 2 35 [vR 10, v1, v2, v3] [vR 10, vI x0, vR 10, vR 10] I := runs_to (ins_of mI_2 (by rfl)) rfl rfl
theorem r2_35 : runs cal 2 35 [v0, v1, v2, v3] [vR 10, vI x1, vR 10, vR 10] I = runs cal 2 38 [v0, v1, v2, v3] [vI (I 10 2), vI x1, vR 10, vR 10] I := st_getI (ins_of mI_2 (by rfl)) mC_2 (by decide) fr_0_40 cT_10 (wdc wid_2 wd_10) (Or.inl rfl)
theorem r2_38 : runs cal 2 38 [v0, v1, vI w, v3] [vI x0, vI x1, vR 10, vR 10] I = runs cal 2 39 [v0, v1, vI w, v3] [vI w, vI x0, vI x1, vR 10, vR 10] I := runs_to (ins_of mI_2 (by rfl)) rfl rfl
theorem r2_39 : runs cal 2 39 [v0, v1, v2, v3] [vI x0, vI x1, vI x2, vR 10, vR 10] I = (cal 10 [vR 10, vI x2, vI x1, vI x0] I).bind (fun q => runs cal 2 42 [v0, v1, v2, v3] (pushR q.1 [vR 10]) q.2) := st_call (st := false) (ins_of mI_2 (by rfl)) mC_2 mr_0_55 (by decide) mS_10 mN_10 rfl (Nat.le_of_ble_eq_true rfl) rfl rfl (Or.inr ⟨_, _, rfl, rcv mC_10 rfl wid_2 (by decide +kernel)⟩) (Or.inl (wid_2.trans wid_10.symm))
theorem r2_42 : runs cal 2 42 [v0, v1, v2, v3] [vI x0, vR 10] I = runs cal 2 45 [v0, v1, v2, v3] [] (mset I 10 4 x0) := st_putI (ins_of mI_2 (by rfl)) mC_2 fr_0_46 cT_10 (wdc wid_2 wd_10) rfl
theorem r2_45 : runs cal 2 45 [vR 10, v1, v2, v3] [] I = runs cal 2 46 [vR 10, v1, v2, v3] [vR 10] I := runs_to (ins_of mI_2 (by rfl)) rfl rfl
theorem r2_46 : runs cal 2 46 [v0, v1, v2, v3] [vR 10] I = runs cal 2 47 [v0, v1, v2, v3] [vR 10, vR 10] I := runs_to (ins_of mI_2 (by rfl)) rfl rfl
theorem r2_47 : runs cal 2 47 [v0, v1, v2, v3] [vR 10, vR 10] I = runs cal 2 50 [v0, v1, v2, v3] [vI (I 10 2), vR 10] I := st_getI (ins_of mI_2 (by rfl)) mC_2 (by decide) fr_0_40 cT_10 (wdc wid_2 wd_10) (Or.inl rfl)
theorem r2_50 : runs cal 2 50 [v0, v1, v2, v3] [vI x0, vR 10] I = runs cal 2 51 [v0, v1, v2, v3] [vI (1), vI x0, vR 10] I := runs_to (ins_of mI_2 (by rfl)) rfl rfl
theorem r2_51 : runs cal 2 51 [v0, v1, v2, v3] [vI x0, vI x1, vR 10] I = runs cal 2 52 [v0, v1, v2, v3] [vI (iadd x1 x0), vR 10] I := runs_to (ins_of mI_2 (by rfl)) rfl rfl
theorem r2_52 : runs cal 2 52 [v0, v1, v2, v3] [vI x0, vR 10] I = runs cal 2 55 [v0, v1, v2, v3] [] (mset I 10 2 x0) := st_putI (ins_of mI_2 (by rfl)) mC_2 fr_0_40 cT_10 (wdc wid_2 wd_10) rfl
theorem r2_55 : runs cal 2 55 [v0, v1, v2, v3] [] I = some (none, I) := st_ret (q := none) (k := 3) (ins_of mI_2 (by rfl)) rfl (by decide) mR_2 rfl trivial
theorem r3_0 : runs cal 3 0 [vR 10, v1, v2, v3, v4, v5] [] I = runs cal 3 1 [vR 10, v1, v2, v3, v4, v5] [vR 10] I := runs_to (ins_of mI_3 (by rfl)) rfl rfl
theorem r3_1 : runs cal 3 1 [v0, v1, v2, v3, v4, v5] [vR 10] I = runs cal 3 4 [v0, v1, v2, v3, v4, v5] [vI (I 10 3)] I := st_getI (ins_of mI_3 (by rfl)) mC_3 (by decide) fr_0_43 cT_10 (wdc wid_3 wd_10) (Or.inl rfl)
theorem r3_4 : runs cal 3 4 [v0, v1, v2, v3, v4, v5] [vI x0] I = runs cal 3 5 [v0, v1, v2, v3, v4, v5] [vI (2), vI x0] I := runs_to (ins_of mI_3 (by rfl)) rfl rfl
theorem r3_5 : runs cal 3 5 [v0, v1, v2, v3, v4, v5] [vI x0, vI x1] I = if x1 < x0 then runs cal 3 8 [v0, v1, v2, v3, v4, v5] [] I else runs cal 3 17 [v0, v1, v2, v3, v4, v5] [] I := st_cmp_ge (ins_of mI_3 (by rfl)) (by decide)
theorem r3_8 : runs cal 3 8 [v0, vI w, v2, v3, v4, v5] [] I = runs cal 3 9 [v0, vI w, v2, v3, v4, v5] [vI w] I := runs_to (ins_of mI_3 (by rfl)) rfl rfl
theorem r3_9 : runs cal 3 9 [v0, v1, v2, v3, v4, v5] [vI x0] I = if x0 < 0 then runs cal 3 17 [v0, v1, v2, v3, v4, v5] [] I else runs cal 3 12 [v0, v1, v2, v3, v4, v5] [] I := st_if_lt (ins_of mI_3 (by rfl)) (by decide)
theorem r3_12 : runs cal 3 12 [v0, vI w, v2, v3, v4, v5] [] I = runs cal 3 13 [v0, vI w, v2, v3, v4, v5] [vI w] I := runs_to (ins_of mI_3 (by rfl)) rfl rfl
theorem r3_13 : runs cal 3 13 [v0, v1, v2, v3, v4, v5] [vI x0] I = runs cal 3 14 [v0, v1, v2, v3, v4, v5] [vI (5), vI x0] I := runs_to (ins_of mI_3 (by rfl)) rfl rfl
theorem r3_14 : runs cal 3 14 [v0, v1, v2, v3, v4, v5] [vI x0, vI x1] I = if x0 < x1 then runs cal 3 17 [v0, v1, v2, v3, v4, v5] [] I else runs cal 3 19 [v0, v1, v2, v3, v4, v5] [] I := st_cmp_le (ins_of mI_3 (by rfl)) (by decide)
theorem r3_17 : runs cal 3 17 [v0, v1, v2, v3, v4, v5] [] I = runs cal 3 18 [v0, v1, v2, v3, v4, v5] [vI (0)] I := runs_to (ins_of mI_3 (by rfl)) rfl rfl
theorem r3_18 : runs cal 3 18 [v0, v1, v2, v3, v4, v5] [vI x0] I = if x0 = 0 ∨ x0 = 1 then some (some (vI x0), I) else none := st_retZ (ins_of mI_3 (by rfl)) mR_3 (Or.inl rfl)
theorem r3_19 : runs cal 3 19 [v0, v1, vI w, v3, v4, v5] [] I = runs cal 3 20 [v0, v1, vI w, v3, v4, v5] [vI w] I := runs_to (ins_of mI_3 (by rfl)) rfl rfl
theorem r3_20 : runs cal 3 20 [v0, v1, v2, v3, v4, v5] [vI x0] I = runs cal 3 23 [v0, v1, v2, v3, v4, v5] [vR 97, vI x0] I := runs_to (ins_of mI_3 (by rfl)) rfl (by simp only [stepI, gstV, mC_3]; rfl)
theorem r3_23 : runs cal 3 23 [v0, vI w, v2, v3, v4, v5] [vR 97, vI x1] I = runs cal 3 24 [v0, vI w, v2, v3, v4, v5] [vI w, vR 97, vI x1] I := runs_to (ins_of mI_3 (by rfl)) rfl rfl
theorem r3_24 : runs cal 3 24 [v0, v1, v2, v3, v4, v5] [vI x0, vR 97, vI x2] I = if 0 ≤ x0 ∧ x0 < 6 then runs cal 3 25 [v0, v1, v2, v3, v4, v5] [vI ([0, 0, 1, 0, 1, 0].getD x0.toNat 0), vI x2] I else none := st_iald4 (ins_of mI_3 (by rfl)) cT_97 rfl
theorem r3_25 : runs cal 3 25 [v0, v1, v2, v3, v4, v5] [vI x0, vI x1] I = runs cal 3 26 [v0, v1, v2, v3, v4, v5] [vI (iadd x1 x0)] I := runs_to (ins_of mI_3 (by rfl)) rfl rfl
theorem r3_26 : runs cal 3 26 [v0, v1, v2, v3, vI u, v5] [vI x0] I = runs cal 3 28 [v0, v1, v2, v3, vI u, vI x0] [] I := runs_to (ins_of mI_3 (by rfl)) rfl rfl
theorem r3_28 : runs cal 3 28 [v0, v1, v2, v3, vI w, v5] [] I = runs cal 3 30 [v0, v1, v2, v3, vI w, v5] [vI w] I := runs_to (ins_of mI_3 (by rfl)) rfl rfl
theorem r3_30 : runs cal 3 30 [v0, v1, v2, v3, v4, vI w] [vI x0] I = runs cal 3 32 [v0, v1, v2, v3, v4, vI w] [vI w, vI x0] I := runs_to (ins_of mI_3 (by rfl)) rfl rfl
theorem r3_32 : runs cal 3 32 [v0, v1, v2, v3, v4, v5] [vI x0, vI x1] I = runs cal 3 33 [v0, v1, v2, v3, v4, v5] [vI (iadd x1 x0)] I := runs_to (ins_of mI_3 (by rfl)) rfl rfl
theorem r3_33 : runs cal 3 33 [v0, v1, v2, v3, v4, v5] [vI x0] I = runs cal 3 34 [v0, v1, v2, v3, v4, v5] [vI (1), vI x0] I := runs_to (ins_of mI_3 (by rfl)) rfl rfl
theorem r3_34 : runs cal 3 34 [v0, v1, v2, v3, v4, v5] [vI x0, vI x1] I = runs cal 3 35 [v0, v1, v2, v3, v4, v5] [vI (isub x1 x0)] I := runs_to (ins_of mI_3 (by rfl)) rfl rfl
theorem r3_35 : runs cal 3 35 [vR 10, v1, v2, v3, v4, v5] [vI x0] I = runs cal 3 36 [vR 10, v1, v2, v3, v4, v5] [vR 10, vI x0] I := runs_to (ins_of mI_3 (by rfl)) rfl rfl
theorem r3_36 : runs cal 3 36 [v0, v1, v2, v3, v4, v5] [vR 10, vI x1] I = runs cal 3 39 [v0, v1, v2, v3, v4, v5] [vI (I 10 0), vI x1] I := st_getI (ins_of mI_3 (by rfl)) mC_3 (by decide) fr_0_11 cT_10 (wdc wid_3 wd_10) (Or.inl rfl)
theorem r3_39 : runs cal 3 39 [v0, v1, v2, v3, v4, v5] [vI x0, vI x1] I = if x0 < x1 then runs cal 3 62 [v0, v1, v2, v3, v4, v5] [] I else runs cal 3 42 [v0, v1, v2, v3, v4, v5] [] I := st_cmp_gt (ins_of mI_3 (by rfl)) (by decide)
theorem r3_42 : runs cal 3 42 [vR 10, v1, v2, v3, v4, v5] [] I = runs cal 3 43 [vR 10, v1, v2, v3, v4, v5] [vR 10] I := runs_to (ins_of mI_3 (by rfl)) rfl rfl
theorem r3_43 : runs cal 3 43 [v0, v1, v2, v3, v4, vI w] [vR 10] I = runs cal 3 45 [v0, v1, v2, v3, v4, vI w] [vI w, vR 10] I := runs_to (ins_of mI_3 (by rfl)) rfl rfl
theorem r3_45 : runs cal 3 45 [v0, v1, v2, v3, vI w, v5] [vI x0, vR 10] I = runs cal 3 47 [v0, v1, v2, v3, vI w, v5] [vI w, vI x0, vR 10] I := runs_to (ins_of mI_3 (by rfl)) rfl rfl
theorem r3_47 : runs cal 3 47 [v0, v1, v2, v3, v4, v5] [vI x0, vI x1, vR 10] I = (cal 19 [vR 10, vI x1, vI x0] I).bind (fun q => runs cal 3 50 [v0, v1, v2, v3, v4, v5] (pushR q.1 []) q.2) := st_call (st := false) (ins_of mI_3 (by rfl)) mC_3 mr_0_62 (by decide) mS_19 mN_19 rfl (Nat.le_of_ble_eq_true rfl) rfl rfl (Or.inr ⟨_, _, rfl, rcv mC_19 rfl wid_3 (by decide +kernel)⟩) (Or.inl (wid_3.trans wid_19.symm))
theorem r3_50 : runs cal 3 50 [vR 10, v1, v2, v3, v4, v5] [vI x0] I = runs cal 3 51 [vR 10, v1, v2, v3, v4, v5] [vR 10, vI x0] I := runs_to (ins_of mI_3 (by rfl)) rfl rfl
theorem r3_51 : runs cal 3 51 [vR 10, v1, v2, v3, v4, v5] [vR 10, vI x1] I = runs cal 3 52 [vR 10, v1, v2, v3, v4, v5] [vR 10, vR 10, vI x1] I := runs_to (ins_of mI_3 (by rfl)) rfl rfl
theorem r3_52 : runs cal 3 52 [v0, v1, v2, v3, v4, v5] [vR 10, vR 10, vI x2] I = runs cal 3 55 [v0, v1, v2, v3, v4, v5] [vI (I 10 4), vR 10, vI x2] I := st_getI (ins_of mI_3 (by rfl)) mC_3 (by decide) fr_0_46 cT_10 (wdc wid_3 wd_10) (Or.inl rfl)
theorem r3_55 : runs cal 3 55 [v0, v1, v2, v3, v4, v5] [vI x0, vR 10, vI x2] I = (cal 21 [vR 10, vI x0] I).bind (fun q => runs cal 3 58 [v0, v1, v2, v3, v4, v5] (pushR q.1 [vI x2]) q.2) := st_call (st := false) (ins_of mI_3 (by rfl)) mC_3 mr_0_66 (by decide) mS_21 mN_21 rfl (Nat.le_of_ble_eq_true rfl) rfl rfl (Or.inr ⟨_, _, rfl, rcv mC_21 rfl wid_3 (by decide +kernel)⟩) (Or.inl (wid_3.trans wid_21.symm))
theorem r3_58 : runs cal 3 58 [v0, v1, v2, v3, v4, v5] [vI x0, vI x1] I = runs cal 3 59 [v0, v1, v2, v3, v4, v5] [vI (iand x1 x0)] I := runs_to (ins_of mI_3 (by rfl)) rfl rfl
theorem r3_59 : runs cal 3 59 [v0, v1, v2, v3, v4, v5] [vI x0] I = if x0 = 0 then runs cal 3 64 [v0, v1, v2, v3, v4, v5] [] I else runs cal 3 62 [v0, v1, v2, v3, v4, v5] [] I := st_if_eq (ins_of mI_3 (by rfl)) (by decide)
theorem r3_62 : runs cal 3 62 [v0, v1, v2, v3, v4, v5] [] I = runs cal 3 63 [v0, v1, v2, v3, v4, v5] [vI (0)] I := runs_to (ins_of mI_3 (by rfl)) rfl rfl
theorem r3_63 : runs cal 3 63 [v0, v1, v2, v3, v4, v5] [vI x0] I = if x0 = 0 ∨ x0 = 1 then some (some (vI x0), I) else none := st_retZ (ins_of mI_3 (by rfl)) mR_3 (Or.inl rfl)
theorem r3_64 : runs cal 3 64 [vR 10, v1, v2, v3, v4, v5] [] I = runs cal 3 65 [vR 10, v1, v2, v3, v4, v5] [vR 10] I := runs_to (ins_of mI_3 (by rfl)) rfl rfl
theorem r3_65 : runs cal 3 65 [v0, v1, v2, v3, v4, v5] [vR 10] I = runs cal 3 68 [v0, v1, v2, v3, v4, v5] [vR 13] I := st_getR (ins_of mI_3 (by rfl)) mC_3 (by decide) fr_0_22 cT_10 (wdc wid_3 wd_10) rfl rfl
theorem r3_68 : runs cal 3 68 [vR 10, v1, v2, v3, v4, v5] [vR 13] I = runs cal 3 69 [vR 10, v1, v2, v3, v4, v5] [vR 10, vR 13] I := runs_to (ins_of mI_3 (by rfl)) rfl rfl
theorem r3_69 : runs cal 3 69 [v0, v1, v2, v3, v4, v5] [vR 10, vR 13] I = runs cal 3 72 [v0, v1, v2, v3, v4, v5] [vI (I 10 3), vR 13] I := st_getI (ins_of mI_3 (by rfl)) mC_3 (by decide) fr_0_43 cT_10 (wdc wid_3 wd_10) (Or.inl rfl)
theorem r3_72 : runs cal 3 72 [v0, vI w, v2, v3, v4, v5] [vI x0, vR 13] I = runs cal 3 73 [v0, vI w, v2, v3, v4, v5] [vI w, vI x0, vR 13] I := runs_to (ins_of mI_3 (by rfl)) rfl rfl
theorem r3_73 : runs cal 3 73 [v0, v1, v2, v3, v4, v5] [vI x0, vI x1, vR 13] I = if 0 ≤ x1 ∧ x1 < 2 then runs cal 3 74 [v0, v1, v2, v3, v4, v5] [] (mset I 13 x1 x0) else none := st_iast (ins_of mI_3 (by rfl)) cT_13 (wdc wid_3 wd_13)
theorem r3_74 : runs cal 3 74 [vR 10, v1, v2, v3, v4, v5] [] I = runs cal 3 75 [vR 10, v1, v2, v3, v4, v5] [vR 10] I := runs_to (ins_of mI_3 (by rfl)) rfl rfl
theorem r3_75 : runs cal 3 75 [v0, v1, v2, v3, v4, v5] [vR 10] I = runs cal 3 78 [v0, v1, v2, v3, v4, v5] [vR 14] I := st_getR (ins_of mI_3 (by rfl)) mC_3 (by decide) fr_0_25 cT_10 (wdc wid_3 wd_10) rfl rfl
theorem r3_78 : runs cal 3 78 [vR 10, v1, v2, v3, v4, v5] [vR 14] I = runs cal 3 79 [vR 10, v1, v2, v3, v4, v5] [vR 10, vR 14] I := runs_to (ins_of mI_3 (by rfl)) rfl rfl
theorem r3_79 : runs cal 3 79 [v0, v1, v2, v3, v4, v5] [vR 10, vR 14] I = runs cal 3 82 [v0, v1, v2, v3, v4, v5] [vI (I 10 3), vR 14] I := st_getI (ins_of mI_3 (by rfl)) mC_3 (by decide) fr_0_43 cT_10 (wdc wid_3 wd_10) (Or.inl rfl)
theorem r3_82 : runs cal 3 82 [v0, v1, vI w, v3, v4, v5] [vI x0, vR 14] I = runs cal 3 83 [v0, v1, vI w, v3, v4, v5] [vI w, vI x0, vR 14] I := runs_to (ins_of mI_3 (by rfl)) rfl rfl
theorem r3_83 : runs cal 3 83 [v0, v1, v2, v3, v4, v5] [vI x0, vI x1, vR 14] I = if 0 ≤ x1 ∧ x1 < 2 then runs cal 3 84 [v0, v1, v2, v3, v4, v5] [] (mset I 14 x1 x0) else none := st_iast (ins_of mI_3 (by rfl)) cT_14 (wdc wid_3 wd_14)
theorem r3_84 : runs cal 3 84 [vR 10, v1, v2, v3, v4, v5] [] I = runs cal 3 85 [vR 10, v1, v2, v3, v4, v5] [vR 10] I := runs_to (ins_of mI_3 (by rfl)) rfl rfl
theorem r3_85 : runs cal 3 85 [v0, v1, v2, v3, v4, v5] [vR 10] I = runs cal 3 88 [v0, v1, v2, v3, v4, v5] [vR 15] I := st_getR (ins_of mI_3 (by rfl)) mC_3 (by decide) fr_0_28 cT_10 (wdc wid_3 wd_10) rfl rfl
theorem r3_88 : runs cal 3 88 [vR 10, v1, v2, v3, v4, v5] [vR 15] I = runs cal 3 89 [vR 10, v1, v2, v3, v4, v5] [vR 10, vR 15] I := runs_to (ins_of mI_3 (by rfl)) rfl rfl
theorem r3_89 : runs cal 3 89 [v0, v1, v2, v3, v4, v5] [vR 10, vR 15] I = runs cal 3 92 [v0, v1, v2, v3, v4, v5] [vI (I 10 3), vR 15] I := st_getI (ins_of mI_3 (by rfl)) mC_3 (by decide) fr_0_43 cT_10 (wdc wid_3 wd_10) (Or.inl rfl)
theorem r3_92 : runs cal 3 92 [v0, v1, v2, vI w, v4, v5] [vI x0, vR 15] I = runs cal 3 93 [v0, v1, v2, vI w, v4, v5] [vI w, vI x0, vR 15] I := runs_to (ins_of mI_3 (by rfl)) rfl rfl
theorem r3_93 : runs cal 3 93 [v0, v1, v2, v3, v4, v5] [vI x0, vI x1, vR 15] I = if 0 ≤ x1 ∧ x1 < 2 then runs cal 3 94 [v0, v1, v2, v3, v4, v5] [] (mset I 15 x1 x0) else none := st_iast (ins_of mI_3 (by rfl)) cT_15 (wdc wid_3 wd_15)
theorem r3_94 : runs cal 3 94 [vR 10, v1, v2, v3, v4, v5] [] I = runs cal 3 95 [vR 10, v1, v2, v3, v4, v5] [vR 10] I := runs_to (ins_of mI_3 (by rfl)) rfl rfl
theorem r3_95 : runs cal 3 95 [v0, v1, v2, v3, v4, v5] [vR 10] I = runs cal 3 98 [v0, v1, v2, v3, v4, v5] [vR 16] I := st_getR (ins_of mI_3 (by rfl)) mC_3 (by decide) fr_0_31 cT_10 (wdc wid_3 wd_10) rfl rfl
theorem r3_98 : runs cal 3 98 [vR 10, v1, v2, v3, v4, v5] [vR 16] I = runs cal 3 99 [vR 10, v1, v2, v3, v4, v5] [vR 10, vR 16] I := runs_to (ins_of mI_3 (by rfl)) rfl rfl
theorem r3_99 : runs cal 3 99 [v0, v1, v2, v3, v4, v5] [vR 10, vR 16] I = runs cal 3 102 [v0, v1, v2, v3, v4, v5] [vI (I 10 3), vR 16] I := st_getI (ins_of mI_3 (by rfl)) mC_3 (by decide) fr_0_43 cT_10 (wdc wid_3 wd_10) (Or.inl rfl)
theorem r3_102 : runs cal 3 102 [v0, v1, v2, v3, v4, vI w] [vI x0, vR 16] I = runs cal 3 104 [v0, v1, v2, v3, v4, vI w] [vI w, vI x0, vR 16] I := runs_to (ins_of mI_3 (by rfl)) rfl rfl
theorem r3_104 : runs cal 3 104 [v0, v1, v2, v3, v4, v5] [vI x0, vI x1, vR 16] I = if 0 ≤ x1 ∧ x1 < 2 then runs cal 3 105 [v0, v1, v2, v3, v4, v5] [] (mset I 16 x1 x0) else none := st_iast (ins_of mI_3 (by rfl)) cT_16 (wdc wid_3 wd_16)
theorem r3_105 : runs cal 3 105 [vR 10, v1, v2, v3, v4, v5] [] I = runs cal 3 106 [vR 10, v1, v2, v3, v4, v5] [vR 10] I := runs_to (ins_of mI_3 (by rfl)) rfl rfl
theorem r3_106 : runs cal 3 106 [v0, v1, v2, v3, v4, v5] [vR 10] I = runs cal 3 109 [v0, v1, v2, v3, v4, v5] [vR 17] I := st_getR (ins_of mI_3 (by rfl)) mC_3 (by decide) fr_0_34 cT_10 (wdc wid_3 wd_10) rfl rfl
theorem r3_109 : runs cal 3 109 [vR 10, v1, v2, v3, v4, v5] [vR 17] I = runs cal 3 110 [vR 10, v1, v2, v3, v4, v5] [vR 10, vR 17] I := runs_to (ins_of mI_3 (by rfl)) rfl rfl
theorem r3_110 : runs cal 3 110 [v0, v1, v2, v3, v4, v5] [vR 10, vR 17] I = runs cal 3 113 [v0, v1, v2, v3, v4, v5] [vI (I 10 3), vR 17] I := st_getI (ins_of mI_3 (by rfl)) mC_3 (by decide) fr_0_43 cT_10 (wdc wid_3 wd_10) (Or.inl rfl)
theorem r3_113 : runs cal 3 113 [v0, v1, v2, vI w, v4, v5] [vI x0, vR 17] I = runs cal 3 114 [v0, v1, v2, vI w, v4, v5] [vI w, vI x0, vR 17] I := runs_to (ins_of mI_3 (by rfl)) rfl rfl
theorem r3_114 : runs cal 3 114 [v0, v1, v2, v3, v4, v5] [vI x0, vI x1, vR 17] I = runs cal 3 117 [v0, v1, v2, v3, v4, v5] [vR 98, vI x0, vI x1, vR 17] I := runs_to (ins_of mI_3 (by rfl)) rfl (by simp only [stepI, gstV, mC_3]; rfl)
theorem r3_117 : runs cal 3 117 [v0, vI w, v2, v3, v4, v5] [vR 98, vI x1, vI x2, vR 17] I = runs cal 3 118 [v0, vI w, v2, v3, v4, v5] [vI w, vR 98, vI x1, vI x2, vR 17] I := runs_to (ins_of mI_3 (by rfl)) rfl rfl
theorem r3_118 : runs cal 3 118 [v0, v1, v2, v3, v4, v5] [vI x0, vR 98, vI x2, vI x3, vR 17] I = if 0 ≤ x0 ∧ x0 < 6 then runs cal 3 119 [v0, v1, v2, v3, v4, v5] [vI ([2, 1, 2, 4, 2, 4].getD x0.toNat 0), vI x2, vI x3, vR 17] I else none := st_iald4 (ins_of mI_3 (by rfl)) cT_98 rfl
theorem r3_119 : runs cal 3 119 [v0, v1, v2, v3, v4, v5] [vI x0, vI x1, vI x2, vR 17] I = runs cal 3 120 [v0, v1, v2, v3, v4, v5] [vI (imul x1 x0), vI x2, vR 17] I := runs_to (ins_of mI_3 (by rfl)) rfl rfl
theorem r3_120 : runs cal 3 120 [v0, v1, v2, v3, v4, v5] [vI x0, vI x1, vR 17] I = runs cal 3 121 [v0, v1, v2, v3, v4, v5] [vI (2), vI x0, vI x1, vR 17] I := runs_to (ins_of mI_3 (by rfl)) rfl rfl
theorem r3_121 : runs cal 3 121 [v0, v1, v2, v3, v4, v5] [vI x0, vI x1, vI x2, vR 17] I = if x0 = 0 then none else runs cal 3 122 [v0, v1, v2, v3, v4, v5] [vI (idiv x1 x0), vI x2, vR 17] I := st_nz (ins_of mI_3 (by rfl)) rfl rfl
theorem r3_122 : runs cal 3 122 [v0, v1, v2, v3, v4, v5] [vI x0, vI x1, vR 17] I = if 0 ≤ x1 ∧ x1 < 2 then runs cal 3 123 [v0, v1, v2, v3, v4, v5] [] (mset I 17 x1 x0) else none := st_iast (ins_of mI_3 (by rfl)) cT_17 (wdc wid_3 wd_17)
theorem r3_123 : runs cal 3 123 [vR 10, v1, v2, v3, v4, v5] [] I = runs cal 3 124 [vR 10, v1, v2, v3, v4, v5] [vR 10] I := runs_to (ins_of mI_3 (by rfl)) rfl rfl
theorem r3_124 : runs cal 3 124 [vR 10, v1, v2, v3, v4, v5] [vR 10] I = runs cal 3 125 [vR 10, v1, v2, v3, v4, v5] [vR 10, vR 10] I := runs_to (ins_of mI_3 (by rfl)) rfl rfl
theorem r3_125 : runs cal 3 125 [vR 10, v1, v2, v3, v4, v5] [vR 10, vR 10] I = runs cal 3 126 [vR 10, v1, v2, v3, v4, v5] [vR 10, vR 10, vR 10] I := runs_to (ins_of mI_3 (by rfl)) rfl rfl
theorem r3_126 : runs cal 3 126 [v0, v1, v2, v3, v4, v5] [vR 10, vR 10, vR 10] I = runs cal 3 129 [v0, v1, v2, v3, v4, v5] [vI (I 10 4), vR 10, vR 10] I := st_getI (ins_of mI_3 (by rfl)) mC_3 (by decide) fr_0_46 cT_10 (wdc wid_3 wd_10) (Or.inl rfl)
theorem r3_129 : runs cal 3 129 [vR 10, v1, v2, v3, v4, v5] [vI x0, vR 10, vR 10] I = runs cal 3 130 [vR 10, v1, v2, v3, v4, v5] [vR 10, vI x0, vR 10, vR 10] I := runs_to (ins_of mI_3 (by rfl)) rfl rfl
theorem r3_130 : runs cal 3 130 [v0, v1, v2, v3, v4, v5] [vR 10, vI x1, vR 10, vR 10] I = runs cal 3 133 [v0, v1, v2, v3, v4, v5] [vI (I 10 3), vI x1, vR 10, vR 10] I := st_getI (ins_of mI_3 (by rfl)) mC_3 (by decide) fr_0_43 cT_10 (wdc wid_3 wd_10) (Or.inl rfl)
theorem r3_133 : runs cal 3 133 [v0, v1, v2, v3, vI w, v5] [vI x0, vI x1, vR 10, vR 10] I = runs cal 3 135 [v0, v1, v2, v3, vI w, v5] [vI w, vI x0, vI x1, vR 10, vR 10] I := runs_to (ins_of mI_3 (by rfl)) rfl rfl
theorem r3_135 : runs cal 3 135 [v0, v1, v2, v3, v4, v5] [vI x0, vI x1, vI x2, vR 10, vR 10] I = (cal 11 [vR 10, vI x2, vI x1, vI x0] I).bind (fun q => runs cal 3 138 [v0, v1, v2, v3, v4, v5] (pushR q.1 [vR 10]) q.2) := st_call (st := false) (ins_of mI_3 (by rfl)) mC_3 mr_0_73 (by decide) mS_11 mN_11 rfl (Nat.le_of_ble_eq_true rfl) rfl rfl (Or.inr ⟨_, _, rfl, rcv mC_11 rfl wid_3 (by decide +kernel)⟩) (Or.inl (wid_3.trans wid_11.symm))
theorem r3_138 : runs cal 3 138 [v0, v1, v2, v3, v4, v5] [vI x0, vR 10] I = runs cal 3 141 [v0, v1, v2, v3, v4, v5] [] (mset I 10 4 x0) := st_putI (ins_of mI_3 (by rfl)) mC_3 fr_0_46 cT_10 (wdc wid_3 wd_10) rfl
theorem r3_141 : runs cal 3 141 [vR 10, v1, v2, v3, v4, v5] [] I = runs cal 3 142 [vR 10, v1, v2, v3, v4, v5] [vR 10] I := runs_to (ins_of mI_3 (by rfl)) rfl rfl
theorem r3_142 : runs cal 3 142 [v0, v1, v2, v3, v4, v5] [vR 10] I = runs cal 3 143 [v0, v1, v2, v3, v4, v5] [vR 10, vR 10] I := runs_to (ins_of mI_3 (by rfl)) rfl rfl
theorem r3_143 : runs cal 3 143 [v0, v1, v2, v3, v4, v5] [vR 10, vR 10] I = runs cal 3 146 [v0, v1, v2, v3, v4, v5] [vI (I 10 3), vR 10] I := st_getI (ins_of mI_3 (by rfl)) mC_3 (by decide) fr_0_43 cT_10 (wdc wid_3 wd_10) (Or.inl rfl)
theorem r3_146 : runs cal 3 146 [v0, v1, v2, v3, v4, v5] [vI x0, vR 10] I = runs cal 3 147 [v0, v1, v2, v3, v4, v5] [vI (1), vI x0, vR 10] I := runs_to (ins_of mI_3 (by rfl)) rfl rfl
theorem r3_147 : runs cal 3 147 [v0, v1, v2, v3, v4, v5] [vI x0, vI x1, vR 10] I = runs cal 3 148 [v0, v1, v2, v3, v4, v5] [vI (iadd x1 x0), vR 10] I := runs_to (ins_of mI_3 (by rfl)) rfl rfl
theorem r3_148 : runs cal 3 148 [v0, v1, v2, v3, v4, v5] [vI x0, vR 10] I = runs cal 3 151 [v0, v1, v2, v3, v4, v5] [] (mset I 10 3 x0) := st_putI (ins_of mI_3 (by rfl)) mC_3 fr_0_43 cT_10 (wdc wid_3 wd_10) rfl
theorem r3_151 : runs cal 3 151 [v0, v1, v2, v3, v4, v5] [] I = runs cal 3 152 [v0, v1, v2, v3, v4, v5] [vI (1)] I := runs_to (ins_of mI_3 (by rfl)) rfl rfl
theorem r3_152 : runs cal 3 152 [v0, v1, v2, v3, v4, v5] [vI x0] I = if x0 = 0 ∨ x0 = 1 then some (some (vI x0), I) else none := st_retZ (ins_of mI_3 (by rfl)) mR_3 (Or.inl rfl)
theorem r4_0 : runs cal 4 0 [v0, vI w] [] I = runs cal 4 1 [v0, vI w] [vI w] I := runs_to (ins_of mI_4 (by rfl)) rfl rfl
theorem r4_1 : runs cal 4 1 [v0, v1] [vI x0] I = if x0 < 0 then runs cal 4 16 [v0, v1] [] I else runs cal 4 4 [v0, v1] [] I := st_if_lt (ins_of mI_4 (by rfl)) (by decide)
theorem r4_4 : runs cal 4 4 [v0, vI w] [] I = runs cal 4 5 [v0, vI w] [vI w] I := runs_to (ins_of mI_4 (by rfl)) rfl rfl
theorem r4_5 : runs cal 4 5 [vR 2, v1] [vI x0] I = runs cal 4 6 [vR 2, v1] [vR 2, vI x0] I := runs_to (ins_of mI_4 (by rfl)) rfl rfl
theorem r4_6 : runs cal 4 6 [v0, v1] [vR 2, vI x1] I = runs cal 4 9 [v0, v1] [vI (I 2 0), vI x1] I := st_getI (ins_of mI_4 (by rfl)) mC_4 (by decide) fr_0_11 cT_2 (wdc wid_4 wd_2) (Or.inl rfl)
theorem r4_9 : runs cal 4 9 [v0, v1] [vI x0, vI x1] I = if x0 < x1 then runs cal 4 16 [v0, v1] [] I else runs cal 4 12 [v0, v1] [] I := st_cmp_gt (ins_of mI_4 (by rfl)) (by decide)
theorem r4_12 : runs cal 4 12 [v0, v1] [] I = runs cal 4 13 [v0, v1] [vI (1)] I := runs_to (ins_of mI_4 (by rfl)) rfl rfl
theorem r4_13 : runs cal 4 13 [v0, v1] [vI x0] I = runs cal 4 17 [v0, v1] [vI x0] I := st_goto (ins_of mI_4 (by rfl)) (by decide)
theorem r4_16 : runs cal 4 16 [v0, v1] [] I = runs cal 4 17 [v0, v1] [vI (0)] I := runs_to (ins_of mI_4 (by rfl)) rfl rfl
theorem r4_17 : runs cal 4 17 [v0, v1] [vI x0] I = if x0 = 0 ∨ x0 = 1 then some (some (vI x0), I) else none := st_retZ (ins_of mI_4 (by rfl)) mR_4 (Or.inl rfl)
theorem r5_0 : runs cal 5 0 [v0, vI w] [] I = runs cal 5 1 [v0, vI w] [vI w] I := runs_to (ins_of mI_5 (by rfl)) rfl rfl
theorem r5_1 : runs cal 5 1 [v0, v1] [vI x0] I = if x0 < 0 then runs cal 5 16 [v0, v1] [] I else runs cal 5 4 [v0, v1] [] I := st_if_lt (ins_of mI_5 (by rfl)) (by decide)
theorem r5_4 : runs cal 5 4 [v0, vI w] [] I = runs cal 5 5 [v0, vI w] [vI w] I := runs_to (ins_of mI_5 (by rfl)) rfl rfl
theorem r5_5 : runs cal 5 5 [vR 2, v1] [vI x0] I = runs cal 5 6 [vR 2, v1] [vR 2, vI x0] I := runs_to (ins_of mI_5 (by rfl)) rfl rfl
theorem r5_6 : runs cal 5 6 [v0, v1] [vR 2, vI x1] I = runs cal 5 9 [v0, v1] [vI (I 2 3), vI x1] I := st_getI (ins_of mI_5 (by rfl)) mC_5 (by decide) fr_0_43 cT_2 (wdc wid_5 wd_2) (Or.inl rfl)
theorem r5_9 : runs cal 5 9 [v0, v1] [vI x0, vI x1] I = if x1 < x0 then runs cal 5 12 [v0, v1] [] I else runs cal 5 16 [v0, v1] [] I := st_cmp_ge (ins_of mI_5 (by rfl)) (by decide)
theorem r5_12 : runs cal 5 12 [v0, v1] [] I = runs cal 5 13 [v0, v1] [vI (1)] I := runs_to (ins_of mI_5 (by rfl)) rfl rfl
theorem r5_13 : runs cal 5 13 [v0, v1] [vI x0] I = runs cal 5 17 [v0, v1] [vI x0] I := st_goto (ins_of mI_5 (by rfl)) (by decide)
theorem r5_16 : runs cal 5 16 [v0, v1] [] I = runs cal 5 17 [v0, v1] [vI (0)] I := runs_to (ins_of mI_5 (by rfl)) rfl rfl
theorem r5_17 : runs cal 5 17 [v0, v1] [vI x0] I = if x0 = 0 ∨ x0 = 1 then some (some (vI x0), I) else none := st_retZ (ins_of mI_5 (by rfl)) mR_5 (Or.inl rfl)
theorem r6_0 : runs cal 6 0 [v0, vI w] [] I = runs cal 6 1 [v0, vI w] [vI w] I := runs_to (ins_of mI_6 (by rfl)) rfl rfl
theorem r6_1 : runs cal 6 1 [v0, v1] [vI x0] I = if x0 = 0 then runs cal 6 12 [v0, v1] [] I else runs cal 6 4 [v0, v1] [] I := st_if_eq (ins_of mI_6 (by rfl)) (by decide)
theorem r6_4 : runs cal 6 4 [v0, vI w] [] I = runs cal 6 5 [v0, vI w] [vI w] I := runs_to (ins_of mI_6 (by rfl)) rfl rfl
theorem r6_5 : runs cal 6 5 [vR 2, v1] [vI x0] I = runs cal 6 6 [vR 2, v1] [vR 2, vI x0] I := runs_to (ins_of mI_6 (by rfl)) rfl rfl
theorem r6_6 : runs cal 6 6 [v0, v1] [vR 2, vI x1] I = runs cal 6 9 [v0, v1] [vI (I 2 0), vI x1] I := st_getI (ins_of mI_6 (by rfl)) mC_6 (by decide) fr_0_11 cT_2 (wdc wid_6 wd_2) (Or.inl rfl)
theorem r6_9 : runs cal 6 9 [v0, v1] [vI x0, vI x1] I = if x1 = x0 then runs cal 6 12 [v0, v1] [] I else runs cal 6 14 [v0, v1] [] I := st_cmp_ne (ins_of mI_6 (by rfl)) (by decide)
theorem r6_12 : runs cal 6 12 [v0, v1] [] I = runs cal 6 13 [v0, v1] [vI (0)] I := runs_to (ins_of mI_6 (by rfl)) rfl rfl
theorem r6_13 : runs cal 6 13 [v0, v1] [vI x0] I = some (some (vI x0), I) := st_ret (q := some (vI x0)) (k := 0) (ins_of mI_6 (by rfl)) rfl (by decide) mR_6 rfl trivial
theorem r6_14 : runs cal 6 14 [vR 2, v1] [] I = runs cal 6 15 [vR 2, v1] [vR 2] I := runs_to (ins_of mI_6 (by rfl)) rfl rfl
theorem r6_15 : runs cal 6 15 [v0, v1] [vR 2] I = runs cal 6 18 [v0, v1] [vI (I 2 1)] I := st_getI (ins_of mI_6 (by rfl)) mC_6 (by decide) fr_0_37 cT_2 (wdc wid_6 wd_2) (Or.inl rfl)
theorem r6_18 : runs cal 6 18 [v0, vI w] [vI x0] I = runs cal 6 19 [v0, vI w] [vI w, vI x0] I := runs_to (ins_of mI_6 (by rfl)) rfl rfl
theorem r6_19 : runs cal 6 19 [v0, v1] [vI x0, vI x1] I = runs cal 6 20 [v0, v1] [vI (ishr x1 x0)] I := runs_to (ins_of mI_6 (by rfl)) rfl rfl
theorem r6_20 : runs cal 6 20 [v0, v1] [vI x0] I = runs cal 6 21 [v0, v1] [vI (1), vI x0] I := runs_to (ins_of mI_6 (by rfl)) rfl rfl
theorem r6_21 : runs cal 6 21 [v0, v1] [vI x0, vI x1] I = runs cal 6 22 [v0, v1] [vI (iand x1 x0)] I := runs_to (ins_of mI_6 (by rfl)) rfl rfl
theorem r6_22 : runs cal 6 22 [v0, v1] [vI x0] I = runs cal 6 23 [v0, v1] [vI (1), vI x0] I := runs_to (ins_of mI_6 (by rfl)) rfl rfl
theorem r6_23 : runs cal 6 23 [v0, v1] [vI x0, vI x1] I = if x1 = x0 then runs cal 6 26 [v0, v1] [] I else runs cal 6 30 [v0, v1] [] I := st_cmp_ne (ins_of mI_6 (by rfl)) (by decide)
theorem r6_26 : runs cal 6 26 [v0, v1] [] I = runs cal 6 27 [v0, v1] [vI (1)] I := runs_to (ins_of mI_6 (by rfl)) rfl rfl
theorem r6_27 : runs cal 6 27 [v0, v1] [vI x0] I = runs cal 6 31 [v0, v1] [vI x0] I := st_goto (ins_of mI_6 (by rfl)) (by decide)
theorem r6_30 : runs cal 6 30 [v0, v1] [] I = runs cal 6 31 [v0, v1] [vI (2)] I := runs_to (ins_of mI_6 (by rfl)) rfl rfl
theorem r6_31 : runs cal 6 31 [v0, v1] [vI x0] I = some (some (vI x0), I) := st_ret (q := some (vI x0)) (k := 0) (ins_of mI_6 (by rfl)) rfl (by decide) mR_6 rfl trivial
theorem r7_0 : runs cal 7 0 [v0, vI w, v2] [] I = runs cal 7 1 [v0, vI w, v2] [vI w] I := runs_to (ins_of mI_7 (by rfl)) rfl rfl
theorem r7_1 : runs cal 7 1 [v0, v1, v2] [vI x0] I = runs cal 7 2 [v0, v1, v2] [vI (3), vI x0] I := runs_to (ins_of mI_7 (by rfl)) rfl rfl
theorem r7_2 : runs cal 7 2 [v0, v1, vI w] [vI x0, vI x1] I = runs cal 7 3 [v0, v1, vI w] [vI w, vI x0, vI x1] I := runs_to (ins_of mI_7 (by rfl)) rfl rfl
theorem r7_3 : runs cal 7 3 [v0, v1, v2] [vI x0, vI x1, vI x2] I = runs cal 7 4 [v0, v1, v2] [vI (imul x1 x0), vI x2] I := runs_to (ins_of mI_7 (by rfl)) rfl rfl
theorem r7_4 : runs cal 7 4 [v0, v1, v2] [vI x0, vI x1] I = runs cal 7 5 [v0, v1, v2] [vI (ishr x1 x0)] I := runs_to (ins_of mI_7 (by rfl)) rfl rfl
theorem r7_5 : runs cal 7 5 [v0, v1, v2] [vI x0] I = runs cal 7 7 [v0, v1, v2] [vI (7), vI x0] I := runs_to (ins_of mI_7 (by rfl)) rfl rfl
theorem r7_7 : runs cal 7 7 [v0, v1, v2] [vI x0, vI x1] I = runs cal 7 8 [v0, v1, v2] [vI (iand x1 x0)] I := runs_to (ins_of mI_7 (by rfl)) rfl rfl
theorem r7_8 : runs cal 7 8 [v0, v1, v2] [vI x0] I = some (some (vI x0), I) := st_ret (q := some (vI x0)) (k := 0) (ins_of mI_7 (by rfl)) rfl (by decide) mR_7 rfl trivial
theorem r8_0 : runs cal 8 0 [v0, vI w, v2] [] I = runs cal 8 1 [v0, vI w, v2] [vI w] I := runs_to (ins_of mI_8 (by rfl)) rfl rfl
theorem r8_1 : runs cal 8 1 [v0, v1, v2] [vI x0] I = runs cal 8 3 [v0, v1, v2] [vI (9), vI x0] I := runs_to (ins_of mI_8 (by rfl)) rfl rfl
theorem r8_3 : runs cal 8 3 [v0, v1, v2] [vI x0, vI x1] I = runs cal 8 4 [v0, v1, v2] [vI (4), vI x0, vI x1] I := runs_to (ins_of mI_8 (by rfl)) rfl rfl
theorem r8_4 : runs cal 8 4 [v0, v1, vI w] [vI x0, vI x1, vI x2] I = runs cal 8 5 [v0, v1, vI w] [vI w, vI x0, vI x1, vI x2] I := runs_to (ins_of mI_8 (by rfl)) rfl rfl
theorem r8_5 : runs cal 8 5 [v0, v1, v2] [vI x0, vI x1, vI x2, vI x3] I = runs cal 8 6 [v0, v1, v2] [vI (imul x1 x0), vI x2, vI x3] I := runs_to (ins_of mI_8 (by rfl)) rfl rfl
theorem r8_6 : runs cal 8 6 [v0, v1, v2] [vI x0, vI x1, vI x2] I = runs cal 8 7 [v0, v1, v2] [vI (iadd x1 x0), vI x2] I := runs_to (ins_of mI_8 (by rfl)) rfl rfl
theorem r8_7 : runs cal 8 7 [v0, v1, v2] [vI x0, vI x1] I = runs cal 8 8 [v0, v1, v2] [vI (ishr x1 x0)] I := runs_to (ins_of mI_8 (by rfl)) rfl rfl
theorem r8_8 : runs cal 8 8 [v0, v1, v2] [vI x0] I = runs cal 8 10 [v0, v1, v2] [vI (15), vI x0] I := runs_to (ins_of mI_8 (by rfl)) rfl rfl
theorem r8_10 : runs cal 8 10 [v0, v1, v2] [vI x0, vI x1] I = runs cal 8 11 [v0, v1, v2] [vI (iand x1 x0)] I := runs_to (ins_of mI_8 (by rfl)) rfl rfl
theorem r8_11 : runs cal 8 11 [v0, v1, v2] [vI x0] I = some (some (vI x0), I) := st_ret (q := some (vI x0)) (k := 0) (ins_of mI_8 (by rfl)) rfl (by decide) mR_8 rfl trivial
theorem r9_0 : runs cal 9 0 [vR 2, v1, v2] [] I = runs cal 9 1 [vR 2, v1, v2] [vR 2] I := runs_to (ins_of mI_9 (by rfl)) rfl rfl
theorem r9_1 : runs cal 9 1 [v0, vI w, v2] [vR 2] I = runs cal 9 2 [v0, vI w, v2] [vI w, vR 2] I := runs_to (ins_of mI_9 (by rfl)) rfl rfl
theorem r9_2 : runs cal 9 2 [v0, v1, vI w] [vI x0, vR 2] I = runs cal 9 3 [v0, v1, vI w] [vI w, vI x0, vR 2] I := runs_to (ins_of mI_9 (by rfl)) rfl rfl
theorem r9_3 : runs cal 9 3 [v0, v1, v2] [vI x0, vI x1, vR 2] I = (cal 8 [vR 2, vI x1, vI x0] I).bind (fun q => runs cal 9 6 [v0, v1, v2] (pushR q.1 []) q.2) := st_call (st := false) (ins_of mI_9 (by rfl)) mC_9 mr_0_76 (by decide) mS_8 mN_8 rfl (Nat.le_of_ble_eq_true rfl) rfl rfl (Or.inr ⟨_, _, rfl, rcv mC_8 rfl wid_9 (by decide +kernel)⟩) (Or.inl (wid_9.trans wid_8.symm))
theorem r9_6 : runs cal 9 6 [v0, v1, v2] [vI x0] I = runs cal 9 8 [v0, v1, v2] [vI (8), vI x0] I := runs_to (ins_of mI_9 (by rfl)) rfl rfl
theorem r9_8 : runs cal 9 8 [v0, v1, v2] [vI x0, vI x1] I = if x1 < x0 then runs cal 9 11 [v0, v1, v2] [] I else runs cal 9 15 [v0, v1, v2] [] I := st_cmp_ge (ins_of mI_9 (by rfl)) (by decide)
theorem r9_11 : runs cal 9 11 [v0, v1, v2] [] I = runs cal 9 12 [v0, v1, v2] [vI (1)] I := runs_to (ins_of mI_9 (by rfl)) rfl rfl
theorem r9_12 : runs cal 9 12 [v0, v1, v2] [vI x0] I = runs cal 9 16 [v0, v1, v2] [vI x0] I := st_goto (ins_of mI_9 (by rfl)) (by decide)
theorem r9_15 : runs cal 9 15 [v0, v1, v2] [] I = runs cal 9 16 [v0, v1, v2] [vI (0)] I := runs_to (ins_of mI_9 (by rfl)) rfl rfl
theorem r9_16 : runs cal 9 16 [v0, v1, v2] [vI x0] I = if x0 = 0 ∨ x0 = 1 then some (some (vI x0), I) else none := st_retZ (ins_of mI_9 (by rfl)) mR_9 (Or.inl rfl)
theorem r10_0 : runs cal 10 0 [v0, vI w, v2, v3] [] I = runs cal 10 1 [v0, vI w, v2, v3] [vI w] I := runs_to (ins_of mI_10 (by rfl)) rfl rfl
theorem r10_1 : runs cal 10 1 [v0, v1, v2, v3] [vI x0] I = runs cal 10 3 [v0, v1, v2, v3] [vI (7), vI x0] I := runs_to (ins_of mI_10 (by rfl)) rfl rfl
theorem r10_3 : runs cal 10 3 [v0, v1, v2, v3] [vI x0, vI x1] I = runs cal 10 4 [v0, v1, v2, v3] [vI (3), vI x0, vI x1] I := runs_to (ins_of mI_10 (by rfl)) rfl rfl
theorem r10_4 : runs cal 10 4 [v0, v1, vI w, v3] [vI x0, vI x1, vI x2] I = runs cal 10 5 [v0, v1, vI w, v3] [vI w, vI x0, vI x1, vI x2] I := runs_to (ins_of mI_10 (by rfl)) rfl rfl
theorem r10_5 : runs cal 10 5 [v0, v1, v2, v3] [vI x0, vI x1, vI x2, vI x3] I = runs cal 10 6 [v0, v1, v2, v3] [vI (imul x1 x0), vI x2, vI x3] I := runs_to (ins_of mI_10 (by rfl)) rfl rfl
theorem r10_6 : runs cal 10 6 [v0, v1, v2, v3] [vI x0, vI x1, vI x2] I = runs cal 10 7 [v0, v1, v2, v3] [vI (ishl x1 x0), vI x2] I := runs_to (ins_of mI_10 (by rfl)) rfl rfl
theorem r10_7 : runs cal 10 7 [v0, v1, v2, v3] [vI x0, vI x1] I = runs cal 10 8 [v0, v1, v2, v3] [vI (-1), vI x0, vI x1] I := runs_to (ins_of mI_10 (by rfl)) rfl rfl
theorem r10_8 : runs cal 10 8 [v0, v1, v2, v3] [vI x0, vI x1, vI x2] I = runs cal 10 9 [v0, v1, v2, v3] [vI (ixor x1 x0), vI x2] I := runs_to (ins_of mI_10 (by rfl)) rfl rfl
theorem r10_9 : runs cal 10 9 [v0, v1, v2, v3] [vI x0, vI x1] I = runs cal 10 10 [v0, v1, v2, v3] [vI (iand x1 x0)] I := runs_to (ins_of mI_10 (by rfl)) rfl rfl
theorem r10_10 : runs cal 10 10 [v0, v1, v2, vI w] [vI x0] I = runs cal 10 11 [v0, v1, v2, vI w] [vI w, vI x0] I := runs_to (ins_of mI_10 (by rfl)) rfl rfl
theorem r10_11 : runs cal 10 11 [v0, v1, v2, v3] [vI x0, vI x1] I = runs cal 10 12 [v0, v1, v2, v3] [vI (3), vI x0, vI x1] I := runs_to (ins_of mI_10 (by rfl)) rfl rfl
theorem r10_12 : runs cal 10 12 [v0, v1, vI w, v3] [vI x0, vI x1, vI x2] I = runs cal 10 13 [v0, v1, vI w, v3] [vI w, vI x0, vI x1, vI x2] I := runs_to (ins_of mI_10 (by rfl)) rfl rfl
theorem r10_13 : runs cal 10 13 [v0, v1, v2, v3] [vI x0, vI x1, vI x2, vI x3] I = runs cal 10 14 [v0, v1, v2, v3] [vI (imul x1 x0), vI x2, vI x3] I := runs_to (ins_of mI_10 (by rfl)) rfl rfl
theorem r10_14 : runs cal 10 14 [v0, v1, v2, v3] [vI x0, vI x1, vI x2] I = runs cal 10 15 [v0, v1, v2, v3] [vI (ishl x1 x0), vI x2] I := runs_to (ins_of mI_10 (by rfl)) rfl rfl
theorem r10_15 : runs cal 10 15 [v0, v1, v2, v3] [vI x0, vI x1] I = runs cal 10 16 [v0, v1, v2, v3] [vI (ior x1 x0)] I := runs_to (ins_of mI_10 (by rfl)) rfl rfl
theorem r10_16 : runs cal 10 16 [v0, v1, v2, v3] [vI x0] I = some (some (vI x0), I) := st_ret (q := some (vI x0)) (k := 0) (ins_of mI_10 (by rfl)) rfl (by decide) mR_10 rfl trivial
theorem r11_0 : runs cal 11 0 [v0, vI w, v2, v3] [] I = runs cal 11 1 [v0, vI w, v2, v3] [vI w] I := runs_to (ins_of mI_11 (by rfl)) rfl rfl
theorem r11_1 : runs cal 11 1 [v0, v1, v2, v3] [vI x0] I = runs cal 11 3 [v0, v1, v2, v3] [vI (15), vI x0] I := runs_to (ins_of mI_11 (by rfl)) rfl rfl
theorem r11_3 : runs cal 11 3 [v0, v1, v2, v3] [vI x0, vI x1] I = runs cal 11 5 [v0, v1, v2, v3] [vI (9), vI x0, vI x1] I := runs_to (ins_of mI_11 (by rfl)) rfl rfl
theorem r11_5 : runs cal 11 5 [v0, v1, v2, v3] [vI x0, vI x1, vI x2] I = runs cal 11 6 [v0, v1, v2, v3] [vI (4), vI x0, vI x1, vI x2] I := runs_to (ins_of mI_11 (by rfl)) rfl rfl
theorem r11_6 : runs cal 11 6 [v0, v1, vI w, v3] [vI x0, vI x1, vI x2, vI x3] I = runs cal 11 7 [v0, v1, vI w, v3] [vI w, vI x0, vI x1, vI x2, vI x3] I := runs_to (ins_of mI_11 (by rfl)) rfl rfl
theorem r11_7 : runs cal 11 7 [v0, v1, v2, v3] [vI x0, vI x1, vI x2, vI x3, vI x4] I = runs cal 11 8 [v0, v1, v2, v3] [vI (imul x1 x0), vI x2, vI x3, vI x4] I := runs_to (ins_of mI_11 (by rfl)) rfl rfl
theorem r11_8 : runs cal 11 8 [v0, v1, v2, v3] [vI x0, vI x1, vI x2, vI x3] I = runs cal 11 9 [v0, v1, v2, v3] [vI (iadd x1 x0), vI x2, vI x3] I := runs_to (ins_of mI_11 (by rfl)) rfl rfl
theorem r11_9 : runs cal 11 9 [v0, v1, v2, v3] [vI x0, vI x1, vI x2] I = runs cal 11 10 [v0, v1, v2, v3] [vI (ishl x1 x0), vI x2] I := runs_to (ins_of mI_11 (by rfl)) rfl rfl
theorem r11_10 : runs cal 11 10 [v0, v1, v2, v3] [vI x0, vI x1] I = runs cal 11 11 [v0, v1, v2, v3] [vI (-1), vI x0, vI x1] I := runs_to (ins_of mI_11 (by rfl)) rfl rfl
theorem r11_11 : runs cal 11 11 [v0, v1, v2, v3] [vI x0, vI x1, vI x2] I = runs cal 11 12 [v0, v1, v2, v3] [vI (ixor x1 x0), vI x2] I := runs_to (ins_of mI_11 (by rfl)) rfl rfl
theorem r11_12 : runs cal 11 12 [v0, v1, v2, v3] [vI x0, vI x1] I = runs cal 11 13 [v0, v1, v2, v3] [vI (iand x1 x0)] I := runs_to (ins_of mI_11 (by rfl)) rfl rfl
theorem r11_13 : runs cal 11 13 [v0, v1, v2, vI w] [vI x0] I = runs cal 11 14 [v0, v1, v2, vI w] [vI w, vI x0] I := runs_to (ins_of mI_11 (by rfl)) rfl rfl
theorem r11_14 : runs cal 11 14 [v0, v1, v2, v3] [vI x0, vI x1] I = runs cal 11 16 [v0, v1, v2, v3] [vI (9), vI x0, vI x1] I := runs_to (ins_of mI_11 (by rfl)) rfl rfl
theorem r11_16 : runs cal 11 16 [v0, v1, v2, v3] [vI x0, vI x1, vI x2] I = runs cal 11 17 [v0, v1, v2, v3] [vI (4), vI x0, vI x1, vI x2] I := runs_to (ins_of mI_11 (by rfl)) rfl rfl
theorem r11_17 : runs cal 11 17 [v0, v1, vI w, v3] [vI x0, vI x1, vI x2, vI x3] I = runs cal 11 18 [v0, v1, vI w, v3] [vI w, vI x0, vI x1, vI x2, vI x3] I := runs_to (ins_of mI_11 (by rfl)) rfl rfl
theorem r11_18 : runs cal 11 18 [v0, v1, v2, v3] [vI x0, vI x1, vI x2, vI x3, vI x4] I = runs cal 11 19 [v0, v1, v2, v3] [vI (imul x1 x0), vI x2, vI x3, vI x4] I := runs_to (ins_of mI_11 (by rfl)) rfl rfl
theorem r11_19 : runs cal 11 19 [v0, v1, v2, v3] [vI x0, vI x1, vI x2, vI x3] I = runs cal 11 20 [v0, v1, v2, v3] [vI (iadd x1 x0), vI x2, vI x3] I := runs_to (ins_of mI_11 (by rfl)) rfl rfl
theorem r11_20 : runs cal 11 20 [v0, v1, v2, v3] [vI x0, vI x1, vI x2] I = runs cal 11 21 [v0, v1, v2, v3] [vI (ishl x1 x0), vI x2] I := runs_to (ins_of mI_11 (by rfl)) rfl rfl
theorem r11_21 : runs cal 11 21 [v0, v1, v2, v3] [vI x0, vI x1] I = runs cal 11 22 [v0, v1, v2, v3] [vI (ior x1 x0)] I := runs_to (ins_of mI_11 (by rfl)) rfl rfl
theorem r11_22 : runs cal 11 22 [v0, v1, v2, v3] [vI x0] I = some (some (vI x0), I) := st_ret (q := some (vI x0)) (k := 0) (ins_of mI_11 (by rfl)) rfl (by decide) mR_11 rfl trivial
theorem r12_0 : runs cal 12 0 [vR 2, v1] [] I = runs cal 12 1 [vR 2, v1] [vR 2] I := runs_to (ins_of mI_12 (by rfl)) rfl rfl
theorem r12_1 : runs cal 12 1 [v0, v1] [vR 2] I = runs cal 12 4 [v0, v1] [vR 4] I := st_getR (ins_of mI_12 (by rfl)) mC_12 (by decide) fr_0_19 cT_2 (wdc wid_12 wd_2) rfl rfl
theorem r12_4 : runs cal 12 4 [v0, vI w] [vR 4] I = runs cal 12 5 [v0, vI w] [vI w, vR 4] I := runs_to (ins_of mI_12 (by rfl)) rfl rfl
theorem r12_5 : runs cal 12 5 [v0, v1] [vI x0, vR 4] I = if 0 ≤ x0 ∧ x0 < 3 then runs cal 12 6 [v0, v1] [vI (I 4 x0)] I else none := st_iald (ins_of mI_12 (by rfl)) cT_4 (wdc wid_12 wd_4)
theorem r12_6 : runs cal 12 6 [v0, v1] [vI x0] I = if x0 = 0 then runs cal 12 9 [v0, v1] [] I else runs cal 12 13 [v0, v1] [] I := st_if_ne (ins_of mI_12 (by rfl)) (by decide)
theorem r12_9 : runs cal 12 9 [v0, v1] [] I = runs cal 12 10 [v0, v1] [vI (0)] I := runs_to (ins_of mI_12 (by rfl)) rfl rfl
theorem r12_10 : runs cal 12 10 [v0, v1] [vI x0] I = runs cal 12 17 [v0, v1] [vI x0] I := st_goto (ins_of mI_12 (by rfl)) (by decide)
theorem r12_13 : runs cal 12 13 [vR 2, v1] [] I = runs cal 12 14 [vR 2, v1] [vR 2] I := runs_to (ins_of mI_12 (by rfl)) rfl rfl
theorem r12_14 : runs cal 12 14 [v0, v1] [vR 2] I = runs cal 12 17 [v0, v1] [vI (I 2 0)] I := st_getI (ins_of mI_12 (by rfl)) mC_12 (by decide) fr_0_11 cT_2 (wdc wid_12 wd_2) (Or.inl rfl)
theorem r12_17 : runs cal 12 17 [v0, v1] [vI x0] I = some (some (vI x0), I) := st_ret (q := some (vI x0)) (k := 0) (ins_of mI_12 (by rfl)) rfl (by decide) mR_12 rfl trivial
theorem r13_0 : runs cal 13 0 [vR 2, v1, v2] [] I = runs cal 13 1 [vR 2, v1, v2] [vR 2] I := runs_to (ins_of mI_13 (by rfl)) rfl rfl
theorem r13_1 : runs cal 13 1 [v0, vI w, v2] [vR 2] I = runs cal 13 2 [v0, vI w, v2] [vI w, vR 2] I := runs_to (ins_of mI_13 (by rfl)) rfl rfl
theorem r13_2 : runs cal 13 2 [v0, v1, vI w] [vI x0, vR 2] I = runs cal 13 3 [v0, v1, vI w] [vI w, vI x0, vR 2] I := runs_to (ins_of mI_13 (by rfl)) rfl rfl
theorem r13_3 : runs cal 13 3 [v0, v1, v2] [vI x0, vI x1, vR 2] I = (cal 7 [vR 2, vI x1, vI x0] I).bind (fun q => runs cal 13 6 [v0, v1, v2] (pushR q.1 []) q.2) := st_call (st := false) (ins_of mI_13 (by rfl)) mC_13 mr_0_79 (by decide) mS_7 mN_7 rfl (Nat.le_of_ble_eq_true rfl) rfl rfl (Or.inr ⟨_, _, rfl, rcv mC_7 rfl wid_13 (by decide +kernel)⟩) (Or.inl (wid_13.trans wid_7.symm))
theorem r13_6 : runs cal 13 6 [vR 2, v1, v2] [vI x0] I = runs cal 13 7 [vR 2, v1, v2] [vR 2, vI x0] I := runs_to (ins_of mI_13 (by rfl)) rfl rfl
theorem r13_7 : runs cal 13 7 [v0, v1, vI w] [vR 2, vI x1] I = runs cal 13 8 [v0, v1, vI w] [vI w, vR 2, vI x1] I := runs_to (ins_of mI_13 (by rfl)) rfl rfl
theorem r13_8 : runs cal 13 8 [v0, v1, v2] [vI x0, vR 2, vI x2] I = (cal 12 [vR 2, vI x0] I).bind (fun q => runs cal 13 11 [v0, v1, v2] (pushR q.1 [vI x2]) q.2) := st_call (st := false) (ins_of mI_13 (by rfl)) mC_13 mr_0_82 (by decide) mS_12 mN_12 rfl (Nat.le_of_ble_eq_true rfl) rfl rfl (Or.inr ⟨_, _, rfl, rcv mC_12 rfl wid_13 (by decide +kernel)⟩) (Or.inl (wid_13.trans wid_12.symm))
theorem r13_11 : runs cal 13 11 [v0, v1, v2] [vI x0, vI x1] I = if x1 = x0 then runs cal 13 14 [v0, v1, v2] [] I else runs cal 13 18 [v0, v1, v2] [] I := st_cmp_ne (ins_of mI_13 (by rfl)) (by decide)
theorem r13_14 : runs cal 13 14 [v0, v1, v2] [] I = runs cal 13 15 [v0, v1, v2] [vI (1)] I := runs_to (ins_of mI_13 (by rfl)) rfl rfl
theorem r13_15 : runs cal 13 15 [v0, v1, v2] [vI x0] I = runs cal 13 19 [v0, v1, v2] [vI x0] I := st_goto (ins_of mI_13 (by rfl)) (by decide)
theorem r13_18 : runs cal 13 18 [v0, v1, v2] [] I = runs cal 13 19 [v0, v1, v2] [vI (0)] I := runs_to (ins_of mI_13 (by rfl)) rfl rfl
theorem r13_19 : runs cal 13 19 [v0, v1, v2] [vI x0] I = if x0 = 0 ∨ x0 = 1 then some (some (vI x0), I) else none := st_retZ (ins_of mI_13 (by rfl)) mR_13 (Or.inl rfl)
theorem r14_0 : runs cal 14 0 [v0, v1, v2, v3] [] I = runs cal 14 1 [v0, v1, v2, v3] [vI (0)] I := runs_to (ins_of mI_14 (by rfl)) rfl rfl
theorem r14_1 : runs cal 14 1 [v0, vI u, v2, v3] [vI x0] I = runs cal 14 2 [v0, vI u, vI x0, v3] [] I := runs_to (ins_of mI_14 (by rfl)) rfl rfl
theorem r14_2 : runs cal 14 2 [v0, v1, v2, v3] [] I = runs cal 14 3 [v0, v1, v2, v3] [vI (0)] I := runs_to (ins_of mI_14 (by rfl)) rfl rfl
theorem r14_3 : runs cal 14 3 [v0, v1, vI u, v3] [vI x0] I = runs cal 14 4 [v0, v1, vI u, vI x0] [] I := runs_to (ins_of mI_14 (by rfl)) rfl rfl
theorem r14_4 : runs cal 14 4 [v0, v1, v2, vI w] [] I = runs cal 14 5 [v0, v1, v2, vI w] [vI w] I := runs_to (ins_of mI_14 (by rfl)) rfl rfl
theorem r14_5 : runs cal 14 5 [vR 2, v1, v2, v3] [vI x0] I = runs cal 14 6 [vR 2, v1, v2, v3] [vR 2, vI x0] I := runs_to (ins_of mI_14 (by rfl)) rfl rfl
theorem r14_6 : runs cal 14 6 [v0, v1, v2, v3] [vR 2, vI x1] I = runs cal 14 9 [v0, v1, v2, v3] [vI (I 2 2), vI x1] I := st_getI (ins_of mI_14 (by rfl)) mC_14 (by decide) fr_0_40 cT_2 (wdc wid_14 wd_2) (Or.inl rfl)
theorem r14_9 : runs cal 14 9 [v0, v1, v2, v3] [vI x0, vI x1] I = if x1 < x0 then runs cal 14 12 [v0, v1, v2, v3] [] I else runs cal 14 30 [v0, v1, v2, v3] [] I := st_cmp_ge (ins_of mI_14 (by rfl)) (by decide)
theorem r14_12 : runs cal 14 12 [vR 2, v1, v2, v3] [] I = runs cal 14 13 [vR 2, v1, v2, v3] [vR 2] I := runs_to (ins_of mI_14 (by rfl)) rfl rfl
theorem r14_13 : runs cal 14 13 [v0, vI w, v2, v3] [vR 2] I = runs cal 14 14 [v0, vI w, v2, v3] [vI w, vR 2] I := runs_to (ins_of mI_14 (by rfl)) rfl rfl
theorem r14_14 : runs cal 14 14 [v0, v1, v2, vI w] [vI x0, vR 2] I = runs cal 14 15 [v0, v1, v2, vI w] [vI w, vI x0, vR 2] I := runs_to (ins_of mI_14 (by rfl)) rfl rfl
theorem r14_15 : runs cal 14 15 [v0, v1, v2, v3] [vI x0, vI x1, vR 2] I = (cal 13 [vR 2, vI x1, vI x0] I).bind (fun q => runs cal 14 18 [v0, v1, v2, v3] (pushR q.1 []) q.2) := st_call (st := false) (ins_of mI_14 (by rfl)) mC_14 mr_0_85 (by decide) mS_13 mN_13 rfl (Nat.le_of_ble_eq_true rfl) rfl rfl (Or.inr ⟨_, _, rfl, rcv mC_13 rfl wid_14 (by decide +kernel)⟩) (Or.inl (wid_14.trans wid_13.symm))
theorem r14_18 : runs cal 14 18 [v0, v1, v2, v3] [vI x0] I = if x0 = 0 then runs cal 14 24 [v0, v1, v2, v3] [] I else runs cal 14 21 [v0, v1, v2, v3] [] I := st_if_eq (ins_of mI_14 (by rfl)) (by decide)
theorem r14_21 : runs cal 14 21 [v0, vI u, vI w, v3] [] I = runs cal 14 24 [v0, vI u, vI (iadd w (1)), v3] [] I := runs_to (ins_of mI_14 (by rfl)) rfl rfl
theorem r14_24 : runs cal 14 24 [v0, v1, vI u, vI w] [] I = runs cal 14 27 [v0, v1, vI u, vI (iadd w (1))] [] I := runs_to (ins_of mI_14 (by rfl)) rfl rfl
theorem r14_27 : runs cal 14 27 [v0, v1, v2, v3] [] I = runs cal 14 4 [v0, v1, v2, v3] [] I := st_goto (ins_of mI_14 (by rfl)) (by decide)
theorem r14_30 : runs cal 14 30 [v0, v1, vI w, v3] [] I = runs cal 14 31 [v0, v1, vI w, v3] [vI w] I := runs_to (ins_of mI_14 (by rfl)) rfl rfl
theorem r14_31 : runs cal 14 31 [v0, v1, v2, v3] [vI x0] I = some (some (vI x0), I) := st_ret (q := some (vI x0)) (k := 0) (ins_of mI_14 (by rfl)) rfl (by decide) mR_14 rfl trivial
theorem r15_0 : runs cal 15 0 [vR 2, v1] [] I = runs cal 15 1 [vR 2, v1] [vR 2] I := runs_to (ins_of mI_15 (by rfl)) rfl rfl
theorem r15_1 : runs cal 15 1 [v0, vI w] [vR 2] I = runs cal 15 2 [v0, vI w] [vI w, vR 2] I := runs_to (ins_of mI_15 (by rfl)) rfl rfl
theorem r15_2 : runs cal 15 2 [v0, v1] [vI x0, vR 2] I = (cal 14 [vR 2, vI x0] I).bind (fun q => runs cal 15 5 [v0, v1] (pushR q.1 []) q.2) := st_call (st := false) (ins_of mI_15 (by rfl)) mC_15 mr_0_89 (by decide) mS_14 mN_14 rfl (Nat.le_of_ble_eq_true rfl) rfl rfl (Or.inr ⟨_, _, rfl, rcv mC_14 rfl wid_15 (by decide +kernel)⟩) (Or.inl (wid_15.trans wid_14.symm))
theorem r15_5 : runs cal 15 5 [vR 2, v1] [vI x0] I = runs cal 15 6 [vR 2, v1] [vR 2, vI x0] I := runs_to (ins_of mI_15 (by rfl)) rfl rfl
theorem r15_6 : runs cal 15 6 [v0, v1] [vR 2, vI x1] I = runs cal 15 9 [v0, v1] [vI (I 2 2), vI x1] I := st_getI (ins_of mI_15 (by rfl)) mC_15 (by decide) fr_0_40 cT_2 (wdc wid_15 wd_2) (Or.inl rfl)
theorem r15_9 : runs cal 15 9 [v0, v1] [vI x0, vI x1] I = if x1 = x0 then runs cal 15 12 [v0, v1] [] I else runs cal 15 16 [v0, v1] [] I := st_cmp_ne (ins_of mI_15 (by rfl)) (by decide)
theorem r15_12 : runs cal 15 12 [v0, v1] [] I = runs cal 15 13 [v0, v1] [vI (1)] I := runs_to (ins_of mI_15 (by rfl)) rfl rfl
theorem r15_13 : runs cal 15 13 [v0, v1] [vI x0] I = runs cal 15 17 [v0, v1] [vI x0] I := st_goto (ins_of mI_15 (by rfl)) (by decide)
theorem r15_16 : runs cal 15 16 [v0, v1] [] I = runs cal 15 17 [v0, v1] [vI (0)] I := runs_to (ins_of mI_15 (by rfl)) rfl rfl
theorem r15_17 : runs cal 15 17 [v0, v1] [vI x0] I = if x0 = 0 ∨ x0 = 1 then some (some (vI x0), I) else none := st_retZ (ins_of mI_15 (by rfl)) mR_15 (Or.inl rfl)
theorem r16_0 : runs cal 16 0 [v0, v1, v2, v3] [] I = runs cal 16 1 [v0, v1, v2, v3] [vI (0)] I := runs_to (ins_of mI_16 (by rfl)) rfl rfl
theorem r16_1 : runs cal 16 1 [v0, v1, vI u, v3] [vI x0] I = runs cal 16 2 [v0, v1, vI u, vI x0] [] I := runs_to (ins_of mI_16 (by rfl)) rfl rfl
theorem r16_2 : runs cal 16 2 [v0, v1, v2, vI w] [] I = runs cal 16 3 [v0, v1, v2, vI w] [vI w] I := runs_to (ins_of mI_16 (by rfl)) rfl rfl
theorem r16_3 : runs cal 16 3 [vR 2, v1, v2, v3] [vI x0] I = runs cal 16 4 [vR 2, v1, v2, v3] [vR 2, vI x0] I := runs_to (ins_of mI_16 (by rfl)) rfl rfl
theorem r16_4 : runs cal 16 4 [v0, v1, v2, v3] [vR 2, vI x1] I = runs cal 16 7 [v0, v1, v2, v3] [vI (I 2 3), vI x1] I := st_getI (ins_of mI_16 (by rfl)) mC_16 (by decide) fr_0_43 cT_2 (wdc wid_16 wd_2) (Or.inl rfl)
theorem r16_7 : runs cal 16 7 [v0, v1, v2, v3] [vI x0, vI x1] I = if x1 < x0 then runs cal 16 10 [v0, v1, v2, v3] [] I else runs cal 16 31 [v0, v1, v2, v3] [] I := st_cmp_ge (ins_of mI_16 (by rfl)) (by decide)
theorem r16_10 : runs cal 16 10 [vR 2, v1, v2, v3] [] I = runs cal 16 11 [vR 2, v1, v2, v3] [vR 2] I := runs_to (ins_of mI_16 (by rfl)) rfl rfl
theorem r16_11 : runs cal 16 11 [v0, vI w, v2, v3] [vR 2] I = runs cal 16 12 [v0, vI w, v2, v3] [vI w, vR 2] I := runs_to (ins_of mI_16 (by rfl)) rfl rfl
theorem r16_12 : runs cal 16 12 [v0, v1, v2, vI w] [vI x0, vR 2] I = runs cal 16 13 [v0, v1, v2, vI w] [vI w, vI x0, vR 2] I := runs_to (ins_of mI_16 (by rfl)) rfl rfl
theorem r16_13 : runs cal 16 13 [v0, v1, v2, v3] [vI x0, vI x1, vR 2] I = (cal 8 [vR 2, vI x1, vI x0] I).bind (fun q => runs cal 16 16 [v0, v1, v2, v3] (pushR q.1 []) q.2) := st_call (st := false) (ins_of mI_16 (by rfl)) mC_16 mr_0_76 (by decide) mS_8 mN_8 rfl (Nat.le_of_ble_eq_true rfl) rfl rfl (Or.inr ⟨_, _, rfl, rcv mC_8 rfl wid_16 (by decide +kernel)⟩) (Or.inl (wid_16.trans wid_8.symm))
theorem r16_16 : runs cal 16 16 [v0, v1, v2, v3] [vI x0] I = runs cal 16 18 [v0, v1, v2, v3] [vI (8), vI x0] I := runs_to (ins_of mI_16 (by rfl)) rfl rfl
theorem r16_18 : runs cal 16 18 [v0, v1, vI w, v3] [vI x0, vI x1] I = runs cal 16 19 [v0, v1, vI w, v3] [vI w, vI x0, vI x1] I := runs_to (ins_of mI_16 (by rfl)) rfl rfl
theorem r16_19 : runs cal 16 19 [v0, v1, v2, v3] [vI x0, vI x1, vI x2] I = runs cal 16 20 [v0, v1, v2, v3] [vI (iadd x1 x0), vI x2] I := runs_to (ins_of mI_16 (by rfl)) rfl rfl
theorem r16_20 : runs cal 16 20 [v0, v1, v2, v3] [vI x0, vI x1] I = if x1 = x0 then runs cal 16 23 [v0, v1, v2, v3] [] I else runs cal 16 25 [v0, v1, v2, v3] [] I := st_cmp_ne (ins_of mI_16 (by rfl)) (by decide)
theorem r16_23 : runs cal 16 23 [v0, v1, v2, vI w] [] I = runs cal 16 24 [v0, v1, v2, vI w] [vI w] I := runs_to (ins_of mI_16 (by rfl)) rfl rfl
theorem r16_24 : runs cal 16 24 [v0, v1, v2, v3] [vI x0] I = some (some (vI x0), I) := st_ret (q := some (vI x0)) (k := 0) (ins_of mI_16 (by rfl)) rfl (by decide) mR_16 rfl trivial
theorem r16_25 : runs cal 16 25 [v0, v1, vI u, vI w] [] I = runs cal 16 28 [v0, v1, vI u, vI (iadd w (1))] [] I := runs_to (ins_of mI_16 (by rfl)) rfl rfl
theorem r16_28 : runs cal 16 28 [v0, v1, v2, v3] [] I = runs cal 16 2 [v0, v1, v2, v3] [] I := st_goto (ins_of mI_16 (by rfl)) (by decide)
theorem r16_31 : runs cal 16 31 [v0, v1, v2, v3] [] I = runs cal 16 32 [v0, v1, v2, v3] [vI (-1)] I := runs_to (ins_of mI_16 (by rfl)) rfl rfl
theorem r16_32 : runs cal 16 32 [v0, v1, v2, v3] [vI x0] I = some (some (vI x0), I) := st_ret (q := some (vI x0)) (k := 0) (ins_of mI_16 (by rfl)) rfl (by decide) mR_16 rfl trivial
theorem r17_0 : runs cal 17 0 [v0, v1, v2, v3, v4] [] I = runs cal 17 1 [v0, v1, v2, v3, v4] [vI (0)] I := runs_to (ins_of mI_17 (by rfl)) rfl rfl
theorem r17_1 : runs cal 17 1 [v0, vI u, v2, v3, v4] [vI x0] I = runs cal 17 2 [v0, vI u, vI x0, v3, v4] [] I := runs_to (ins_of mI_17 (by rfl)) rfl rfl
theorem r17_2 : runs cal 17 2 [v0, v1, v2, v3, v4] [] I = runs cal 17 3 [v0, v1, v2, v3, v4] [vI (0)] I := runs_to (ins_of mI_17 (by rfl)) rfl rfl
theorem r17_3 : runs cal 17 3 [v0, v1, vI u, v3, v4] [vI x0] I = runs cal 17 4 [v0, v1, vI u, vI x0, v4] [] I := runs_to (ins_of mI_17 (by rfl)) rfl rfl
theorem r17_4 : runs cal 17 4 [v0, v1, v2, vI w, v4] [] I = runs cal 17 5 [v0, v1, v2, vI w, v4] [vI w] I := runs_to (ins_of mI_17 (by rfl)) rfl rfl
theorem r17_5 : runs cal 17 5 [vR 2, v1, v2, v3, v4] [vI x0] I = runs cal 17 6 [vR 2, v1, v2, v3, v4] [vR 2, vI x0] I := runs_to (ins_of mI_17 (by rfl)) rfl rfl
theorem r17_6 : runs cal 17 6 [v0, v1, v2, v3, v4] [vR 2, vI x1] I = runs cal 17 9 [v0, v1, v2, v3, v4] [vI (I 2 3), vI x1] I := st_getI (ins_of mI_17 (by rfl)) mC_17 (by decide) fr_0_43 cT_2 (wdc wid_17 wd_2) (Or.inl rfl)
theorem r17_9 : runs cal 17 9 [v0, v1, v2, v3, v4] [vI x0, vI x1] I = if x1 < x0 then runs cal 17 12 [v0, v1, v2, v3, v4] [] I else runs cal 17 50 [v0, v1, v2, v3, v4] [] I := st_cmp_ge (ins_of mI_17 (by rfl)) (by decide)
theorem r17_12 : runs cal 17 12 [vR 2, v1, v2, v3, v4] [] I = runs cal 17 13 [vR 2, v1, v2, v3, v4] [vR 2] I := runs_to (ins_of mI_17 (by rfl)) rfl rfl
theorem r17_13 : runs cal 17 13 [v0, vI w, v2, v3, v4] [vR 2] I = runs cal 17 14 [v0, vI w, v2, v3, v4] [vI w, vR 2] I := runs_to (ins_of mI_17 (by rfl)) rfl rfl
theorem r17_14 : runs cal 17 14 [v0, v1, v2, vI w, v4] [vI x0, vR 2] I = runs cal 17 15 [v0, v1, v2, vI w, v4] [vI w, vI x0, vR 2] I := runs_to (ins_of mI_17 (by rfl)) rfl rfl
theorem r17_15 : runs cal 17 15 [v0, v1, v2, v3, v4] [vI x0, vI x1, vR 2] I = (cal 8 [vR 2, vI x1, vI x0] I).bind (fun q => runs cal 17 18 [v0, v1, v2, v3, v4] (pushR q.1 []) q.2) := st_call (st := false) (ins_of mI_17 (by rfl)) mC_17 mr_0_76 (by decide) mS_8 mN_8 rfl (Nat.le_of_ble_eq_true rfl) rfl rfl (Or.inr ⟨_, _, rfl, rcv mC_8 rfl wid_17 (by decide +kernel)⟩) (Or.inl (wid_17.trans wid_8.symm))
theorem r17_18 : runs cal 17 18 [v0, v1, v2, vI u, v4] [vI x0] I = runs cal 17 20 [v0, v1, v2, vI u, vI x0] [] I := runs_to (ins_of mI_17 (by rfl)) rfl rfl
theorem r17_20 : runs cal 17 20 [v0, v1, v2, v3, vI w] [] I = runs cal 17 22 [v0, v1, v2, v3, vI w] [vI w] I := runs_to (ins_of mI_17 (by rfl)) rfl rfl
theorem r17_22 : runs cal 17 22 [v0, v1, v2, v3, v4] [vI x0] I = runs cal 17 24 [v0, v1, v2, v3, v4] [vI (8), vI x0] I := runs_to (ins_of mI_17 (by rfl)) rfl rfl
theorem r17_24 : runs cal 17 24 [v0, v1, v2, v3, v4] [vI x0, vI x1] I = if x1 < x0 then runs cal 17 44 [v0, v1, v2, v3, v4] [] I else runs cal 17 27 [v0, v1, v2, v3, v4] [] I := st_cmp_lt (ins_of mI_17 (by rfl)) (by decide)
theorem r17_27 : runs cal 17 27 [v0, v1, v2, v3, vI w] [] I = runs cal 17 29 [v0, v1, v2, v3, vI w] [vI w] I := runs_to (ins_of mI_17 (by rfl)) rfl rfl
theorem r17_29 : runs cal 17 29 [v0, v1, v2, v3, v4] [vI x0] I = runs cal 17 31 [v0, v1, v2, v3, v4] [vI (15), vI x0] I := runs_to (ins_of mI_17 (by rfl)) rfl rfl
theorem r17_31 : runs cal 17 31 [v0, v1, v2, v3, v4] [vI x0, vI x1] I = if x1 = x0 then runs cal 17 44 [v0, v1, v2, v3, v4] [] I else runs cal 17 34 [v0, v1, v2, v3, v4] [] I := st_cmp_eq (ins_of mI_17 (by rfl)) (by decide)
theorem r17_34 : runs cal 17 34 [v0, v1, vI w, v3, v4] [] I = runs cal 17 35 [v0, v1, vI w, v3, v4] [vI w] I := runs_to (ins_of mI_17 (by rfl)) rfl rfl
theorem r17_35 : runs cal 17 35 [v0, v1, v2, v3, v4] [vI x0] I = runs cal 17 36 [v0, v1, v2, v3, v4] [vI (1), vI x0] I := runs_to (ins_of mI_17 (by rfl)) rfl rfl
theorem r17_36 : runs cal 17 36 [v0, v1, v2, v3, vI w] [vI x0, vI x1] I = runs cal 17 38 [v0, v1, v2, v3, vI w] [vI w, vI x0, vI x1] I := runs_to (ins_of mI_17 (by rfl)) rfl rfl
theorem r17_38 : runs cal 17 38 [v0, v1, v2, v3, v4] [vI x0, vI x1, vI x2] I = runs cal 17 40 [v0, v1, v2, v3, v4] [vI (8), vI x0, vI x1, vI x2] I := runs_to (ins_of mI_17 (by rfl)) rfl rfl
theorem r17_40 : runs cal 17 40 [v0, v1, v2, v3, v4] [vI x0, vI x1, vI x2, vI x3] I = runs cal 17 41 [v0, v1, v2, v3, v4] [vI (isub x1 x0), vI x2, vI x3] I := runs_to (ins_of mI_17 (by rfl)) rfl rfl
theorem r17_41 : runs cal 17 41 [v0, v1, v2, v3, v4] [vI x0, vI x1, vI x2] I = runs cal 17 42 [v0, v1, v2, v3, v4] [vI (ishl x1 x0), vI x2] I := runs_to (ins_of mI_17 (by rfl)) rfl rfl
theorem r17_42 : runs cal 17 42 [v0, v1, v2, v3, v4] [vI x0, vI x1] I = runs cal 17 43 [v0, v1, v2, v3, v4] [vI (ior x1 x0)] I := runs_to (ins_of mI_17 (by rfl)) rfl rfl
theorem r17_43 : runs cal 17 43 [v0, vI u, v2, v3, v4] [vI x0] I = runs cal 17 44 [v0, vI u, vI x0, v3, v4] [] I := runs_to (ins_of mI_17 (by rfl)) rfl rfl
theorem r17_44 : runs cal 17 44 [v0, v1, vI u, vI w, v4] [] I = runs cal 17 47 [v0, v1, vI u, vI (iadd w (1)), v4] [] I := runs_to (ins_of mI_17 (by rfl)) rfl rfl
theorem r17_47 : runs cal 17 47 [v0, v1, v2, v3, v4] [] I = runs cal 17 4 [v0, v1, v2, v3, v4] [] I := st_goto (ins_of mI_17 (by rfl)) (by decide)
theorem r17_50 : runs cal 17 50 [v0, v1, vI w, v3, v4] [] I = runs cal 17 51 [v0, v1, vI w, v3, v4] [vI w] I := runs_to (ins_of mI_17 (by rfl)) rfl rfl
theorem r17_51 : runs cal 17 51 [v0, v1, v2, v3, v4] [vI x0] I = some (some (vI x0), I) := st_ret (q := some (vI x0)) (k := 0) (ins_of mI_17 (by rfl)) rfl (by decide) mR_17 rfl trivial
theorem r17_5a : runs cal 17 5 [vR 10, v1, v2, v3, v4] [vI x0] I = runs cal 17 6 [vR 10, v1, v2, v3, v4] [vR 10, vI x0] I := runs_to (ins_of mI_17 (by rfl)) rfl rfl
theorem r17_6a : runs cal 17 6 [v0, v1, v2, v3, v4] [vR 10, vI x1] I = runs cal 17 9 [v0, v1, v2, v3, v4] [vI (I 10 3), vI x1] I := st_getI (ins_of mI_17 (by rfl)) mC_17 (by decide) fr_0_43 cT_10 (wdc wid_17 wd_10) (Or.inl rfl)
theorem r17_12a : runs cal 17 12 [vR 10, v1, v2, v3, v4] [] I = runs cal 17 13 [vR 10, v1, v2, v3, v4] [vR 10] I := runs_to (ins_of mI_17 (by rfl)) rfl rfl
theorem r17_13a : runs cal 17 13 [v0, vI w, v2, v3, v4] [vR 10] I = runs cal 17 14 [v0, vI w, v2, v3, v4] [vI w, vR 10] I := runs_to (ins_of mI_17 (by rfl)) rfl rfl
theorem r17_14a : runs cal 17 14 [v0, v1, v2, vI w, v4] [vI x0, vR 10] I = runs cal 17 15 [v0, v1, v2, vI w, v4] [vI w, vI x0, vR 10] I := runs_to (ins_of mI_17 (by rfl)) rfl rfl
theorem r17_15a : runs cal 17 15 [v0, v1, v2, v3, v4] [vI x0, vI x1, vR 10] I = (cal 8 [vR 10, vI x1, vI x0] I).bind (fun q => runs cal 17 18 [v0, v1, v2, v3, v4] (pushR q.1 []) q.2) := st_call (st := false) (ins_of mI_17 (by rfl)) mC_17 mr_0_76 (by decide) mS_8 mN_8 rfl (Nat.le_of_ble_eq_true rfl) rfl rfl (Or.inr ⟨_, _, rfl, rcv mC_8 rfl wid_17 (by decide +kernel)⟩) (Or.inl (wid_17.trans wid_8.symm))
theorem r18_0 : runs cal 18 0 [vR 2, v1, v2] [] I = runs cal 18 1 [vR 2, v1, v2] [vR 2] I := runs_to (ins_of mI_18 (by rfl)) rfl rfl
theorem r18_1 : runs cal 18 1 [v0, v1, v2] [vR 2] I = runs cal 18 4 [v0, v1, v2] [vR 3] I := st_getR (ins_of mI_18 (by rfl)) mC_18 (by decide) fr_0_15 cT_2 (wdc wid_18 wd_2) rfl rfl
theorem r18_4 : runs cal 18 4 [v0, vI w, v2] [vR 3] I = runs cal 18 5 [v0, vI w, v2] [vI w, vR 3] I := runs_to (ins_of mI_18 (by rfl)) rfl rfl
theorem r18_5 : runs cal 18 5 [v0, v1, v2] [vI x0, vR 3] I = if 0 ≤ x0 ∧ x0 < 3 then runs cal 18 6 [v0, v1, v2] [vI (I 3 x0)] I else none := st_iald (ins_of mI_18 (by rfl)) cT_3 (wdc wid_18 wd_3)
theorem r18_6 : runs cal 18 6 [v0, v1, vI w] [vI x0] I = runs cal 18 7 [v0, v1, vI w] [vI w, vI x0] I := runs_to (ins_of mI_18 (by rfl)) rfl rfl
theorem r18_7 : runs cal 18 7 [v0, vI w, v2] [vI x0, vI x1] I = runs cal 18 8 [v0, vI w, v2] [vI w, vI x0, vI x1] I := runs_to (ins_of mI_18 (by rfl)) rfl rfl
theorem r18_8 : runs cal 18 8 [v0, v1, v2] [vI x0, vI x1, vI x2] I = runs cal 18 9 [v0, v1, v2] [vI (ishr x1 x0), vI x2] I := runs_to (ins_of mI_18 (by rfl)) rfl rfl
theorem r18_9 : runs cal 18 9 [v0, v1, v2] [vI x0, vI x1] I = runs cal 18 10 [v0, v1, v2] [vI (1), vI x0, vI x1] I := runs_to (ins_of mI_18 (by rfl)) rfl rfl
theorem r18_10 : runs cal 18 10 [v0, v1, v2] [vI x0, vI x1, vI x2] I = runs cal 18 11 [v0, v1, v2] [vI (iand x1 x0), vI x2] I := runs_to (ins_of mI_18 (by rfl)) rfl rfl
theorem r18_11 : runs cal 18 11 [v0, v1, v2] [vI x0, vI x1] I = runs cal 18 12 [v0, v1, v2] [vI (1), vI x0, vI x1] I := runs_to (ins_of mI_18 (by rfl)) rfl rfl
theorem r18_12 : runs cal 18 12 [v0, v1, v2] [vI x0, vI x1, vI x2] I = if x1 = x0 then runs cal 18 15 [v0, v1, v2] [vI x2] I else runs cal 18 19 [v0, v1, v2] [vI x2] I := st_cmp_ne (ins_of mI_18 (by rfl)) (by decide)
theorem r18_15 : runs cal 18 15 [v0, v1, v2] [vI x0] I = runs cal 18 16 [v0, v1, v2] [vI (2), vI x0] I := runs_to (ins_of mI_18 (by rfl)) rfl rfl
theorem r18_16 : runs cal 18 16 [v0, v1, v2] [vI x0, vI x1] I = runs cal 18 20 [v0, v1, v2] [vI x0, vI x1] I := st_goto (ins_of mI_18 (by rfl)) (by decide)
theorem r18_19 : runs cal 18 19 [v0, v1, v2] [vI x0] I = runs cal 18 20 [v0, v1, v2] [vI (0), vI x0] I := runs_to (ins_of mI_18 (by rfl)) rfl rfl
theorem r18_20 : runs cal 18 20 [v0, v1, v2] [vI x0, vI x1] I = runs cal 18 21 [v0, v1, v2] [vI (iadd x1 x0)] I := runs_to (ins_of mI_18 (by rfl)) rfl rfl
theorem r18_21 : runs cal 18 21 [v0, v1, v2] [vI x0] I = some (some (vI x0), I) := st_ret (q := some (vI x0)) (k := 0) (ins_of mI_18 (by rfl)) rfl (by decide) mR_18 rfl trivial
theorem r18_0a : runs cal 18 0 [vR 10, v1, v2] [] I = runs cal 18 1 [vR 10, v1, v2] [vR 10] I := runs_to (ins_of mI_18 (by rfl)) rfl rfl
theorem r18_1a : runs cal 18 1 [v0, v1, v2] [vR 10] I = runs cal 18 4 [v0, v1, v2] [vR 11] I := st_getR (ins_of mI_18 (by rfl)) mC_18 (by decide) fr_0_15 cT_10 (wdc wid_18 wd_10) rfl rfl
theorem r18_4a : runs cal 18 4 [v0, vI w, v2] [vR 11] I = runs cal 18 5 [v0, vI w, v2] [vI w, vR 11] I := runs_to (ins_of mI_18 (by rfl)) rfl rfl
theorem r18_5a : runs cal 18 5 [v0, v1, v2] [vI x0, vR 11] I = if 0 ≤ x0 ∧ x0 < 3 then runs cal 18 6 [v0, v1, v2] [vI (I 11 x0)] I else none := st_iald (ins_of mI_18 (by rfl)) cT_11 (wdc wid_18 wd_11)
theorem r19_0 : runs cal 19 0 [v0, v1, v2] [] I = runs cal 19 1 [v0, v1, v2] [vI (1)] I := runs_to (ins_of mI_19 (by rfl)) rfl rfl
theorem r19_1 : runs cal 19 1 [v0, vI w, v2] [vI x0] I = runs cal 19 2 [v0, vI w, v2] [vI w, vI x0] I := runs_to (ins_of mI_19 (by rfl)) rfl rfl
theorem r19_2 : runs cal 19 2 [v0, v1, v2] [vI x0, vI x1] I = runs cal 19 3 [v0, v1, v2] [vI (ishl x1 x0)] I := runs_to (ins_of mI_19 (by rfl)) rfl rfl
theorem r19_3 : runs cal 19 3 [v0, v1, v2] [vI x0] I = runs cal 19 4 [v0, v1, v2] [vI (1), vI x0] I := runs_to (ins_of mI_19 (by rfl)) rfl rfl
theorem r19_4 : runs cal 19 4 [v0, v1, v2] [vI x0, vI x1] I = runs cal 19 5 [v0, v1, v2] [vI (isub x1 x0)] I := runs_to (ins_of mI_19 (by rfl)) rfl rfl
theorem r19_5 : runs cal 19 5 [v0, v1, vI w] [vI x0] I = runs cal 19 6 [v0, v1, vI w] [vI w, vI x0] I := runs_to (ins_of mI_19 (by rfl)) rfl rfl
theorem r19_6 : runs cal 19 6 [v0, v1, v2] [vI x0, vI x1] I = runs cal 19 7 [v0, v1, v2] [vI (ishl x1 x0)] I := runs_to (ins_of mI_19 (by rfl)) rfl rfl
theorem r19_7 : runs cal 19 7 [v0, v1, v2] [vI x0] I = some (some (vI x0), I) := st_ret (q := some (vI x0)) (k := 0) (ins_of mI_19 (by rfl)) rfl (by decide) mR_19 rfl trivial
theorem r20_0 : runs cal 20 0 [vR 2, v1, v2, v3] [] I = runs cal 20 1 [vR 2, v1, v2, v3] [vR 2] I := runs_to (ins_of mI_20 (by rfl)) rfl rfl
theorem r20_1 : runs cal 20 1 [v0, vI w, v2, v3] [vR 2] I = runs cal 20 2 [v0, vI w, v2, v3] [vI w, vR 2] I := runs_to (ins_of mI_20 (by rfl)) rfl rfl
theorem r20_2 : runs cal 20 2 [v0, v1, vI w, v3] [vI x0, vR 2] I = runs cal 20 3 [v0, v1, vI w, v3] [vI w, vI x0, vR 2] I := runs_to (ins_of mI_20 (by rfl)) rfl rfl
theorem r20_3 : runs cal 20 3 [v0, v1, v2, v3] [vI x0, vI x1, vR 2] I = (cal 8 [vR 2, vI x1, vI x0] I).bind (fun q => runs cal 20 6 [v0, v1, v2, v3] (pushR q.1 []) q.2) := st_call (st := false) (ins_of mI_20 (by rfl)) mC_20 mr_0_76 (by decide) mS_8 mN_8 rfl (Nat.le_of_ble_eq_true rfl) rfl rfl (Or.inr ⟨_, _, rfl, rcv mC_8 rfl wid_20 (by decide +kernel)⟩) (Or.inl (wid_20.trans wid_8.symm))
theorem r20_6 : runs cal 20 6 [v0, v1, vI u, v3] [vI x0] I = runs cal 20 7 [v0, v1, vI u, vI x0] [] I := runs_to (ins_of mI_20 (by rfl)) rfl rfl
theorem r20_7 : runs cal 20 7 [v0, v1, v2, vI w] [] I = runs cal 20 8 [v0, v1, v2, vI w] [vI w] I := runs_to (ins_of mI_20 (by rfl)) rfl rfl
theorem r20_8 : runs cal 20 8 [v0, v1, v2, v3] [vI x0] I = runs cal 20 10 [v0, v1, v2, v3] [vI (8), vI x0] I := runs_to (ins_of mI_20 (by rfl)) rfl rfl
theorem r20_10 : runs cal 20 10 [v0, v1, v2, v3] [vI x0, vI x1] I = if x1 < x0 then runs cal 20 13 [v0, v1, v2, v3] [] I else runs cal 20 27 [v0, v1, v2, v3] [] I := st_cmp_ge (ins_of mI_20 (by rfl)) (by decide)
theorem r20_13 : runs cal 20 13 [vR 2, v1, v2, v3] [] I = runs cal 20 14 [vR 2, v1, v2, v3] [vR 2] I := runs_to (ins_of mI_20 (by rfl)) rfl rfl
theorem r20_14 : runs cal 20 14 [vR 2, v1, v2, v3] [vR 2] I = runs cal 20 15 [vR 2, v1, v2, v3] [vR 2, vR 2] I := runs_to (ins_of mI_20 (by rfl)) rfl rfl
theorem r20_15 : runs cal 20 15 [v0, v1, v2, v3] [vR 2, vR 2] I = runs cal 20 18 [v0, v1, v2, v3] [vR 8, vR 2] I := st_getR (ins_of mI_20 (by rfl)) mC_20 (by decide) fr_0_31 cT_2 (wdc wid_20 wd_2) rfl rfl
theorem r20_18 : runs cal 20 18 [v0, v1, vI w, v3] [vR 8, vR 2] I = runs cal 20 19 [v0, v1, vI w, v3] [vI w, vR 8, vR 2] I := runs_to (ins_of mI_20 (by rfl)) rfl rfl
theorem r20_19 : runs cal 20 19 [v0, v1, v2, v3] [vI x0, vR 8, vR 2] I = if 0 ≤ x0 ∧ x0 < 2 then runs cal 20 20 [v0, v1, v2, v3] [vI (I 8 x0), vR 2] I else none := st_iald (ins_of mI_20 (by rfl)) cT_8 (wdc wid_20 wd_8)
theorem r20_20 : runs cal 20 20 [v0, v1, v2, vI w] [vI x0, vR 2] I = runs cal 20 21 [v0, v1, v2, vI w] [vI w, vI x0, vR 2] I := runs_to (ins_of mI_20 (by rfl)) rfl rfl
theorem r20_21 : runs cal 20 21 [v0, v1, v2, v3] [vI x0, vI x1, vR 2] I = (cal 19 [vR 2, vI x1, vI x0] I).bind (fun q => runs cal 20 24 [v0, v1, v2, v3] (pushR q.1 []) q.2) := st_call (st := false) (ins_of mI_20 (by rfl)) mC_20 mr_0_62 (by decide) mS_19 mN_19 rfl (Nat.le_of_ble_eq_true rfl) rfl rfl (Or.inr ⟨_, _, rfl, rcv mC_19 rfl wid_20 (by decide +kernel)⟩) (Or.inl (wid_20.trans wid_19.symm))
theorem r20_24 : runs cal 20 24 [v0, v1, v2, v3] [vI x0] I = runs cal 20 28 [v0, v1, v2, v3] [vI x0] I := st_goto (ins_of mI_20 (by rfl)) (by decide)
theorem r20_27 : runs cal 20 27 [v0, v1, v2, v3] [] I = runs cal 20 28 [v0, v1, v2, v3] [vI (0)] I := runs_to (ins_of mI_20 (by rfl)) rfl rfl
theorem r20_28 : runs cal 20 28 [v0, v1, v2, v3] [vI x0] I = some (some (vI x0), I) := st_ret (q := some (vI x0)) (k := 0) (ins_of mI_20 (by rfl)) rfl (by decide) mR_20 rfl trivial
theorem r20_0a : runs cal 20 0 [vR 10, v1, v2, v3] [] I = runs cal 20 1 [vR 10, v1, v2, v3] [vR 10] I := runs_to (ins_of mI_20 (by rfl)) rfl rfl
theorem r20_1a : runs cal 20 1 [v0, vI w, v2, v3] [vR 10] I = runs cal 20 2 [v0, vI w, v2, v3] [vI w, vR 10] I := runs_to (ins_of mI_20 (by rfl)) rfl rfl
theorem r20_2a : runs cal 20 2 [v0, v1, vI w, v3] [vI x0, vR 10] I = runs cal 20 3 [v0, v1, vI w, v3] [vI w, vI x0, vR 10] I := runs_to (ins_of mI_20 (by rfl)) rfl rfl
theorem r20_3a : runs cal 20 3 [v0, v1, v2, v3] [vI x0, vI x1, vR 10] I = (cal 8 [vR 10, vI x1, vI x0] I).bind (fun q => runs cal 20 6 [v0, v1, v2, v3] (pushR q.1 []) q.2) := st_call (st := false) (ins_of mI_20 (by rfl)) mC_20 mr_0_76 (by decide) mS_8 mN_8 rfl (Nat.le_of_ble_eq_true rfl) rfl rfl (Or.inr ⟨_, _, rfl, rcv mC_8 rfl wid_20 (by decide +kernel)⟩) (Or.inl (wid_20.trans wid_8.symm))
theorem r20_13a : runs cal 20 13 [vR 10, v1, v2, v3] [] I = runs cal 20 14 [vR 10, v1, v2, v3] [vR 10] I := runs_to (ins_of mI_20 (by rfl)) rfl rfl
theorem r20_14a : runs cal 20 14 [vR 10, v1, v2, v3] [vR 10] I = runs cal 20 15 [vR 10, v1, v2, v3] [vR 10, vR 10] I := runs_to (ins_of mI_20 (by rfl)) rfl rfl
theorem r20_15a : runs cal 20 15 [v0, v1, v2, v3] [vR 10, vR 10] I = runs cal 20 18 [v0, v1, v2, v3] [vR 16, vR 10] I := st_getR (ins_of mI_20 (by rfl)) mC_20 (by decide) fr_0_31 cT_10 (wdc wid_20 wd_10) rfl rfl
theorem r20_18a : runs cal 20 18 [v0, v1, vI w, v3] [vR 16, vR 10] I = runs cal 20 19 [v0, v1, vI w, v3] [vI w, vR 16, vR 10] I := runs_to (ins_of mI_20 (by rfl)) rfl rfl
theorem r20_19a : runs cal 20 19 [v0, v1, v2, v3] [vI x0, vR 16, vR 10] I = if 0 ≤ x0 ∧ x0 < 2 then runs cal 20 20 [v0, v1, v2, v3] [vI (I 16 x0), vR 10] I else none := st_iald (ins_of mI_20 (by rfl)) cT_16 (wdc wid_20 wd_16)
theorem r20_20a : runs cal 20 20 [v0, v1, v2, vI w] [vI x0, vR 10] I = runs cal 20 21 [v0, v1, v2, vI w] [vI w, vI x0, vR 10] I := runs_to (ins_of mI_20 (by rfl)) rfl rfl
theorem r20_21a : runs cal 20 21 [v0, v1, v2, v3] [vI x0, vI x1, vR 10] I = (cal 19 [vR 10, vI x1, vI x0] I).bind (fun q => runs cal 20 24 [v0, v1, v2, v3] (pushR q.1 []) q.2) := st_call (st := false) (ins_of mI_20 (by rfl)) mC_20 mr_0_62 (by decide) mS_19 mN_19 rfl (Nat.le_of_ble_eq_true rfl) rfl rfl (Or.inr ⟨_, _, rfl, rcv mC_19 rfl wid_20 (by decide +kernel)⟩) (Or.inl (wid_20.trans wid_19.symm))
theorem r21_0 : runs cal 21 0 [v0, v1, v2, v3] [] I = runs cal 21 1 [v0, v1, v2, v3] [vI (0)] I := runs_to (ins_of mI_21 (by rfl)) rfl rfl
theorem r21_1 : runs cal 21 1 [v0, vI u, v2, v3] [vI x0] I = runs cal 21 2 [v0, vI u, vI x0, v3] [] I := runs_to (ins_of mI_21 (by rfl)) rfl rfl
theorem r21_2 : runs cal 21 2 [v0, v1, v2, v3] [] I = runs cal 21 3 [v0, v1, v2, v3] [vI (0)] I := runs_to (ins_of mI_21 (by rfl)) rfl rfl
theorem r21_3 : runs cal 21 3 [v0, v1, vI u, v3] [vI x0] I = runs cal 21 4 [v0, v1, vI u, vI x0] [] I := runs_to (ins_of mI_21 (by rfl)) rfl rfl
theorem r21_4 : runs cal 21 4 [v0, v1, v2, vI w] [] I = runs cal 21 5 [v0, v1, v2, vI w] [vI w] I := runs_to (ins_of mI_21 (by rfl)) rfl rfl
theorem r21_5 : runs cal 21 5 [vR 2, v1, v2, v3] [vI x0] I = runs cal 21 6 [vR 2, v1, v2, v3] [vR 2, vI x0] I := runs_to (ins_of mI_21 (by rfl)) rfl rfl
theorem r21_6 : runs cal 21 6 [v0, v1, v2, v3] [vR 2, vI x1] I = runs cal 21 9 [v0, v1, v2, v3] [vI (I 2 3), vI x1] I := st_getI (ins_of mI_21 (by rfl)) mC_21 (by decide) fr_0_43 cT_2 (wdc wid_21 wd_2) (Or.inl rfl)
theorem r21_9 : runs cal 21 9 [v0, v1, v2, v3] [vI x0, vI x1] I = if x1 < x0 then runs cal 21 12 [v0, v1, v2, v3] [] I else runs cal 21 27 [v0, v1, v2, v3] [] I := st_cmp_ge (ins_of mI_21 (by rfl)) (by decide)
theorem r21_12 : runs cal 21 12 [v0, v1, vI w, v3] [] I = runs cal 21 13 [v0, v1, vI w, v3] [vI w] I := runs_to (ins_of mI_21 (by rfl)) rfl rfl
theorem r21_13 : runs cal 21 13 [vR 2, v1, v2, v3] [vI x0] I = runs cal 21 14 [vR 2, v1, v2, v3] [vR 2, vI x0] I := runs_to (ins_of mI_21 (by rfl)) rfl rfl
theorem r21_14 : runs cal 21 14 [v0, vI w, v2, v3] [vR 2, vI x1] I = runs cal 21 15 [v0, vI w, v2, v3] [vI w, vR 2, vI x1] I := runs_to (ins_of mI_21 (by rfl)) rfl rfl
theorem r21_15 : runs cal 21 15 [v0, v1, v2, vI w] [vI x0, vR 2, vI x2] I = runs cal 21 16 [v0, v1, v2, vI w] [vI w, vI x0, vR 2, vI x2] I := runs_to (ins_of mI_21 (by rfl)) rfl rfl
theorem r21_16 : runs cal 21 16 [v0, v1, v2, v3] [vI x0, vI x1, vR 2, vI x3] I = (cal 20 [vR 2, vI x1, vI x0] I).bind (fun q => runs cal 21 19 [v0, v1, v2, v3] (pushR q.1 [vI x3]) q.2) := st_call (st := false) (ins_of mI_21 (by rfl)) mC_21 mr_0_92 (by decide) mS_20 mN_20 rfl (Nat.le_of_ble_eq_true rfl) rfl rfl (Or.inr ⟨_, _, rfl, rcv mC_20 rfl wid_21 (by decide +kernel)⟩) (Or.inl (wid_21.trans wid_20.symm))
theorem r21_19 : runs cal 21 19 [v0, v1, v2, v3] [vI x0, vI x1] I = runs cal 21 20 [v0, v1, v2, v3] [vI (ior x1 x0)] I := runs_to (ins_of mI_21 (by rfl)) rfl rfl
theorem r21_20 : runs cal 21 20 [v0, vI u, v2, v3] [vI x0] I = runs cal 21 21 [v0, vI u, vI x0, v3] [] I := runs_to (ins_of mI_21 (by rfl)) rfl rfl
theorem r21_21 : runs cal 21 21 [v0, v1, vI u, vI w] [] I = runs cal 21 24 [v0, v1, vI u, vI (iadd w (1))] [] I := runs_to (ins_of mI_21 (by rfl)) rfl rfl
theorem r21_24 : runs cal 21 24 [v0, v1, v2, v3] [] I = runs cal 21 4 [v0, v1, v2, v3] [] I := st_goto (ins_of mI_21 (by rfl)) (by decide)
theorem r21_27 : runs cal 21 27 [v0, v1, vI w, v3] [] I = runs cal 21 28 [v0, v1, vI w, v3] [vI w] I := runs_to (ins_of mI_21 (by rfl)) rfl rfl
theorem r21_28 : runs cal 21 28 [v0, v1, v2, v3] [vI x0] I = some (some (vI x0), I) := st_ret (q := some (vI x0)) (k := 0) (ins_of mI_21 (by rfl)) rfl (by decide) mR_21 rfl trivial
theorem r21_5a : runs cal 21 5 [vR 10, v1, v2, v3] [vI x0] I = runs cal 21 6 [vR 10, v1, v2, v3] [vR 10, vI x0] I := runs_to (ins_of mI_21 (by rfl)) rfl rfl
theorem r21_6a : runs cal 21 6 [v0, v1, v2, v3] [vR 10, vI x1] I = runs cal 21 9 [v0, v1, v2, v3] [vI (I 10 3), vI x1] I := st_getI (ins_of mI_21 (by rfl)) mC_21 (by decide) fr_0_43 cT_10 (wdc wid_21 wd_10) (Or.inl rfl)
theorem r21_13a : runs cal 21 13 [vR 10, v1, v2, v3] [vI x0] I = runs cal 21 14 [vR 10, v1, v2, v3] [vR 10, vI x0] I := runs_to (ins_of mI_21 (by rfl)) rfl rfl
theorem r21_14a : runs cal 21 14 [v0, vI w, v2, v3] [vR 10, vI x1] I = runs cal 21 15 [v0, vI w, v2, v3] [vI w, vR 10, vI x1] I := runs_to (ins_of mI_21 (by rfl)) rfl rfl
theorem r21_15a : runs cal 21 15 [v0, v1, v2, vI w] [vI x0, vR 10, vI x2] I = runs cal 21 16 [v0, v1, v2, vI w] [vI w, vI x0, vR 10, vI x2] I := runs_to (ins_of mI_21 (by rfl)) rfl rfl
theorem r21_16a : runs cal 21 16 [v0, v1, v2, v3] [vI x0, vI x1, vR 10, vI x3] I = (cal 20 [vR 10, vI x1, vI x0] I).bind (fun q => runs cal 21 19 [v0, v1, v2, v3] (pushR q.1 [vI x3]) q.2) := st_call (st := false) (ins_of mI_21 (by rfl)) mC_21 mr_0_92 (by decide) mS_20 mN_20 rfl (Nat.le_of_ble_eq_true rfl) rfl rfl (Or.inr ⟨_, _, rfl, rcv mC_20 rfl wid_21 (by decide +kernel)⟩) (Or.inl (wid_21.trans wid_20.symm))
theorem r22_0 : runs cal 22 0 [vR 2, v1, v2] [] I = runs cal 22 1 [vR 2, v1, v2] [vR 2] I := runs_to (ins_of mI_22 (by rfl)) rfl rfl
theorem r22_1 : runs cal 22 1 [v0, v1, vI w] [vR 2] I = runs cal 22 2 [v0, v1, vI w] [vI w, vR 2] I := runs_to (ins_of mI_22 (by rfl)) rfl rfl
theorem r22_2 : runs cal 22 2 [v0, v1, v2] [vI x0, vR 2] I = (cal 4 [vR 2, vI x0] I).bind (fun q => runs cal 22 5 [v0, v1, v2] (pushR q.1 []) q.2) := st_call (st := false) (ins_of mI_22 (by rfl)) mC_22 mr_0_95 (by decide) mS_4 mN_4 rfl (Nat.le_of_ble_eq_true rfl) rfl rfl (Or.inr ⟨_, _, rfl, rcv mC_4 rfl wid_22 (by decide +kernel)⟩) (Or.inl (wid_22.trans wid_4.symm))
theorem r22_5 : runs cal 22 5 [v0, v1, v2] [vI x0] I = if x0 = 0 then runs cal 22 21 [v0, v1, v2] [] I else runs cal 22 8 [v0, v1, v2] [] I := st_if_eq (ins_of mI_22 (by rfl)) (by decide)
theorem r22_8 : runs cal 22 8 [v0, vI w, v2] [] I = runs cal 22 9 [v0, vI w, v2] [vI w] I := runs_to (ins_of mI_22 (by rfl)) rfl rfl
theorem r22_9 : runs cal 22 9 [v0, v1, vI w] [vI x0] I = runs cal 22 10 [v0, v1, vI w] [vI w, vI x0] I := runs_to (ins_of mI_22 (by rfl)) rfl rfl
theorem r22_10 : runs cal 22 10 [v0, v1, v2] [vI x0, vI x1] I = runs cal 22 11 [v0, v1, v2] [vI (ishr x1 x0)] I := runs_to (ins_of mI_22 (by rfl)) rfl rfl
theorem r22_11 : runs cal 22 11 [v0, v1, v2] [vI x0] I = runs cal 22 12 [v0, v1, v2] [vI (1), vI x0] I := runs_to (ins_of mI_22 (by rfl)) rfl rfl
theorem r22_12 : runs cal 22 12 [v0, v1, v2] [vI x0, vI x1] I = runs cal 22 13 [v0, v1, v2] [vI (iand x1 x0)] I := runs_to (ins_of mI_22 (by rfl)) rfl rfl
theorem r22_13 : runs cal 22 13 [v0, v1, v2] [vI x0] I = runs cal 22 14 [v0, v1, v2] [vI (1), vI x0] I := runs_to (ins_of mI_22 (by rfl)) rfl rfl
theorem r22_14 : runs cal 22 14 [v0, v1, v2] [vI x0, vI x1] I = if x1 = x0 then runs cal 22 17 [v0, v1, v2] [] I else runs cal 22 21 [v0, v1, v2] [] I := st_cmp_ne (ins_of mI_22 (by rfl)) (by decide)
theorem r22_17 : runs cal 22 17 [v0, v1, v2] [] I = runs cal 22 18 [v0, v1, v2] [vI (1)] I := runs_to (ins_of mI_22 (by rfl)) rfl rfl
theorem r22_18 : runs cal 22 18 [v0, v1, v2] [vI x0] I = runs cal 22 22 [v0, v1, v2] [vI x0] I := st_goto (ins_of mI_22 (by rfl)) (by decide)
theorem r22_21 : runs cal 22 21 [v0, v1, v2] [] I = runs cal 22 22 [v0, v1, v2] [vI (0)] I := runs_to (ins_of mI_22 (by rfl)) rfl rfl
theorem r22_22 : runs cal 22 22 [v0, v1, v2] [vI x0] I = if x0 = 0 ∨ x0 = 1 then some (some (vI x0), I) else none := st_retZ (ins_of mI_22 (by rfl)) mR_22 (Or.inl rfl)
theorem r23_0 : runs cal 23 0 [v0] [] I = runs cal 23 1 [v0] [vI (1)] I := runs_to (ins_of mI_23 (by rfl)) rfl rfl
theorem r23_1 : runs cal 23 1 [v0] [vI x0] I = runs cal 23 2 [v0] [vI (1), vI x0] I := runs_to (ins_of mI_23 (by rfl)) rfl rfl
theorem r23_2 : runs cal 23 2 [vR 2] [vI x0, vI x1] I = runs cal 23 3 [vR 2] [vR 2, vI x0, vI x1] I := runs_to (ins_of mI_23 (by rfl)) rfl rfl
theorem r23_3 : runs cal 23 3 [v0] [vR 2, vI x1, vI x2] I = runs cal 23 6 [v0] [vI (I 2 0), vI x1, vI x2] I := st_getI (ins_of mI_23 (by rfl)) mC_23 (by decide) fr_0_11 cT_2 (wdc wid_23 wd_2) (Or.inl rfl)
theorem r23_6 : runs cal 23 6 [v0] [vI x0, vI x1, vI x2] I = runs cal 23 7 [v0] [vI (ishl x1 x0), vI x2] I := runs_to (ins_of mI_23 (by rfl)) rfl rfl
theorem r23_7 : runs cal 23 7 [v0] [vI x0, vI x1] I = runs cal 23 8 [v0] [vI (ior x1 x0)] I := runs_to (ins_of mI_23 (by rfl)) rfl rfl
theorem r23_8 : runs cal 23 8 [vR 2] [vI x0] I = runs cal 23 9 [vR 2] [vR 2, vI x0] I := runs_to (ins_of mI_23 (by rfl)) rfl rfl
theorem r23_9 : runs cal 23 9 [v0] [vR 2, vI x1] I = runs cal 23 12 [v0] [vI (I 2 1), vI x1] I := st_getI (ins_of mI_23 (by rfl)) mC_23 (by decide) fr_0_37 cT_2 (wdc wid_23 wd_2) (Or.inl rfl)
theorem r23_12 : runs cal 23 12 [v0] [vI x0, vI x1] I = runs cal 23 13 [v0] [vI (ior x1 x0)] I := runs_to (ins_of mI_23 (by rfl)) rfl rfl
theorem r23_13 : runs cal 23 13 [v0] [vI x0] I = some (some (vI x0), I) := st_ret (q := some (vI x0)) (k := 0) (ins_of mI_23 (by rfl)) rfl (by decide) mR_23 rfl trivial
theorem r23_2a : runs cal 23 2 [vR 10] [vI x0, vI x1] I = runs cal 23 3 [vR 10] [vR 10, vI x0, vI x1] I := runs_to (ins_of mI_23 (by rfl)) rfl rfl
theorem r23_3a : runs cal 23 3 [v0] [vR 10, vI x1, vI x2] I = runs cal 23 6 [v0] [vI (I 10 0), vI x1, vI x2] I := st_getI (ins_of mI_23 (by rfl)) mC_23 (by decide) fr_0_11 cT_10 (wdc wid_23 wd_10) (Or.inl rfl)
theorem r23_8a : runs cal 23 8 [vR 10] [vI x0] I = runs cal 23 9 [vR 10] [vR 10, vI x0] I := runs_to (ins_of mI_23 (by rfl)) rfl rfl
theorem r23_9a : runs cal 23 9 [v0] [vR 10, vI x1] I = runs cal 23 12 [v0] [vI (I 10 1), vI x1] I := st_getI (ins_of mI_23 (by rfl)) mC_23 (by decide) fr_0_37 cT_10 (wdc wid_23 wd_10) (Or.inl rfl)
theorem r24_0 : runs cal 24 0 [v0, v1, v2, v3] [] I = runs cal 24 1 [v0, v1, v2, v3] [vI (0)] I := runs_to (ins_of mI_24 (by rfl)) rfl rfl
theorem r24_1 : runs cal 24 1 [v0, vI u, v2, v3] [vI x0] I = runs cal 24 2 [v0, vI u, vI x0, v3] [] I := runs_to (ins_of mI_24 (by rfl)) rfl rfl
theorem r24_2 : runs cal 24 2 [v0, v1, v2, v3] [] I = runs cal 24 3 [v0, v1, v2, v3] [vI (0)] I := runs_to (ins_of mI_24 (by rfl)) rfl rfl
theorem r24_3 : runs cal 24 3 [v0, v1, vI u, v3] [vI x0] I = runs cal 24 4 [v0, v1, vI u, vI x0] [] I := runs_to (ins_of mI_24 (by rfl)) rfl rfl
theorem r24_4 : runs cal 24 4 [v0, v1, v2, vI w] [] I = runs cal 24 5 [v0, v1, v2, vI w] [vI w] I := runs_to (ins_of mI_24 (by rfl)) rfl rfl
theorem r24_5 : runs cal 24 5 [vR 2, v1, v2, v3] [vI x0] I = runs cal 24 6 [vR 2, v1, v2, v3] [vR 2, vI x0] I := runs_to (ins_of mI_24 (by rfl)) rfl rfl
theorem r24_6 : runs cal 24 6 [v0, v1, v2, v3] [vR 2, vI x1] I = runs cal 24 9 [v0, v1, v2, v3] [vI (I 2 2), vI x1] I := st_getI (ins_of mI_24 (by rfl)) mC_24 (by decide) fr_0_40 cT_2 (wdc wid_24 wd_2) (Or.inl rfl)
theorem r24_9 : runs cal 24 9 [v0, v1, v2, v3] [vI x0, vI x1] I = if x1 < x0 then runs cal 24 12 [v0, v1, v2, v3] [] I else runs cal 24 29 [v0, v1, v2, v3] [] I := st_cmp_ge (ins_of mI_24 (by rfl)) (by decide)
theorem r24_12 : runs cal 24 12 [v0, v1, vI w, v3] [] I = runs cal 24 13 [v0, v1, vI w, v3] [vI w] I := runs_to (ins_of mI_24 (by rfl)) rfl rfl
theorem r24_13 : runs cal 24 13 [v0, v1, v2, v3] [vI x0] I = runs cal 24 14 [v0, v1, v2, v3] [vI (1), vI x0] I := runs_to (ins_of mI_24 (by rfl)) rfl rfl
theorem r24_14 : runs cal 24 14 [vR 2, v1, v2, v3] [vI x0, vI x1] I = runs cal 24 15 [vR 2, v1, v2, v3] [vR 2, vI x0, vI x1] I := runs_to (ins_of mI_24 (by rfl)) rfl rfl
theorem r24_15 : runs cal 24 15 [v0, vI w, v2, v3] [vR 2, vI x1, vI x2] I = runs cal 24 16 [v0, vI w, v2, v3] [vI w, vR 2, vI x1, vI x2] I := runs_to (ins_of mI_24 (by rfl)) rfl rfl
theorem r24_16 : runs cal 24 16 [v0, v1, v2, vI w] [vI x0, vR 2, vI x2, vI x3] I = runs cal 24 17 [v0, v1, v2, vI w] [vI w, vI x0, vR 2, vI x2, vI x3] I := runs_to (ins_of mI_24 (by rfl)) rfl rfl
theorem r24_17 : runs cal 24 17 [v0, v1, v2, v3] [vI x0, vI x1, vR 2, vI x3, vI x4] I = (cal 7 [vR 2, vI x1, vI x0] I).bind (fun q => runs cal 24 20 [v0, v1, v2, v3] (pushR q.1 [vI x3, vI x4]) q.2) := st_call (st := false) (ins_of mI_24 (by rfl)) mC_24 mr_0_79 (by decide) mS_7 mN_7 rfl (Nat.le_of_ble_eq_true rfl) rfl rfl (Or.inr ⟨_, _, rfl, rcv mC_7 rfl wid_24 (by decide +kernel)⟩) (Or.inl (wid_24.trans wid_7.symm))
theorem r24_20 : runs cal 24 20 [v0, v1, v2, v3] [vI x0, vI x1, vI x2] I = runs cal 24 21 [v0, v1, v2, v3] [vI (ishl x1 x0), vI x2] I := runs_to (ins_of mI_24 (by rfl)) rfl rfl
theorem r24_21 : runs cal 24 21 [v0, v1, v2, v3] [vI x0, vI x1] I = runs cal 24 22 [v0, v1, v2, v3] [vI (ior x1 x0)] I := runs_to (ins_of mI_24 (by rfl)) rfl rfl
theorem r24_22 : runs cal 24 22 [v0, vI u, v2, v3] [vI x0] I = runs cal 24 23 [v0, vI u, vI x0, v3] [] I := runs_to (ins_of mI_24 (by rfl)) rfl rfl
theorem r24_23 : runs cal 24 23 [v0, v1, vI u, vI w] [] I = runs cal 24 26 [v0, v1, vI u, vI (iadd w (1))] [] I := runs_to (ins_of mI_24 (by rfl)) rfl rfl
theorem r24_26 : runs cal 24 26 [v0, v1, v2, v3] [] I = runs cal 24 4 [v0, v1, v2, v3] [] I := st_goto (ins_of mI_24 (by rfl)) (by decide)
theorem r24_29 : runs cal 24 29 [v0, v1, vI w, v3] [] I = runs cal 24 30 [v0, v1, vI w, v3] [vI w] I := runs_to (ins_of mI_24 (by rfl)) rfl rfl
theorem r24_30 : runs cal 24 30 [v0, v1, v2, v3] [vI x0] I = some (some (vI x0), I) := st_ret (q := some (vI x0)) (k := 0) (ins_of mI_24 (by rfl)) rfl (by decide) mR_24 rfl trivial
theorem r24_5a : runs cal 24 5 [vR 10, v1, v2, v3] [vI x0] I = runs cal 24 6 [vR 10, v1, v2, v3] [vR 10, vI x0] I := runs_to (ins_of mI_24 (by rfl)) rfl rfl
theorem r24_6a : runs cal 24 6 [v0, v1, v2, v3] [vR 10, vI x1] I = runs cal 24 9 [v0, v1, v2, v3] [vI (I 10 2), vI x1] I := st_getI (ins_of mI_24 (by rfl)) mC_24 (by decide) fr_0_40 cT_10 (wdc wid_24 wd_10) (Or.inl rfl)
theorem r24_14a : runs cal 24 14 [vR 10, v1, v2, v3] [vI x0, vI x1] I = runs cal 24 15 [vR 10, v1, v2, v3] [vR 10, vI x0, vI x1] I := runs_to (ins_of mI_24 (by rfl)) rfl rfl
theorem r24_15a : runs cal 24 15 [v0, vI w, v2, v3] [vR 10, vI x1, vI x2] I = runs cal 24 16 [v0, vI w, v2, v3] [vI w, vR 10, vI x1, vI x2] I := runs_to (ins_of mI_24 (by rfl)) rfl rfl
theorem r24_16a : runs cal 24 16 [v0, v1, v2, vI w] [vI x0, vR 10, vI x2, vI x3] I = runs cal 24 17 [v0, v1, v2, vI w] [vI w, vI x0, vR 10, vI x2, vI x3] I := runs_to (ins_of mI_24 (by rfl)) rfl rfl
theorem r24_17a : runs cal 24 17 [v0, v1, v2, v3] [vI x0, vI x1, vR 10, vI x3, vI x4] I = (cal 7 [vR 10, vI x1, vI x0] I).bind (fun q => runs cal 24 20 [v0, v1, v2, v3] (pushR q.1 [vI x3, vI x4]) q.2) := st_call (st := false) (ins_of mI_24 (by rfl)) mC_24 mr_0_79 (by decide) mS_7 mN_7 rfl (Nat.le_of_ble_eq_true rfl) rfl rfl (Or.inr ⟨_, _, rfl, rcv mC_7 rfl wid_24 (by decide +kernel)⟩) (Or.inl (wid_24.trans wid_7.symm))
theorem r25_0 : runs cal 25 0 [vR 2, v1, v2] [] I = runs cal 25 1 [vR 2, v1, v2] [vR 2] I := runs_to (ins_of mI_25 (by rfl)) rfl rfl
theorem r25_1 : runs cal 25 1 [vR 2, v1, v2] [vR 2] I = runs cal 25 2 [vR 2, v1, v2] [vR 2, vR 2] I := runs_to (ins_of mI_25 (by rfl)) rfl rfl
theorem r25_2 : runs cal 25 2 [v0, v1, v2] [vR 2, vR 2] I = (cal 23 [vR 2] I).bind (fun q => runs cal 25 5 [v0, v1, v2] (pushR q.1 [vR 2]) q.2) := st_call (st := false) (ins_of mI_25 (by rfl)) mC_25 mr_0_99 (by decide) mS_23 mN_23 rfl (Nat.le_of_ble_eq_true rfl) rfl rfl (Or.inr ⟨_, _, rfl, rcv mC_23 rfl wid_25 (by decide +kernel)⟩) (Or.inl (wid_25.trans wid_23.symm))
theorem r25_5 : runs cal 25 5 [vR 2, v1, v2] [vI x0, vR 2] I = runs cal 25 6 [vR 2, v1, v2] [vR 2, vI x0, vR 2] I := runs_to (ins_of mI_25 (by rfl)) rfl rfl
theorem r25_6 : runs cal 25 6 [v0, vI w, v2] [vR 2, vI x1, vR 2] I = runs cal 25 7 [v0, vI w, v2] [vI w, vR 2, vI x1, vR 2] I := runs_to (ins_of mI_25 (by rfl)) rfl rfl
theorem r25_7 : runs cal 25 7 [v0, v1, v2] [vI x0, vR 2, vI x2, vR 2] I = (cal 21 [vR 2, vI x0] I).bind (fun q => runs cal 25 10 [v0, v1, v2] (pushR q.1 [vI x2, vR 2]) q.2) := st_call (st := false) (ins_of mI_25 (by rfl)) mC_25 mr_0_66 (by decide) mS_21 mN_21 rfl (Nat.le_of_ble_eq_true rfl) rfl rfl (Or.inr ⟨_, _, rfl, rcv mC_21 rfl wid_25 (by decide +kernel)⟩) (Or.inl (wid_25.trans wid_21.symm))
theorem r25_10 : runs cal 25 10 [v0, v1, v2] [vI x0, vI x1, vR 2] I = runs cal 25 11 [v0, v1, v2] [vI (ior x1 x0), vR 2] I := runs_to (ins_of mI_25 (by rfl)) rfl rfl
theorem r25_11 : runs cal 25 11 [v0, v1, vI w] [vI x0, vR 2] I = runs cal 25 12 [v0, v1, vI w] [vI w, vI x0, vR 2] I := runs_to (ins_of mI_25 (by rfl)) rfl rfl
theorem r25_12 : runs cal 25 12 [v0, v1, v2] [vI x0, vI x1, vR 2] I = (cal 22 [vR 2, vI x1, vI x0] I).bind (fun q => runs cal 25 15 [v0, v1, v2] (pushR q.1 []) q.2) := st_call (st := false) (ins_of mI_25 (by rfl)) mC_25 mr_0_103 (by decide) mS_22 mN_22 rfl (Nat.le_of_ble_eq_true rfl) rfl rfl (Or.inr ⟨_, _, rfl, rcv mC_22 rfl wid_25 (by decide +kernel)⟩) (Or.inl (wid_25.trans wid_22.symm))
theorem r25_15 : runs cal 25 15 [v0, v1, v2] [vI x0] I = if x0 = 0 ∨ x0 = 1 then some (some (vI x0), I) else none := st_retZ (ins_of mI_25 (by rfl)) mR_25 (Or.inl rfl)
theorem r26_0 : runs cal 26 0 [v0, v1, v2, v3] [] I = runs cal 26 1 [v0, v1, v2, v3] [vI (0)] I := runs_to (ins_of mI_26 (by rfl)) rfl rfl
theorem r26_1 : runs cal 26 1 [v0, v1, vI u, v3] [vI x0] I = runs cal 26 2 [v0, v1, vI u, vI x0] [] I := runs_to (ins_of mI_26 (by rfl)) rfl rfl
theorem r26_2 : runs cal 26 2 [v0, v1, v2, vI w] [] I = runs cal 26 3 [v0, v1, v2, vI w] [vI w] I := runs_to (ins_of mI_26 (by rfl)) rfl rfl
theorem r26_3 : runs cal 26 3 [vR 2, v1, v2, v3] [vI x0] I = runs cal 26 4 [vR 2, v1, v2, v3] [vR 2, vI x0] I := runs_to (ins_of mI_26 (by rfl)) rfl rfl
theorem r26_4 : runs cal 26 4 [v0, v1, v2, v3] [vR 2, vI x1] I = runs cal 26 7 [v0, v1, v2, v3] [vI (I 2 3), vI x1] I := st_getI (ins_of mI_26 (by rfl)) mC_26 (by decide) fr_0_43 cT_2 (wdc wid_26 wd_2) (Or.inl rfl)
theorem r26_7 : runs cal 26 7 [v0, v1, v2, v3] [vI x0, vI x1] I = if x1 < x0 then runs cal 26 10 [v0, v1, v2, v3] [] I else runs cal 26 32 [v0, v1, v2, v3] [] I := st_cmp_ge (ins_of mI_26 (by rfl)) (by decide)
theorem r26_10 : runs cal 26 10 [vR 2, v1, v2, v3] [] I = runs cal 26 11 [vR 2, v1, v2, v3] [vR 2] I := runs_to (ins_of mI_26 (by rfl)) rfl rfl
theorem r26_11 : runs cal 26 11 [vR 2, v1, v2, v3] [vR 2] I = runs cal 26 12 [vR 2, v1, v2, v3] [vR 2, vR 2] I := runs_to (ins_of mI_26 (by rfl)) rfl rfl
theorem r26_12 : runs cal 26 12 [v0, vI w, v2, v3] [vR 2, vR 2] I = runs cal 26 13 [v0, vI w, v2, v3] [vI w, vR 2, vR 2] I := runs_to (ins_of mI_26 (by rfl)) rfl rfl
theorem r26_13 : runs cal 26 13 [v0, v1, v2, vI w] [vI x0, vR 2, vR 2] I = runs cal 26 14 [v0, v1, v2, vI w] [vI w, vI x0, vR 2, vR 2] I := runs_to (ins_of mI_26 (by rfl)) rfl rfl
theorem r26_14 : runs cal 26 14 [v0, v1, v2, v3] [vI x0, vI x1, vR 2, vR 2] I = (cal 20 [vR 2, vI x1, vI x0] I).bind (fun q => runs cal 26 17 [v0, v1, v2, v3] (pushR q.1 [vR 2]) q.2) := st_call (st := false) (ins_of mI_26 (by rfl)) mC_26 mr_0_92 (by decide) mS_20 mN_20 rfl (Nat.le_of_ble_eq_true rfl) rfl rfl (Or.inr ⟨_, _, rfl, rcv mC_20 rfl wid_26 (by decide +kernel)⟩) (Or.inl (wid_26.trans wid_20.symm))
theorem r26_17 : runs cal 26 17 [v0, v1, vI w, v3] [vI x0, vR 2] I = runs cal 26 18 [v0, v1, vI w, v3] [vI w, vI x0, vR 2] I := runs_to (ins_of mI_26 (by rfl)) rfl rfl
theorem r26_18 : runs cal 26 18 [v0, v1, v2, v3] [vI x0, vI x1, vR 2] I = (cal 22 [vR 2, vI x1, vI x0] I).bind (fun q => runs cal 26 21 [v0, v1, v2, v3] (pushR q.1 []) q.2) := st_call (st := false) (ins_of mI_26 (by rfl)) mC_26 mr_0_103 (by decide) mS_22 mN_22 rfl (Nat.le_of_ble_eq_true rfl) rfl rfl (Or.inr ⟨_, _, rfl, rcv mC_22 rfl wid_26 (by decide +kernel)⟩) (Or.inl (wid_26.trans wid_22.symm))
theorem r26_21 : runs cal 26 21 [v0, v1, v2, v3] [vI x0] I = if x0 = 0 then runs cal 26 26 [v0, v1, v2, v3] [] I else runs cal 26 24 [v0, v1, v2, v3] [] I := st_if_eq (ins_of mI_26 (by rfl)) (by decide)
theorem r26_24 : runs cal 26 24 [v0, v1, v2, vI w] [] I = runs cal 26 25 [v0, v1, v2, vI w] [vI w] I := runs_to (ins_of mI_26 (by rfl)) rfl rfl
theorem r26_25 : runs cal 26 25 [v0, v1, v2, v3] [vI x0] I = some (some (vI x0), I) := st_ret (q := some (vI x0)) (k := 0) (ins_of mI_26 (by rfl)) rfl (by decide) mR_26 rfl trivial
theorem r26_26 : runs cal 26 26 [v0, v1, vI u, vI w] [] I = runs cal 26 29 [v0, v1, vI u, vI (iadd w (1))] [] I := runs_to (ins_of mI_26 (by rfl)) rfl rfl
theorem r26_29 : runs cal 26 29 [v0, v1, v2, v3] [] I = runs cal 26 2 [v0, v1, v2, v3] [] I := st_goto (ins_of mI_26 (by rfl)) (by decide)
theorem r26_32 : runs cal 26 32 [v0, v1, v2, v3] [] I = runs cal 26 33 [v0, v1, v2, v3] [vI (-1)] I := runs_to (ins_of mI_26 (by rfl)) rfl rfl
theorem r26_33 : runs cal 26 33 [v0, v1, v2, v3] [vI x0] I = some (some (vI x0), I) := st_ret (q := some (vI x0)) (k := 0) (ins_of mI_26 (by rfl)) rfl (by decide) mR_26 rfl trivial
theorem r27_0 : runs cal 27 0 [v0, v1, v2, v3, v4] [] I = runs cal 27 1 [v0, v1, v2, v3, v4] [vI (0)] I := runs_to (ins_of mI_27 (by rfl)) rfl rfl
theorem r27_1 : runs cal 27 1 [v0, v1, vI u, v3, v4] [vI x0] I = runs cal 27 2 [v0, v1, vI u, vI x0, v4] [] I := runs_to (ins_of mI_27 (by rfl)) rfl rfl
theorem r27_2 : runs cal 27 2 [v0, v1, v2, v3, v4] [] I = runs cal 27 3 [v0, v1, v2, v3, v4] [vI (0)] I := runs_to (ins_of mI_27 (by rfl)) rfl rfl
theorem r27_3 : runs cal 27 3 [v0, v1, v2, vI u, v4] [vI x0] I = runs cal 27 5 [v0, v1, v2, vI u, vI x0] [] I := runs_to (ins_of mI_27 (by rfl)) rfl rfl
theorem r27_5 : runs cal 27 5 [v0, v1, v2, v3, vI w] [] I = runs cal 27 7 [v0, v1, v2, v3, vI w] [vI w] I := runs_to (ins_of mI_27 (by rfl)) rfl rfl
theorem r27_7 : runs cal 27 7 [vR 2, v1, v2, v3, v4] [vI x0] I = runs cal 27 8 [vR 2, v1, v2, v3, v4] [vR 2, vI x0] I := runs_to (ins_of mI_27 (by rfl)) rfl rfl
theorem r27_8 : runs cal 27 8 [v0, v1, v2, v3, v4] [vR 2, vI x1] I = runs cal 27 11 [v0, v1, v2, v3, v4] [vI (I 2 2), vI x1] I := st_getI (ins_of mI_27 (by rfl)) mC_27 (by decide) fr_0_40 cT_2 (wdc wid_27 wd_2) (Or.inl rfl)
theorem r27_11 : runs cal 27 11 [v0, v1, v2, v3, v4] [vI x0, vI x1] I = if x1 < x0 then runs cal 27 14 [v0, v1, v2, v3, v4] [] I else runs cal 27 34 [v0, v1, v2, v3, v4] [] I := st_cmp_ge (ins_of mI_27 (by rfl)) (by decide)
theorem r27_14 : runs cal 27 14 [vR 2, v1, v2, v3, v4] [] I = runs cal 27 15 [vR 2, v1, v2, v3, v4] [vR 2] I := runs_to (ins_of mI_27 (by rfl)) rfl rfl
theorem r27_15 : runs cal 27 15 [v0, vI w, v2, v3, v4] [vR 2] I = runs cal 27 16 [v0, vI w, v2, v3, v4] [vI w, vR 2] I := runs_to (ins_of mI_27 (by rfl)) rfl rfl
theorem r27_16 : runs cal 27 16 [v0, v1, v2, v3, vI w] [vI x0, vR 2] I = runs cal 27 18 [v0, v1, v2, v3, vI w] [vI w, vI x0, vR 2] I := runs_to (ins_of mI_27 (by rfl)) rfl rfl
theorem r27_18 : runs cal 27 18 [v0, v1, v2, v3, v4] [vI x0, vI x1, vR 2] I = (cal 7 [vR 2, vI x1, vI x0] I).bind (fun q => runs cal 27 21 [v0, v1, v2, v3, v4] (pushR q.1 []) q.2) := st_call (st := false) (ins_of mI_27 (by rfl)) mC_27 mr_0_79 (by decide) mS_7 mN_7 rfl (Nat.le_of_ble_eq_true rfl) rfl rfl (Or.inr ⟨_, _, rfl, rcv mC_7 rfl wid_27 (by decide +kernel)⟩) (Or.inl (wid_27.trans wid_7.symm))
theorem r27_21 : runs cal 27 21 [v0, v1, vI w, v3, v4] [vI x0] I = runs cal 27 22 [v0, v1, vI w, v3, v4] [vI w, vI x0] I := runs_to (ins_of mI_27 (by rfl)) rfl rfl
theorem r27_22 : runs cal 27 22 [v0, v1, v2, v3, v4] [vI x0, vI x1] I = if x1 = x0 then runs cal 27 25 [v0, v1, v2, v3, v4] [] I else runs cal 27 28 [v0, v1, v2, v3, v4] [] I := st_cmp_ne (ins_of mI_27 (by rfl)) (by decide)
theorem r27_25 : runs cal 27 25 [v0, v1, vI u, vI w, v4] [] I = runs cal 27 28 [v0, v1, vI u, vI (iadd w (1)), v4] [] I := runs_to (ins_of mI_27 (by rfl)) rfl rfl
theorem r27_28 : runs cal 27 28 [v0, v1, v2, vI u, vI w] [] I = runs cal 27 31 [v0, v1, v2, vI u, vI (iadd w (1))] [] I := runs_to (ins_of mI_27 (by rfl)) rfl rfl
theorem r27_31 : runs cal 27 31 [v0, v1, v2, v3, v4] [] I = runs cal 27 5 [v0, v1, v2, v3, v4] [] I := st_goto (ins_of mI_27 (by rfl)) (by decide)
theorem r27_34 : runs cal 27 34 [v0, v1, v2, vI w, v4] [] I = runs cal 27 35 [v0, v1, v2, vI w, v4] [vI w] I := runs_to (ins_of mI_27 (by rfl)) rfl rfl
theorem r27_35 : runs cal 27 35 [v0, v1, v2, v3, v4] [vI x0] I = some (some (vI x0), I) := st_ret (q := some (vI x0)) (k := 0) (ins_of mI_27 (by rfl)) rfl (by decide) mR_27 rfl trivial
theorem r28_0 : runs cal 28 0 [vR 2, v1, v2] [] I = runs cal 28 1 [vR 2, v1, v2] [vR 2] I := runs_to (ins_of mI_28 (by rfl)) rfl rfl
theorem r28_1 : runs cal 28 1 [v0, vI w, v2] [vR 2] I = runs cal 28 2 [v0, vI w, v2] [vI w, vR 2] I := runs_to (ins_of mI_28 (by rfl)) rfl rfl
theorem r28_2 : runs cal 28 2 [vR 2, v1, v2] [vI x0, vR 2] I = runs cal 28 3 [vR 2, v1, v2] [vR 2, vI x0, vR 2] I := runs_to (ins_of mI_28 (by rfl)) rfl rfl
theorem r28_3 : runs cal 28 3 [v0, vI w, v2] [vR 2, vI x1, vR 2] I = runs cal 28 4 [v0, vI w, v2] [vI w, vR 2, vI x1, vR 2] I := runs_to (ins_of mI_28 (by rfl)) rfl rfl
theorem r28_4 : runs cal 28 4 [v0, v1, vI w] [vI x0, vR 2, vI x2, vR 2] I = runs cal 28 5 [v0, v1, vI w] [vI w, vI x0, vR 2, vI x2, vR 2] I := runs_to (ins_of mI_28 (by rfl)) rfl rfl
theorem r28_5 : runs cal 28 5 [v0, v1, v2] [vI x0, vI x1, vR 2, vI x3, vR 2] I = (cal 20 [vR 2, vI x1, vI x0] I).bind (fun q => runs cal 28 8 [v0, v1, v2] (pushR q.1 [vI x3, vR 2]) q.2) := st_call (st := false) (ins_of mI_28 (by rfl)) mC_28 mr_0_92 (by decide) mS_20 mN_20 rfl (Nat.le_of_ble_eq_true rfl) rfl rfl (Or.inr ⟨_, _, rfl, rcv mC_20 rfl wid_28 (by decide +kernel)⟩) (Or.inl (wid_28.trans wid_20.symm))
theorem r28_8 : runs cal 28 8 [vR 2, v1, v2] [vI x0, vI x1, vR 2] I = runs cal 28 9 [vR 2, v1, v2] [vR 2, vI x0, vI x1, vR 2] I := runs_to (ins_of mI_28 (by rfl)) rfl rfl
theorem r28_9 : runs cal 28 9 [v0, vI w, v2] [vR 2, vI x1, vI x2, vR 2] I = runs cal 28 10 [v0, vI w, v2] [vI w, vR 2, vI x1, vI x2, vR 2] I := runs_to (ins_of mI_28 (by rfl)) rfl rfl
theorem r28_10 : runs cal 28 10 [v0, v1, v2] [vI x0, vR 2, vI x2, vI x3, vR 2] I = (cal 17 [vR 2, vI x0] I).bind (fun q => runs cal 28 13 [v0, v1, v2] (pushR q.1 [vI x2, vI x3, vR 2]) q.2) := st_call (st := false) (ins_of mI_28 (by rfl)) mC_28 mr_0_106 (by decide) mS_17 mN_17 rfl (Nat.le_of_ble_eq_true rfl) rfl rfl (Or.inr ⟨_, _, rfl, rcv mC_17 rfl wid_28 (by decide +kernel)⟩) (Or.inl (wid_28.trans wid_17.symm))
theorem r28_13 : runs cal 28 13 [v0, v1, v2] [vI x0, vI x1, vI x2, vR 2] I = (cal 29 [vR 2, vI x2, vI x1, vI x0] I).bind (fun q => runs cal 28 16 [v0, v1, v2] (pushR q.1 []) q.2) := st_call (st := false) (ins_of mI_28 (by rfl)) mC_28 mr_0_109 (by decide) mS_29 mN_29 rfl (Nat.le_of_ble_eq_true rfl) rfl rfl (Or.inr ⟨_, _, rfl, rcv mC_29 rfl wid_28 (by decide +kernel)⟩) (Or.inl (wid_28.trans wid_29.symm))
theorem r28_16 : runs cal 28 16 [v0, v1, v2] [vI x0] I = some (some (vI x0), I) := st_ret (q := some (vI x0)) (k := 0) (ins_of mI_28 (by rfl)) rfl (by decide) mR_28 rfl trivial
theorem r29_0 : runs cal 29 0 [v0, v1, v2, v3, v4, v5] [] I = runs cal 29 1 [v0, v1, v2, v3, v4, v5] [vI (0)] I := runs_to (ins_of mI_29 (by rfl)) rfl rfl
theorem r29_1 : runs cal 29 1 [v0, v1, v2, vI u, v4, v5] [vI x0] I = runs cal 29 3 [v0, v1, v2, vI u, vI x0, v5] [] I := runs_to (ins_of mI_29 (by rfl)) rfl rfl
theorem r29_3 : runs cal 29 3 [v0, v1, v2, v3, v4, v5] [] I = runs cal 29 4 [v0, v1, v2, v3, v4, v5] [vI (0)] I := runs_to (ins_of mI_29 (by rfl)) rfl rfl
theorem r29_4 : runs cal 29 4 [v0, v1, v2, v3, vI u, v5] [vI x0] I = runs cal 29 6 [v0, v1, v2, v3, vI u, vI x0] [] I := runs_to (ins_of mI_29 (by rfl)) rfl rfl
theorem r29_6 : runs cal 29 6 [v0, v1, v2, v3, v4, vI w] [] I = runs cal 29 8 [v0, v1, v2, v3, v4, vI w] [vI w] I := runs_to (ins_of mI_29 (by rfl)) rfl rfl
theorem r29_8 : runs cal 29 8 [vR 2, v1, v2, v3, v4, v5] [vI x0] I = runs cal 29 9 [vR 2, v1, v2, v3, v4, v5] [vR 2, vI x0] I := runs_to (ins_of mI_29 (by rfl)) rfl rfl
theorem r29_9 : runs cal 29 9 [v0, v1, v2, v3, v4, v5] [vR 2, vI x1] I = runs cal 29 12 [v0, v1, v2, v3, v4, v5] [vI (I 2 2), vI x1] I := st_getI (ins_of mI_29 (by rfl)) mC_29 (by decide) fr_0_40 cT_2 (wdc wid_29 wd_2) (Or.inl rfl)
theorem r29_12 : runs cal 29 12 [v0, v1, v2, v3, v4, v5] [vI x0, vI x1] I = if x1 < x0 then runs cal 29 15 [v0, v1, v2, v3, v4, v5] [] I else runs cal 29 48 [v0, v1, v2, v3, v4, v5] [] I := st_cmp_ge (ins_of mI_29 (by rfl)) (by decide)
theorem r29_15 : runs cal 29 15 [v0, v1, vI w, v3, v4, v5] [] I = runs cal 29 16 [v0, v1, vI w, v3, v4, v5] [vI w] I := runs_to (ins_of mI_29 (by rfl)) rfl rfl
theorem r29_16 : runs cal 29 16 [vR 2, v1, v2, v3, v4, v5] [vI x0] I = runs cal 29 17 [vR 2, v1, v2, v3, v4, v5] [vR 2, vI x0] I := runs_to (ins_of mI_29 (by rfl)) rfl rfl
theorem r29_17 : runs cal 29 17 [v0, vI w, v2, v3, v4, v5] [vR 2, vI x1] I = runs cal 29 18 [v0, vI w, v2, v3, v4, v5] [vI w, vR 2, vI x1] I := runs_to (ins_of mI_29 (by rfl)) rfl rfl
theorem r29_18 : runs cal 29 18 [v0, v1, v2, v3, v4, vI w] [vI x0, vR 2, vI x2] I = runs cal 29 20 [v0, v1, v2, v3, v4, vI w] [vI w, vI x0, vR 2, vI x2] I := runs_to (ins_of mI_29 (by rfl)) rfl rfl
theorem r29_20 : runs cal 29 20 [v0, v1, v2, v3, v4, v5] [vI x0, vI x1, vR 2, vI x3] I = (cal 7 [vR 2, vI x1, vI x0] I).bind (fun q => runs cal 29 23 [v0, v1, v2, v3, v4, v5] (pushR q.1 [vI x3]) q.2) := st_call (st := false) (ins_of mI_29 (by rfl)) mC_29 mr_0_79 (by decide) mS_7 mN_7 rfl (Nat.le_of_ble_eq_true rfl) rfl rfl (Or.inr ⟨_, _, rfl, rcv mC_7 rfl wid_29 (by decide +kernel)⟩) (Or.inl (wid_29.trans wid_7.symm))
theorem r29_23 : runs cal 29 23 [v0, v1, v2, v3, v4, v5] [vI x0, vI x1] I = runs cal 29 24 [v0, v1, v2, v3, v4, v5] [vI (ishr x1 x0)] I := runs_to (ins_of mI_29 (by rfl)) rfl rfl
theorem r29_24 : runs cal 29 24 [v0, v1, v2, v3, v4, v5] [vI x0] I = runs cal 29 25 [v0, v1, v2, v3, v4, v5] [vI (1), vI x0] I := runs_to (ins_of mI_29 (by rfl)) rfl rfl
theorem r29_25 : runs cal 29 25 [v0, v1, v2, v3, v4, v5] [vI x0, vI x1] I = runs cal 29 26 [v0, v1, v2, v3, v4, v5] [vI (iand x1 x0)] I := runs_to (ins_of mI_29 (by rfl)) rfl rfl
theorem r29_26 : runs cal 29 26 [v0, v1, v2, v3, v4, v5] [vI x0] I = runs cal 29 27 [v0, v1, v2, v3, v4, v5] [vI (1), vI x0] I := runs_to (ins_of mI_29 (by rfl)) rfl rfl
theorem r29_27 : runs cal 29 27 [v0, v1, v2, v3, v4, v5] [vI x0, vI x1] I = if x1 = x0 then runs cal 29 30 [v0, v1, v2, v3, v4, v5] [] I else runs cal 29 42 [v0, v1, v2, v3, v4, v5] [] I := st_cmp_ne (ins_of mI_29 (by rfl)) (by decide)
theorem r29_30 : runs cal 29 30 [v0, v1, v2, v3, vI w, v5] [] I = runs cal 29 32 [v0, v1, v2, v3, vI w, v5] [vI w] I := runs_to (ins_of mI_29 (by rfl)) rfl rfl
theorem r29_32 : runs cal 29 32 [vR 2, v1, v2, v3, v4, v5] [vI x0] I = runs cal 29 33 [vR 2, v1, v2, v3, v4, v5] [vR 2, vI x0] I := runs_to (ins_of mI_29 (by rfl)) rfl rfl
theorem r29_33 : runs cal 29 33 [v0, v1, v2, v3, v4, vI w] [vR 2, vI x1] I = runs cal 29 35 [v0, v1, v2, v3, v4, vI w] [vI w, vR 2, vI x1] I := runs_to (ins_of mI_29 (by rfl)) rfl rfl
theorem r29_35 : runs cal 29 35 [v0, v1, v2, vI w, v4, v5] [vI x0, vR 2, vI x2] I = runs cal 29 36 [v0, v1, v2, vI w, v4, v5] [vI w, vI x0, vR 2, vI x2] I := runs_to (ins_of mI_29 (by rfl)) rfl rfl
theorem r29_36 : runs cal 29 36 [v0, v1, v2, v3, v4, v5] [vI x0, vI x1, vR 2, vI x3] I = (cal 18 [vR 2, vI x1, vI x0] I).bind (fun q => runs cal 29 39 [v0, v1, v2, v3, v4, v5] (pushR q.1 [vI x3]) q.2) := st_call (st := false) (ins_of mI_29 (by rfl)) mC_29 mr_0_112 (by decide) mS_18 mN_18 rfl (Nat.le_of_ble_eq_true rfl) rfl rfl (Or.inr ⟨_, _, rfl, rcv mC_18 rfl wid_29 (by decide +kernel)⟩) (Or.inl (wid_29.trans wid_18.symm))
theorem r29_39 : runs cal 29 39 [v0, v1, v2, v3, v4, v5] [vI x0, vI x1] I = runs cal 29 40 [v0, v1, v2, v3, v4, v5] [vI (iadd x1 x0)] I := runs_to (ins_of mI_29 (by rfl)) rfl rfl
theorem r29_40 : runs cal 29 40 [v0, v1, v2, vI u, v4, v5] [vI x0] I = runs cal 29 42 [v0, v1, v2, vI u, vI x0, v5] [] I := runs_to (ins_of mI_29 (by rfl)) rfl rfl
theorem r29_42 : runs cal 29 42 [v0, v1, v2, v3, vI u, vI w] [] I = runs cal 29 45 [v0, v1, v2, v3, vI u, vI (iadd w (1))] [] I := runs_to (ins_of mI_29 (by rfl)) rfl rfl
theorem r29_45 : runs cal 29 45 [v0, v1, v2, v3, v4, v5] [] I = runs cal 29 6 [v0, v1, v2, v3, v4, v5] [] I := st_goto (ins_of mI_29 (by rfl)) (by decide)
theorem r29_48 : runs cal 29 48 [v0, v1, v2, v3, vI w, v5] [] I = runs cal 29 50 [v0, v1, v2, v3, vI w, v5] [vI w] I := runs_to (ins_of mI_29 (by rfl)) rfl rfl
theorem r29_50 : runs cal 29 50 [v0, v1, v2, v3, v4, v5] [vI x0] I = some (some (vI x0), I) := st_ret (q := some (vI x0)) (k := 0) (ins_of mI_29 (by rfl)) rfl (by decide) mR_29 rfl trivial
theorem r29_8a : runs cal 29 8 [vR 10, v1, v2, v3, v4, v5] [vI x0] I = runs cal 29 9 [vR 10, v1, v2, v3, v4, v5] [vR 10, vI x0] I := runs_to (ins_of mI_29 (by rfl)) rfl rfl
theorem r29_9a : runs cal 29 9 [v0, v1, v2, v3, v4, v5] [vR 10, vI x1] I = runs cal 29 12 [v0, v1, v2, v3, v4, v5] [vI (I 10 2), vI x1] I := st_getI (ins_of mI_29 (by rfl)) mC_29 (by decide) fr_0_40 cT_10 (wdc wid_29 wd_10) (Or.inl rfl)
theorem r29_16a : runs cal 29 16 [vR 10, v1, v2, v3, v4, v5] [vI x0] I = runs cal 29 17 [vR 10, v1, v2, v3, v4, v5] [vR 10, vI x0] I := runs_to (ins_of mI_29 (by rfl)) rfl rfl
theorem r29_17a : runs cal 29 17 [v0, vI w, v2, v3, v4, v5] [vR 10, vI x1] I = runs cal 29 18 [v0, vI w, v2, v3, v4, v5] [vI w, vR 10, vI x1] I := runs_to (ins_of mI_29 (by rfl)) rfl rfl
theorem r29_18a : runs cal 29 18 [v0, v1, v2, v3, v4, vI w] [vI x0, vR 10, vI x2] I = runs cal 29 20 [v0, v1, v2, v3, v4, vI w] [vI w, vI x0, vR 10, vI x2] I := runs_to (ins_of mI_29 (by rfl)) rfl rfl
theorem r29_20a : runs cal 29 20 [v0, v1, v2, v3, v4, v5] [vI x0, vI x1, vR 10, vI x3] I = (cal 7 [vR 10, vI x1, vI x0] I).bind (fun q => runs cal 29 23 [v0, v1, v2, v3, v4, v5] (pushR q.1 [vI x3]) q.2) := st_call (st := false) (ins_of mI_29 (by rfl)) mC_29 mr_0_79 (by decide) mS_7 mN_7 rfl (Nat.le_of_ble_eq_true rfl) rfl rfl (Or.inr ⟨_, _, rfl, rcv mC_7 rfl wid_29 (by decide +kernel)⟩) (Or.inl (wid_29.trans wid_7.symm))
theorem r29_32a : runs cal 29 32 [vR 10, v1, v2, v3, v4, v5] [vI x0] I = runs cal 29 33 [vR 10, v1, v2, v3, v4, v5] [vR 10, vI x0] I := runs_to (ins_of mI_29 (by rfl)) rfl rfl
theorem r29_33a : runs cal 29 33 [v0, v1, v2, v3, v4, vI w] [vR 10, vI x1] I = runs cal 29 35 [v0, v1, v2, v3, v4, vI w] [vI w, vR 10, vI x1] I := runs_to (ins_of mI_29 (by rfl)) rfl rfl
theorem r29_35a : runs cal 29 35 [v0, v1, v2, vI w, v4, v5] [vI x0, vR 10, vI x2] I = runs cal 29 36 [v0, v1, v2, vI w, v4, v5] [vI w, vI x0, vR 10, vI x2] I := runs_to (ins_of mI_29 (by rfl)) rfl rfl
theorem r29_36a : runs cal 29 36 [v0, v1, v2, v3, v4, v5] [vI x0, vI x1, vR 10, vI x3] I = (cal 18 [vR 10, vI x1, vI x0] I).bind (fun q => runs cal 29 39 [v0, v1, v2, v3, v4, v5] (pushR q.1 [vI x3]) q.2) := st_call (st := false) (ins_of mI_29 (by rfl)) mC_29 mr_0_112 (by decide) mS_18 mN_18 rfl (Nat.le_of_ble_eq_true rfl) rfl rfl (Or.inr ⟨_, _, rfl, rcv mC_18 rfl wid_29 (by decide +kernel)⟩) (Or.inl (wid_29.trans wid_18.symm))
theorem r30_0 : runs cal 30 0 [vR 2, v1, v2, v3, v4, v5] [] I = runs cal 30 1 [vR 2, v1, v2, v3, v4, v5] [vR 2] I := runs_to (ins_of mI_30 (by rfl)) rfl rfl
theorem r30_1 : runs cal 30 1 [v0, v1, v2, v3, v4, v5] [vR 2] I = (cal 23 [vR 2] I).bind (fun q => runs cal 30 4 [v0, v1, v2, v3, v4, v5] (pushR q.1 []) q.2) := st_call (st := false) (ins_of mI_30 (by rfl)) mC_30 mr_0_99 (by decide) mS_23 mN_23 rfl (Nat.le_of_ble_eq_true rfl) rfl rfl (Or.inr ⟨_, _, rfl, rcv mC_23 rfl wid_30 (by decide +kernel)⟩) (Or.inl (wid_30.trans wid_23.symm))
theorem r30_4 : runs cal 30 4 [v0, vI u, v2, v3, v4, v5] [vI x0] I = runs cal 30 5 [v0, vI u, vI x0, v3, v4, v5] [] I := runs_to (ins_of mI_30 (by rfl)) rfl rfl
theorem r30_5 : runs cal 30 5 [vR 2, v1, v2, v3, v4, v5] [] I = runs cal 30 6 [vR 2, v1, v2, v3, v4, v5] [vR 2] I := runs_to (ins_of mI_30 (by rfl)) rfl rfl
theorem r30_6 : runs cal 30 6 [v0, vI w, v2, v3, v4, v5] [vR 2] I = runs cal 30 7 [v0, vI w, v2, v3, v4, v5] [vI w, vR 2] I := runs_to (ins_of mI_30 (by rfl)) rfl rfl
theorem r30_7 : runs cal 30 7 [v0, v1, v2, v3, v4, v5] [vI x0, vR 2] I = (cal 17 [vR 2, vI x0] I).bind (fun q => runs cal 30 10 [v0, v1, v2, v3, v4, v5] (pushR q.1 []) q.2) := st_call (st := false) (ins_of mI_30 (by rfl)) mC_30 mr_0_106 (by decide) mS_17 mN_17 rfl (Nat.le_of_ble_eq_true rfl) rfl rfl (Or.inr ⟨_, _, rfl, rcv mC_17 rfl wid_30 (by decide +kernel)⟩) (Or.inl (wid_30.trans wid_17.symm))
theorem r30_10 : runs cal 30 10 [v0, v1, vI u, v3, v4, v5] [vI x0] I = runs cal 30 11 [v0, v1, vI u, vI x0, v4, v5] [] I := runs_to (ins_of mI_30 (by rfl)) rfl rfl
theorem r30_11 : runs cal 30 11 [v0, v1, v2, v3, v4, v5] [] I = runs cal 30 12 [v0, v1, v2, v3, v4, v5] [vI (0)] I := runs_to (ins_of mI_30 (by rfl)) rfl rfl
theorem r30_12 : runs cal 30 12 [v0, v1, v2, vI u, v4, v5] [vI x0] I = runs cal 30 14 [v0, v1, v2, vI u, vI x0, v5] [] I := runs_to (ins_of mI_30 (by rfl)) rfl rfl
theorem r30_14 : runs cal 30 14 [v0, v1, v2, v3, vI w, v5] [] I = runs cal 30 16 [v0, v1, v2, v3, vI w, v5] [vI w] I := runs_to (ins_of mI_30 (by rfl)) rfl rfl
theorem r30_16 : runs cal 30 16 [vR 2, v1, v2, v3, v4, v5] [vI x0] I = runs cal 30 17 [vR 2, v1, v2, v3, v4, v5] [vR 2, vI x0] I := runs_to (ins_of mI_30 (by rfl)) rfl rfl
theorem r30_17 : runs cal 30 17 [v0, v1, v2, v3, v4, v5] [vR 2, vI x1] I = runs cal 30 20 [v0, v1, v2, v3, v4, v5] [vI (I 2 3), vI x1] I := st_getI (ins_of mI_30 (by rfl)) mC_30 (by decide) fr_0_43 cT_2 (wdc wid_30 wd_2) (Or.inl rfl)
theorem r30_20 : runs cal 30 20 [v0, v1, v2, v3, v4, v5] [vI x0, vI x1] I = if x1 < x0 then runs cal 30 23 [v0, v1, v2, v3, v4, v5] [] I else runs cal 30 63 [v0, v1, v2, v3, v4, v5] [] I := st_cmp_ge (ins_of mI_30 (by rfl)) (by decide)
theorem r30_23 : runs cal 30 23 [vR 2, v1, v2, v3, v4, v5] [] I = runs cal 30 24 [vR 2, v1, v2, v3, v4, v5] [vR 2] I := runs_to (ins_of mI_30 (by rfl)) rfl rfl
theorem r30_24 : runs cal 30 24 [v0, vI w, v2, v3, v4, v5] [vR 2] I = runs cal 30 25 [v0, vI w, v2, v3, v4, v5] [vI w, vR 2] I := runs_to (ins_of mI_30 (by rfl)) rfl rfl
theorem r30_25 : runs cal 30 25 [v0, v1, v2, v3, vI w, v5] [vI x0, vR 2] I = runs cal 30 27 [v0, v1, v2, v3, vI w, v5] [vI w, vI x0, vR 2] I := runs_to (ins_of mI_30 (by rfl)) rfl rfl
theorem r30_27 : runs cal 30 27 [v0, v1, v2, v3, v4, v5] [vI x0, vI x1, vR 2] I = (cal 20 [vR 2, vI x1, vI x0] I).bind (fun q => runs cal 30 30 [v0, v1, v2, v3, v4, v5] (pushR q.1 []) q.2) := st_call (st := false) (ins_of mI_30 (by rfl)) mC_30 mr_0_92 (by decide) mS_20 mN_20 rfl (Nat.le_of_ble_eq_true rfl) rfl rfl (Or.inr ⟨_, _, rfl, rcv mC_20 rfl wid_30 (by decide +kernel)⟩) (Or.inl (wid_30.trans wid_20.symm))
theorem r30_30 : runs cal 30 30 [v0, v1, v2, v3, vI u, v5] [vI x0] I = runs cal 30 32 [v0, v1, v2, v3, vI u, vI x0] [] I := runs_to (ins_of mI_30 (by rfl)) rfl rfl
theorem r30_32 : runs cal 30 32 [vR 2, v1, v2, v3, v4, v5] [] I = runs cal 30 33 [vR 2, v1, v2, v3, v4, v5] [vR 2] I := runs_to (ins_of mI_30 (by rfl)) rfl rfl
theorem r30_33 : runs cal 30 33 [v0, vI w, v2, v3, v4, v5] [vR 2] I = runs cal 30 34 [v0, vI w, v2, v3, v4, v5] [vI w, vR 2] I := runs_to (ins_of mI_30 (by rfl)) rfl rfl
theorem r30_34 : runs cal 30 34 [v0, v1, v2, v3, v4, vI w] [vI x0, vR 2] I = runs cal 30 36 [v0, v1, v2, v3, v4, vI w] [vI w, vI x0, vR 2] I := runs_to (ins_of mI_30 (by rfl)) rfl rfl
theorem r30_36 : runs cal 30 36 [v0, v1, v2, vI w, v4, v5] [vI x0, vI x1, vR 2] I = runs cal 30 37 [v0, v1, v2, vI w, v4, v5] [vI w, vI x0, vI x1, vR 2] I := runs_to (ins_of mI_30 (by rfl)) rfl rfl
theorem r30_37 : runs cal 30 37 [v0, v1, v2, v3, v4, v5] [vI x0, vI x1, vI x2, vR 2] I = (cal 29 [vR 2, vI x2, vI x1, vI x0] I).bind (fun q => runs cal 30 40 [v0, v1, v2, v3, v4, v5] (pushR q.1 []) q.2) := st_call (st := false) (ins_of mI_30 (by rfl)) mC_30 mr_0_109 (by decide) mS_29 mN_29 rfl (Nat.le_of_ble_eq_true rfl) rfl rfl (Or.inr ⟨_, _, rfl, rcv mC_29 rfl wid_30 (by decide +kernel)⟩) (Or.inl (wid_30.trans wid_29.symm))
theorem r30_40 : runs cal 30 40 [vR 2, v1, v2, v3, v4, v5] [vI x0] I = runs cal 30 41 [vR 2, v1, v2, v3, v4, v5] [vR 2, vI x0] I := runs_to (ins_of mI_30 (by rfl)) rfl rfl
theorem r30_41 : runs cal 30 41 [v0, v1, v2, v3, v4, v5] [vR 2, vI x1] I = runs cal 30 44 [v0, v1, v2, v3, v4, v5] [vR 9, vI x1] I := st_getR (ins_of mI_30 (by rfl)) mC_30 (by decide) fr_0_34 cT_2 (wdc wid_30 wd_2) rfl rfl
theorem r30_44 : runs cal 30 44 [v0, v1, v2, v3, vI w, v5] [vR 9, vI x1] I = runs cal 30 46 [v0, v1, v2, v3, vI w, v5] [vI w, vR 9, vI x1] I := runs_to (ins_of mI_30 (by rfl)) rfl rfl
theorem r30_46 : runs cal 30 46 [v0, v1, v2, v3, v4, v5] [vI x0, vR 9, vI x2] I = if 0 ≤ x0 ∧ x0 < 2 then runs cal 30 47 [v0, v1, v2, v3, v4, v5] [vI (I 9 x0), vI x2] I else none := st_iald (ins_of mI_30 (by rfl)) cT_9 (wdc wid_30 wd_9)
theorem r30_47 : runs cal 30 47 [v0, v1, v2, v3, v4, v5] [vI x0, vI x1] I = if x0 < x1 then runs cal 30 50 [v0, v1, v2, v3, v4, v5] [] I else runs cal 30 52 [v0, v1, v2, v3, v4, v5] [] I := st_cmp_le (ins_of mI_30 (by rfl)) (by decide)
theorem r30_50 : runs cal 30 50 [v0, v1, v2, v3, v4, v5] [] I = runs cal 30 51 [v0, v1, v2, v3, v4, v5] [vI (0)] I := runs_to (ins_of mI_30 (by rfl)) rfl rfl
theorem r30_51 : runs cal 30 51 [v0, v1, v2, v3, v4, v5] [vI x0] I = if x0 = 0 ∨ x0 = 1 then some (some (vI x0), I) else none := st_retZ (ins_of mI_30 (by rfl)) mR_30 (Or.inl rfl)
theorem r30_52 : runs cal 30 52 [v0, v1, vI w, v3, v4, v5] [] I = runs cal 30 53 [v0, v1, vI w, v3, v4, v5] [vI w] I := runs_to (ins_of mI_30 (by rfl)) rfl rfl
theorem r30_53 : runs cal 30 53 [v0, v1, v2, v3, v4, vI w] [vI x0] I = runs cal 30 55 [v0, v1, v2, v3, v4, vI w] [vI w, vI x0] I := runs_to (ins_of mI_30 (by rfl)) rfl rfl
theorem r30_55 : runs cal 30 55 [v0, v1, v2, v3, v4, v5] [vI x0, vI x1] I = runs cal 30 56 [v0, v1, v2, v3, v4, v5] [vI (ior x1 x0)] I := runs_to (ins_of mI_30 (by rfl)) rfl rfl
theorem r30_56 : runs cal 30 56 [v0, vI u, v2, v3, v4, v5] [vI x0] I = runs cal 30 57 [v0, vI u, vI x0, v3, v4, v5] [] I := runs_to (ins_of mI_30 (by rfl)) rfl rfl
theorem r30_57 : runs cal 30 57 [v0, v1, v2, vI u, vI w, v5] [] I = runs cal 30 60 [v0, v1, v2, vI u, vI (iadd w (1)), v5] [] I := runs_to (ins_of mI_30 (by rfl)) rfl rfl
theorem r30_60 : runs cal 30 60 [v0, v1, v2, v3, v4, v5] [] I = runs cal 30 14 [v0, v1, v2, v3, v4, v5] [] I := st_goto (ins_of mI_30 (by rfl)) (by decide)
theorem r30_63 : runs cal 30 63 [vR 2, v1, v2, v3, v4, v5] [] I = runs cal 30 64 [vR 2, v1, v2, v3, v4, v5] [vR 2] I := runs_to (ins_of mI_30 (by rfl)) rfl rfl
theorem r30_64 : runs cal 30 64 [v0, vI w, v2, v3, v4, v5] [vR 2] I = runs cal 30 65 [v0, vI w, v2, v3, v4, v5] [vI w, vR 2] I := runs_to (ins_of mI_30 (by rfl)) rfl rfl
theorem r30_65 : runs cal 30 65 [v0, v1, v2, v3, v4, v5] [vI x0, vR 2] I = (cal 24 [vR 2, vI x0] I).bind (fun q => runs cal 30 68 [v0, v1, v2, v3, v4, v5] (pushR q.1 []) q.2) := st_call (st := false) (ins_of mI_30 (by rfl)) mC_30 mr_0_115 (by decide) mS_24 mN_24 rfl (Nat.le_of_ble_eq_true rfl) rfl rfl (Or.inr ⟨_, _, rfl, rcv mC_24 rfl wid_30 (by decide +kernel)⟩) (Or.inl (wid_30.trans wid_24.symm))
theorem r30_68 : runs cal 30 68 [v0, v1, vI w, v3, v4, v5] [vI x0] I = runs cal 30 69 [v0, v1, vI w, v3, v4, v5] [vI w, vI x0] I := runs_to (ins_of mI_30 (by rfl)) rfl rfl
theorem r30_69 : runs cal 30 69 [v0, v1, v2, v3, v4, v5] [vI x0, vI x1] I = runs cal 30 70 [v0, v1, v2, v3, v4, v5] [vI (-1), vI x0, vI x1] I := runs_to (ins_of mI_30 (by rfl)) rfl rfl
theorem r30_70 : runs cal 30 70 [v0, v1, v2, v3, v4, v5] [vI x0, vI x1, vI x2] I = runs cal 30 71 [v0, v1, v2, v3, v4, v5] [vI (ixor x1 x0), vI x2] I := runs_to (ins_of mI_30 (by rfl)) rfl rfl
theorem r30_71 : runs cal 30 71 [v0, v1, v2, v3, v4, v5] [vI x0, vI x1] I = runs cal 30 72 [v0, v1, v2, v3, v4, v5] [vI (iand x1 x0)] I := runs_to (ins_of mI_30 (by rfl)) rfl rfl
theorem r30_72 : runs cal 30 72 [v0, v1, v2, v3, v4, v5] [vI x0] I = if x0 = 0 then runs cal 30 75 [v0, v1, v2, v3, v4, v5] [] I else runs cal 30 79 [v0, v1, v2, v3, v4, v5] [] I := st_if_ne (ins_of mI_30 (by rfl)) (by decide)
theorem r30_75 : runs cal 30 75 [v0, v1, v2, v3, v4, v5] [] I = runs cal 30 76 [v0, v1, v2, v3, v4, v5] [vI (1)] I := runs_to (ins_of mI_30 (by rfl)) rfl rfl
theorem r30_76 : runs cal 30 76 [v0, v1, v2, v3, v4, v5] [vI x0] I = runs cal 30 80 [v0, v1, v2, v3, v4, v5] [vI x0] I := st_goto (ins_of mI_30 (by rfl)) (by decide)
theorem r30_79 : runs cal 30 79 [v0, v1, v2, v3, v4, v5] [] I = runs cal 30 80 [v0, v1, v2, v3, v4, v5] [vI (0)] I := runs_to (ins_of mI_30 (by rfl)) rfl rfl
theorem r30_80 : runs cal 30 80 [v0, v1, v2, v3, v4, v5] [vI x0] I = if x0 = 0 ∨ x0 = 1 then some (some (vI x0), I) else none := st_retZ (ins_of mI_30 (by rfl)) mR_30 (Or.inl rfl)
theorem r30_0a : runs cal 30 0 [vR 10, v1, v2, v3, v4, v5] [] I = runs cal 30 1 [vR 10, v1, v2, v3, v4, v5] [vR 10] I := runs_to (ins_of mI_30 (by rfl)) rfl rfl
theorem r30_1a : runs cal 30 1 [v0, v1, v2, v3, v4, v5] [vR 10] I = (cal 23 [vR 10] I).bind (fun q => runs cal 30 4 [v0, v1, v2, v3, v4, v5] (pushR q.1 []) q.2) := st_call (st := false) (ins_of mI_30 (by rfl)) mC_30 mr_0_99 (by decide) mS_23 mN_23 rfl (Nat.le_of_ble_eq_true rfl) rfl rfl (Or.inr ⟨_, _, rfl, rcv mC_23 rfl wid_30 (by decide +kernel)⟩) (Or.inl (wid_30.trans wid_23.symm))
theorem r30_5a : runs cal 30 5 [vR 10, v1, v2, v3, v4, v5] [] I = runs cal 30 6 [vR 10, v1, v2, v3, v4, v5] [vR 10] I := runs_to (ins_of mI_30 (by rfl)) rfl rfl
theorem r30_6a : runs cal 30 6 [v0, vI w, v2, v3, v4, v5] [vR 10] I = runs cal 30 7 [v0, vI w, v2, v3, v4, v5] [vI w, vR 10] I := runs_to (ins_of mI_30 (by rfl)) rfl rfl
theorem r30_7a : runs cal 30 7 [v0, v1, v2, v3, v4, v5] [vI x0, vR 10] I = (cal 17 [vR 10, vI x0] I).bind (fun q => runs cal 30 10 [v0, v1, v2, v3, v4, v5] (pushR q.1 []) q.2) := st_call (st := false) (ins_of mI_30 (by rfl)) mC_30 mr_0_106 (by decide) mS_17 mN_17 rfl (Nat.le_of_ble_eq_true rfl) rfl rfl (Or.inr ⟨_, _, rfl, rcv mC_17 rfl wid_30 (by decide +kernel)⟩) (Or.inl (wid_30.trans wid_17.symm))
theorem r30_16a : runs cal 30 16 [vR 10, v1, v2, v3, v4, v5] [vI x0] I = runs cal 30 17 [vR 10, v1, v2, v3, v4, v5] [vR 10, vI x0] I := runs_to (ins_of mI_30 (by rfl)) rfl rfl
theorem r30_17a : runs cal 30 17 [v0, v1, v2, v3, v4, v5] [vR 10, vI x1] I = runs cal 30 20 [v0, v1, v2, v3, v4, v5] [vI (I 10 3), vI x1] I := st_getI (ins_of mI_30 (by rfl)) mC_30 (by decide) fr_0_43 cT_10 (wdc wid_30 wd_10) (Or.inl rfl)
theorem r30_23a : runs cal 30 23 [vR 10, v1, v2, v3, v4, v5] [] I = runs cal 30 24 [vR 10, v1, v2, v3, v4, v5] [vR 10] I := runs_to (ins_of mI_30 (by rfl)) rfl rfl
theorem r30_24a : runs cal 30 24 [v0, vI w, v2, v3, v4, v5] [vR 10] I = runs cal 30 25 [v0, vI w, v2, v3, v4, v5] [vI w, vR 10] I := runs_to (ins_of mI_30 (by rfl)) rfl rfl
theorem r30_25a : runs cal 30 25 [v0, v1, v2, v3, vI w, v5] [vI x0, vR 10] I = runs cal 30 27 [v0, v1, v2, v3, vI w, v5] [vI w, vI x0, vR 10] I := runs_to (ins_of mI_30 (by rfl)) rfl rfl
theorem r30_27a : runs cal 30 27 [v0, v1, v2, v3, v4, v5] [vI x0, vI x1, vR 10] I = (cal 20 [vR 10, vI x1, vI x0] I).bind (fun q => runs cal 30 30 [v0, v1, v2, v3, v4, v5] (pushR q.1 []) q.2) := st_call (st := false) (ins_of mI_30 (by rfl)) mC_30 mr_0_92 (by decide) mS_20 mN_20 rfl (Nat.le_of_ble_eq_true rfl) rfl rfl (Or.inr ⟨_, _, rfl, rcv mC_20 rfl wid_30 (by decide +kernel)⟩) (Or.inl (wid_30.trans wid_20.symm))
theorem r30_32a : runs cal 30 32 [vR 10, v1, v2, v3, v4, v5] [] I = runs cal 30 33 [vR 10, v1, v2, v3, v4, v5] [vR 10] I := runs_to (ins_of mI_30 (by rfl)) rfl rfl
theorem r30_33a : runs cal 30 33 [v0, vI w, v2, v3, v4, v5] [vR 10] I = runs cal 30 34 [v0, vI w, v2, v3, v4, v5] [vI w, vR 10] I := runs_to (ins_of mI_30 (by rfl)) rfl rfl
theorem r30_34a : runs cal 30 34 [v0, v1, v2, v3, v4, vI w] [vI x0, vR 10] I = runs cal 30 36 [v0, v1, v2, v3, v4, vI w] [vI w, vI x0, vR 10] I := runs_to (ins_of mI_30 (by rfl)) rfl rfl
theorem r30_36a : runs cal 30 36 [v0, v1, v2, vI w, v4, v5] [vI x0, vI x1, vR 10] I = runs cal 30 37 [v0, v1, v2, vI w, v4, v5] [vI w, vI x0, vI x1, vR 10] I := runs_to (ins_of mI_30 (by rfl)) rfl rfl
theorem r30_37a : runs cal 30 37 [v0, v1, v2, v3, v4, v5] [vI x0, vI x1, vI x2, vR 10] I = (cal 29 [vR 10, vI x2, vI x1, vI x0] I).bind (fun q => runs cal 30 40 [v0, v1, v2, v3, v4, v5] (pushR q.1 []) q.2) := st_call (st := false) (ins_of mI_30 (by rfl)) mC_30 mr_0_109 (by decide) mS_29 mN_29 rfl (Nat.le_of_ble_eq_true rfl) rfl rfl (Or.inr ⟨_, _, rfl, rcv mC_29 rfl wid_30 (by decide +kernel)⟩) (Or.inl (wid_30.trans wid_29.symm))
theorem r30_40a : runs cal 30 40 [vR 10, v1, v2, v3, v4, v5] [vI x0] I = runs cal 30 41 [vR 10, v1, v2, v3, v4, v5] [vR 10, vI x0] I := runs_to (ins_of mI_30 (by rfl)) rfl rfl
theorem r30_41a : runs cal 30 41 [v0, v1, v2, v3, v4, v5] [vR 10, vI x1] I = runs cal 30 44 [v0, v1, v2, v3, v4, v5] [vR 17, vI x1] I := st_getR (ins_of mI_30 (by rfl)) mC_30 (by decide) fr_0_34 cT_10 (wdc wid_30 wd_10) rfl rfl
theorem r30_44a : runs cal 30 44 [v0, v1, v2, v3, vI w, v5] [vR 17, vI x1] I = runs cal 30 46 [v0, v1, v2, v3, vI w, v5] [vI w, vR 17, vI x1] I := runs_to (ins_of mI_30 (by rfl)) rfl rfl
theorem r30_46a : runs cal 30 46 [v0, v1, v2, v3, v4, v5] [vI x0, vR 17, vI x2] I = if 0 ≤ x0 ∧ x0 < 2 then runs cal 30 47 [v0, v1, v2, v3, v4, v5] [vI (I 17 x0), vI x2] I else none := st_iald (ins_of mI_30 (by rfl)) cT_17 (wdc wid_30 wd_17)
theorem r30_63a : runs cal 30 63 [vR 10, v1, v2, v3, v4, v5] [] I = runs cal 30 64 [vR 10, v1, v2, v3, v4, v5] [vR 10] I := runs_to (ins_of mI_30 (by rfl)) rfl rfl
theorem r30_64a : runs cal 30 64 [v0, vI w, v2, v3, v4, v5] [vR 10] I = runs cal 30 65 [v0, vI w, v2, v3, v4, v5] [vI w, vR 10] I := runs_to (ins_of mI_30 (by rfl)) rfl rfl
theorem r30_65a : runs cal 30 65 [v0, v1, v2, v3, v4, v5] [vI x0, vR 10] I = (cal 24 [vR 10, vI x0] I).bind (fun q => runs cal 30 68 [v0, v1, v2, v3, v4, v5] (pushR q.1 []) q.2) := st_call (st := false) (ins_of mI_30 (by rfl)) mC_30 mr_0_115 (by decide) mS_24 mN_24 rfl (Nat.le_of_ble_eq_true rfl) rfl rfl (Or.inr ⟨_, _, rfl, rcv mC_24 rfl wid_30 (by decide +kernel)⟩) (Or.inl (wid_30.trans wid_24.symm))
theorem r31_0 : runs cal 31 0 [v0, vI w, v2, v3, v4] [] I = runs cal 31 1 [v0, vI w, v2, v3, v4] [vI w] I := runs_to (ins_of mI_31 (by rfl)) rfl rfl
theorem r31_1 : runs cal 31 1 [v0, v1, v2, v3, v4] [vI x0] I = if x0 < 0 then runs cal 31 24 [v0, v1, v2, v3, v4] [] I else runs cal 31 4 [v0, v1, v2, v3, v4] [] I := st_if_lt (ins_of mI_31 (by rfl)) (by decide)
theorem r31_4 : runs cal 31 4 [v0, vI w, v2, v3, v4] [] I = runs cal 31 5 [v0, vI w, v2, v3, v4] [vI w] I := runs_to (ins_of mI_31 (by rfl)) rfl rfl
theorem r31_5 : runs cal 31 5 [v0, v1, v2, v3, v4] [vI x0] I = runs cal 31 8 [v0, v1, v2, v3, v4] [vI (1280), vI x0] I := runs_to (ins_of mI_31 (by rfl)) rfl rfl
theorem r31_8 : runs cal 31 8 [v0, v1, v2, v3, v4] [vI x0, vI x1] I = if x1 < x0 then runs cal 31 11 [v0, v1, v2, v3, v4] [] I else runs cal 31 24 [v0, v1, v2, v3, v4] [] I := st_cmp_ge (ins_of mI_31 (by rfl)) (by decide)
theorem r31_11 : runs cal 31 11 [v0, vI w, v2, v3, v4] [] I = runs cal 31 12 [v0, vI w, v2, v3, v4] [vI w] I := runs_to (ins_of mI_31 (by rfl)) rfl rfl
theorem r31_12 : runs cal 31 12 [v0, v1, v2, v3, v4] [vI x0] I = runs cal 31 14 [v0, v1, v2, v3, v4] [vI (6), vI x0] I := runs_to (ins_of mI_31 (by rfl)) rfl rfl
theorem r31_14 : runs cal 31 14 [v0, v1, v2, v3, v4] [vI x0, vI x1] I = runs cal 31 15 [v0, v1, v2, v3, v4] [vI (ishr x1 x0)] I := runs_to (ins_of mI_31 (by rfl)) rfl rfl
theorem r31_15 : runs cal 31 15 [v0, v1, v2, v3, v4] [vI x0] I = runs cal 31 16 [v0, v1, v2, v3, v4] [vI (3), vI x0] I := runs_to (ins_of mI_31 (by rfl)) rfl rfl
theorem r31_16 : runs cal 31 16 [v0, v1, v2, v3, v4] [vI x0, vI x1] I = runs cal 31 17 [v0, v1, v2, v3, v4] [vI (iand x1 x0)] I := runs_to (ins_of mI_31 (by rfl)) rfl rfl
theorem r31_17 : runs cal 31 17 [vR 2, v1, v2, v3, v4] [vI x0] I = runs cal 31 18 [vR 2, v1, v2, v3, v4] [vR 2, vI x0] I := runs_to (ins_of mI_31 (by rfl)) rfl rfl
theorem r31_18 : runs cal 31 18 [v0, v1, v2, v3, v4] [vR 2, vI x1] I = runs cal 31 21 [v0, v1, v2, v3, v4] [vI (I 2 2), vI x1] I := st_getI (ins_of mI_31 (by rfl)) mC_31 (by decide) fr_0_40 cT_2 (wdc wid_31 wd_2) (Or.inl rfl)
theorem r31_21 : runs cal 31 21 [v0, v1, v2, v3, v4] [vI x0, vI x1] I = if x1 < x0 then runs cal 31 26 [v0, v1, v2, v3, v4] [] I else runs cal 31 24 [v0, v1, v2, v3, v4] [] I := st_cmp_lt (ins_of mI_31 (by rfl)) (by decide)
theorem r31_24 : runs cal 31 24 [v0, v1, v2, v3, v4] [] I = runs cal 31 25 [v0, v1, v2, v3, v4] [vI (0)] I := runs_to (ins_of mI_31 (by rfl)) rfl rfl
theorem r31_25 : runs cal 31 25 [v0, v1, v2, v3, v4] [vI x0] I = if x0 = 0 ∨ x0 = 1 then some (some (vI x0), I) else none := st_retZ (ins_of mI_31 (by rfl)) mR_31 (Or.inl rfl)
theorem r31_26 : runs cal 31 26 [v0, vI w, v2, v3, v4] [] I = runs cal 31 27 [v0, vI w, v2, v3, v4] [vI w] I := runs_to (ins_of mI_31 (by rfl)) rfl rfl
theorem r31_27 : runs cal 31 27 [v0, v1, v2, v3, v4] [vI x0] I = runs cal 31 29 [v0, v1, v2, v3, v4] [vI (8), vI x0] I := runs_to (ins_of mI_31 (by rfl)) rfl rfl
theorem r31_29 : runs cal 31 29 [v0, v1, v2, v3, v4] [vI x0, vI x1] I = runs cal 31 30 [v0, v1, v2, v3, v4] [vI (ishr x1 x0)] I := runs_to (ins_of mI_31 (by rfl)) rfl rfl
theorem r31_30 : runs cal 31 30 [v0, vI u, v2, v3, v4] [vI x0] I = runs cal 31 31 [v0, vI u, vI x0, v3, v4] [] I := runs_to (ins_of mI_31 (by rfl)) rfl rfl
theorem r31_31 : runs cal 31 31 [v0, vI w, v2, v3, v4] [] I = runs cal 31 32 [v0, vI w, v2, v3, v4] [vI w] I := runs_to (ins_of mI_31 (by rfl)) rfl rfl
theorem r31_32 : runs cal 31 32 [v0, v1, v2, v3, v4] [vI x0] I = runs cal 31 33 [v0, v1, v2, v3, v4] [vI (3), vI x0] I := runs_to (ins_of mI_31 (by rfl)) rfl rfl
theorem r31_33 : runs cal 31 33 [v0, v1, v2, v3, v4] [vI x0, vI x1] I = runs cal 31 34 [v0, v1, v2, v3, v4] [vI (ishr x1 x0)] I := runs_to (ins_of mI_31 (by rfl)) rfl rfl
theorem r31_34 : runs cal 31 34 [v0, v1, v2, v3, v4] [vI x0] I = runs cal 31 36 [v0, v1, v2, v3, v4] [vI (7), vI x0] I := runs_to (ins_of mI_31 (by rfl)) rfl rfl
theorem r31_36 : runs cal 31 36 [v0, v1, v2, v3, v4] [vI x0, vI x1] I = runs cal 31 37 [v0, v1, v2, v3, v4] [vI (iand x1 x0)] I := runs_to (ins_of mI_31 (by rfl)) rfl rfl
theorem r31_37 : runs cal 31 37 [v0, v1, vI u, v3, v4] [vI x0] I = runs cal 31 38 [v0, v1, vI u, vI x0, v4] [] I := runs_to (ins_of mI_31 (by rfl)) rfl rfl
theorem r31_38 : runs cal 31 38 [v0, vI w, v2, v3, v4] [] I = runs cal 31 39 [v0, vI w, v2, v3, v4] [vI w] I := runs_to (ins_of mI_31 (by rfl)) rfl rfl
theorem r31_39 : runs cal 31 39 [v0, v1, v2, v3, v4] [vI x0] I = runs cal 31 41 [v0, v1, v2, v3, v4] [vI (7), vI x0] I := runs_to (ins_of mI_31 (by rfl)) rfl rfl
theorem r31_41 : runs cal 31 41 [v0, v1, v2, v3, v4] [vI x0, vI x1] I = runs cal 31 42 [v0, v1, v2, v3, v4] [vI (iand x1 x0)] I := runs_to (ins_of mI_31 (by rfl)) rfl rfl
theorem r31_42 : runs cal 31 42 [v0, v1, v2, vI u, v4] [vI x0] I = runs cal 31 44 [v0, v1, v2, vI u, vI x0] [] I := runs_to (ins_of mI_31 (by rfl)) rfl rfl
theorem r31_44 : runs cal 31 44 [v0, v1, vI w, v3, v4] [] I = runs cal 31 45 [v0, v1, vI w, v3, v4] [vI w] I := runs_to (ins_of mI_31 (by rfl)) rfl rfl
theorem r31_45 : runs cal 31 45 [v0, v1, v2, v3, v4] [vI x0] I = if x0 = 0 then runs cal 31 53 [v0, v1, v2, v3, v4] [] I else runs cal 31 48 [v0, v1, v2, v3, v4] [] I := st_if_eq (ins_of mI_31 (by rfl)) (by decide)
theorem r31_48 : runs cal 31 48 [v0, v1, vI w, v3, v4] [] I = runs cal 31 49 [v0, v1, vI w, v3, v4] [vI w] I := runs_to (ins_of mI_31 (by rfl)) rfl rfl
theorem r31_49 : runs cal 31 49 [v0, v1, v2, v3, v4] [vI x0] I = runs cal 31 50 [v0, v1, v2, v3, v4] [vI (4), vI x0] I := runs_to (ins_of mI_31 (by rfl)) rfl rfl
theorem r31_50 : runs cal 31 50 [v0, v1, v2, v3, v4] [vI x0, vI x1] I = if x1 = x0 then runs cal 31 53 [v0, v1, v2, v3, v4] [] I else runs cal 31 69 [v0, v1, v2, v3, v4] [] I := st_cmp_ne (ins_of mI_31 (by rfl)) (by decide)
theorem r31_53 : runs cal 31 53 [v0, v1, v2, vI w, v4] [] I = runs cal 31 54 [v0, v1, v2, vI w, v4] [vI w] I := runs_to (ins_of mI_31 (by rfl)) rfl rfl
theorem r31_54 : runs cal 31 54 [v0, v1, v2, v3, v4] [vI x0] I = runs cal 31 55 [v0, v1, v2, v3, v4] [vI (2), vI x0] I := runs_to (ins_of mI_31 (by rfl)) rfl rfl
theorem r31_55 : runs cal 31 55 [v0, v1, v2, v3, v4] [vI x0, vI x1] I = if x1 < x0 then runs cal 31 58 [v0, v1, v2, v3, v4] [] I else runs cal 31 67 [v0, v1, v2, v3, v4] [] I := st_cmp_ge (ins_of mI_31 (by rfl)) (by decide)
theorem r31_58 : runs cal 31 58 [v0, v1, v2, v3, vI w] [] I = runs cal 31 60 [v0, v1, v2, v3, vI w] [vI w] I := runs_to (ins_of mI_31 (by rfl)) rfl rfl
theorem r31_60 : runs cal 31 60 [v0, v1, v2, v3, v4] [vI x0] I = if x0 = 0 then runs cal 31 63 [v0, v1, v2, v3, v4] [] I else runs cal 31 67 [v0, v1, v2, v3, v4] [] I := st_if_ne (ins_of mI_31 (by rfl)) (by decide)
theorem r31_63 : runs cal 31 63 [v0, v1, v2, v3, v4] [] I = runs cal 31 64 [v0, v1, v2, v3, v4] [vI (1)] I := runs_to (ins_of mI_31 (by rfl)) rfl rfl
theorem r31_64 : runs cal 31 64 [v0, v1, v2, v3, v4] [vI x0] I = runs cal 31 68 [v0, v1, v2, v3, v4] [vI x0] I := st_goto (ins_of mI_31 (by rfl)) (by decide)
theorem r31_67 : runs cal 31 67 [v0, v1, v2, v3, v4] [] I = runs cal 31 68 [v0, v1, v2, v3, v4] [vI (0)] I := runs_to (ins_of mI_31 (by rfl)) rfl rfl
theorem r31_68 : runs cal 31 68 [v0, v1, v2, v3, v4] [vI x0] I = if x0 = 0 ∨ x0 = 1 then some (some (vI x0), I) else none := st_retZ (ins_of mI_31 (by rfl)) mR_31 (Or.inl rfl)
theorem r31_69 : runs cal 31 69 [v0, v1, v2, vI w, v4] [] I = runs cal 31 70 [v0, v1, v2, vI w, v4] [vI w] I := runs_to (ins_of mI_31 (by rfl)) rfl rfl
theorem r31_70 : runs cal 31 70 [vR 2, v1, v2, v3, v4] [vI x0] I = runs cal 31 71 [vR 2, v1, v2, v3, v4] [vR 2, vI x0] I := runs_to (ins_of mI_31 (by rfl)) rfl rfl
theorem r31_71 : runs cal 31 71 [v0, v1, v2, v3, v4] [vR 2, vI x1] I = runs cal 31 74 [v0, v1, v2, v3, v4] [vI (I 2 3), vI x1] I := st_getI (ins_of mI_31 (by rfl)) mC_31 (by decide) fr_0_43 cT_2 (wdc wid_31 wd_2) (Or.inl rfl)
theorem r31_74 : runs cal 31 74 [v0, v1, v2, v3, v4] [vI x0, vI x1] I = if x1 < x0 then runs cal 31 79 [v0, v1, v2, v3, v4] [] I else runs cal 31 77 [v0, v1, v2, v3, v4] [] I := st_cmp_lt (ins_of mI_31 (by rfl)) (by decide)
theorem r31_77 : runs cal 31 77 [v0, v1, v2, v3, v4] [] I = runs cal 31 78 [v0, v1, v2, v3, v4] [vI (0)] I := runs_to (ins_of mI_31 (by rfl)) rfl rfl
theorem r31_78 : runs cal 31 78 [v0, v1, v2, v3, v4] [vI x0] I = if x0 = 0 ∨ x0 = 1 then some (some (vI x0), I) else none := st_retZ (ins_of mI_31 (by rfl)) mR_31 (Or.inl rfl)
theorem r31_79 : runs cal 31 79 [v0, v1, vI w, v3, v4] [] I = runs cal 31 80 [v0, v1, vI w, v3, v4] [vI w] I := runs_to (ins_of mI_31 (by rfl)) rfl rfl
theorem r31_80 : runs cal 31 80 [v0, v1, v2, v3, v4] [vI x0] I = runs cal 31 81 [v0, v1, v2, v3, v4] [vI (1), vI x0] I := runs_to (ins_of mI_31 (by rfl)) rfl rfl
theorem r31_81 : runs cal 31 81 [v0, v1, v2, v3, v4] [vI x0, vI x1] I = if x1 = x0 then runs cal 31 84 [v0, v1, v2, v3, v4] [] I else runs cal 31 96 [v0, v1, v2, v3, v4] [] I := st_cmp_ne (ins_of mI_31 (by rfl)) (by decide)
theorem r31_84 : runs cal 31 84 [v0, v1, v2, v3, vI w] [] I = runs cal 31 86 [v0, v1, v2, v3, vI w] [vI w] I := runs_to (ins_of mI_31 (by rfl)) rfl rfl
theorem r31_86 : runs cal 31 86 [v0, v1, v2, v3, v4] [vI x0] I = runs cal 31 87 [v0, v1, v2, v3, v4] [vI (2), vI x0] I := runs_to (ins_of mI_31 (by rfl)) rfl rfl
theorem r31_87 : runs cal 31 87 [v0, v1, v2, v3, v4] [vI x0, vI x1] I = if x1 < x0 then runs cal 31 90 [v0, v1, v2, v3, v4] [] I else runs cal 31 94 [v0, v1, v2, v3, v4] [] I := st_cmp_ge (ins_of mI_31 (by rfl)) (by decide)
theorem r31_90 : runs cal 31 90 [v0, v1, v2, v3, v4] [] I = runs cal 31 91 [v0, v1, v2, v3, v4] [vI (1)] I := runs_to (ins_of mI_31 (by rfl)) rfl rfl
theorem r31_91 : runs cal 31 91 [v0, v1, v2, v3, v4] [vI x0] I = runs cal 31 95 [v0, v1, v2, v3, v4] [vI x0] I := st_goto (ins_of mI_31 (by rfl)) (by decide)
theorem r31_94 : runs cal 31 94 [v0, v1, v2, v3, v4] [] I = runs cal 31 95 [v0, v1, v2, v3, v4] [vI (0)] I := runs_to (ins_of mI_31 (by rfl)) rfl rfl
theorem r31_95 : runs cal 31 95 [v0, v1, v2, v3, v4] [vI x0] I = if x0 = 0 ∨ x0 = 1 then some (some (vI x0), I) else none := st_retZ (ins_of mI_31 (by rfl)) mR_31 (Or.inl rfl)
theorem r31_96 : runs cal 31 96 [v0, v1, vI w, v3, v4] [] I = runs cal 31 97 [v0, v1, vI w, v3, v4] [vI w] I := runs_to (ins_of mI_31 (by rfl)) rfl rfl
theorem r31_97 : runs cal 31 97 [v0, v1, v2, v3, v4] [vI x0] I = runs cal 31 98 [v0, v1, v2, v3, v4] [vI (2), vI x0] I := runs_to (ins_of mI_31 (by rfl)) rfl rfl
theorem r31_98 : runs cal 31 98 [v0, v1, v2, v3, v4] [vI x0, vI x1] I = if x1 = x0 then runs cal 31 101 [v0, v1, v2, v3, v4] [] I else runs cal 31 114 [v0, v1, v2, v3, v4] [] I := st_cmp_ne (ins_of mI_31 (by rfl)) (by decide)
theorem r31_101 : runs cal 31 101 [v0, v1, v2, v3, vI w] [] I = runs cal 31 103 [v0, v1, v2, v3, vI w] [vI w] I := runs_to (ins_of mI_31 (by rfl)) rfl rfl
theorem r31_103 : runs cal 31 103 [v0, v1, v2, v3, v4] [vI x0] I = if x0 = 0 then runs cal 31 106 [v0, v1, v2, v3, v4] [] I else runs cal 31 110 [v0, v1, v2, v3, v4] [] I := st_if_ne (ins_of mI_31 (by rfl)) (by decide)
theorem r31_106 : runs cal 31 106 [v0, v1, v2, v3, v4] [] I = runs cal 31 107 [v0, v1, v2, v3, v4] [vI (1)] I := runs_to (ins_of mI_31 (by rfl)) rfl rfl
theorem r31_107 : runs cal 31 107 [v0, v1, v2, v3, v4] [vI x0] I = runs cal 31 128 [v0, v1, v2, v3, v4] [vI x0] I := st_goto (ins_of mI_31 (by rfl)) (by decide)
theorem r31_110 : runs cal 31 110 [v0, v1, v2, v3, v4] [] I = runs cal 31 111 [v0, v1, v2, v3, v4] [vI (0)] I := runs_to (ins_of mI_31 (by rfl)) rfl rfl
theorem r31_111 : runs cal 31 111 [v0, v1, v2, v3, v4] [vI x0] I = runs cal 31 128 [v0, v1, v2, v3, v4] [vI x0] I := st_goto (ins_of mI_31 (by rfl)) (by decide)
theorem r31_114 : runs cal 31 114 [v0, v1, v2, v3, vI w] [] I = runs cal 31 116 [v0, v1, v2, v3, vI w] [vI w] I := runs_to (ins_of mI_31 (by rfl)) rfl rfl
theorem r31_116 : runs cal 31 116 [vR 2, v1, v2, v3, v4] [vI x0] I = runs cal 31 117 [vR 2, v1, v2, v3, v4] [vR 2, vI x0] I := runs_to (ins_of mI_31 (by rfl)) rfl rfl
theorem r31_117 : runs cal 31 117 [v0, v1, v2, v3, v4] [vR 2, vI x1] I = runs cal 31 120 [v0, v1, v2, v3, v4] [vI (I 2 2), vI x1] I := st_getI (ins_of mI_31 (by rfl)) mC_31 (by decide) fr_0_40 cT_2 (wdc wid_31 wd_2) (Or.inl rfl)
theorem r31_120 : runs cal 31 120 [v0, v1, v2, v3, v4] [vI x0, vI x1] I = if x1 < x0 then runs cal 31 123 [v0, v1, v2, v3, v4] [] I else runs cal 31 127 [v0, v1, v2, v3, v4] [] I := st_cmp_ge (ins_of mI_31 (by rfl)) (by decide)
theorem r31_123 : runs cal 31 123 [v0, v1, v2, v3, v4] [] I = runs cal 31 124 [v0, v1, v2, v3, v4] [vI (1)] I := runs_to (ins_of mI_31 (by rfl)) rfl rfl
theorem r31_124 : runs cal 31 124 [v0, v1, v2, v3, v4] [vI x0] I = runs cal 31 128 [v0, v1, v2, v3, v4] [vI x0] I := st_goto (ins_of mI_31 (by rfl)) (by decide)
theorem r31_127 : runs cal 31 127 [v0, v1, v2, v3, v4] [] I = runs cal 31 128 [v0, v1, v2, v3, v4] [vI (0)] I := runs_to (ins_of mI_31 (by rfl)) rfl rfl
theorem r31_128 : runs cal 31 128 [v0, v1, v2, v3, v4] [vI x0] I = if x0 = 0 ∨ x0 = 1 then some (some (vI x0), I) else none := st_retZ (ins_of mI_31 (by rfl)) mR_31 (Or.inl rfl)
theorem r32_0 : runs cal 32 0 [vR 2, v1, v2, v3, v4, v5, v6, v7, v8, v9] [] I = runs cal 32 1 [vR 2, v1, v2, v3, v4, v5, v6, v7, v8, v9] [vR 2] I := runs_to (ins_of mI_32 (by rfl)) rfl rfl
theorem r32_1 : runs cal 32 1 [v0, v1, vI w, v3, v4, v5, v6, v7, v8, v9] [vR 2] I = runs cal 32 2 [v0, v1, vI w, v3, v4, v5, v6, v7, v8, v9] [vI w, vR 2] I := runs_to (ins_of mI_32 (by rfl)) rfl rfl
theorem r32_2 : runs cal 32 2 [v0, v1, v2, v3, v4, v5, v6, v7, v8, v9] [vI x0, vR 2] I = (cal 31 [vR 2, vI x0] I).bind (fun q => runs cal 32 5 [v0, v1, v2, v3, v4, v5, v6, v7, v8, v9] (pushR q.1 []) q.2) := st_call (st := false) (ins_of mI_32 (by rfl)) mC_32 mr_0_118 (by decide) mS_31 mN_31 rfl (Nat.le_of_ble_eq_true rfl) rfl rfl (Or.inr ⟨_, _, rfl, rcv mC_31 rfl wid_32 (by decide +kernel)⟩) (Or.inl (wid_32.trans wid_31.symm))
theorem r32_5 : runs cal 32 5 [v0, v1, v2, v3, v4, v5, v6, v7, v8, v9] [vI x0] I = if x0 = 0 then runs cal 32 8 [v0, v1, v2, v3, v4, v5, v6, v7, v8, v9] [] I else runs cal 32 10 [v0, v1, v2, v3, v4, v5, v6, v7, v8, v9] [] I := st_if_ne (ins_of mI_32 (by rfl)) (by decide)
theorem r32_8 : runs cal 32 8 [v0, v1, v2, v3, v4, v5, v6, v7, v8, v9] [] I = runs cal 32 9 [v0, v1, v2, v3, v4, v5, v6, v7, v8, v9] [vI (-1)] I := runs_to (ins_of mI_32 (by rfl)) rfl rfl
theorem r32_9 : runs cal 32 9 [v0, v1, v2, v3, v4, v5, v6, v7, v8, v9] [vI x0] I = some (some (vI x0), I) := st_ret (q := some (vI x0)) (k := 0) (ins_of mI_32 (by rfl)) rfl (by decide) mR_32 rfl trivial
theorem r32_10 : runs cal 32 10 [v0, v1, vI w, v3, v4, v5, v6, v7, v8, v9] [] I = runs cal 32 11 [v0, v1, vI w, v3, v4, v5, v6, v7, v8, v9] [vI w] I := runs_to (ins_of mI_32 (by rfl)) rfl rfl
theorem r32_11 : runs cal 32 11 [v0, v1, v2, v3, v4, v5, v6, v7, v8, v9] [vI x0] I = runs cal 32 13 [v0, v1, v2, v3, v4, v5, v6, v7, v8, v9] [vI (8), vI x0] I := runs_to (ins_of mI_32 (by rfl)) rfl rfl
theorem r32_13 : runs cal 32 13 [v0, v1, v2, v3, v4, v5, v6, v7, v8, v9] [vI x0, vI x1] I = runs cal 32 14 [v0, v1, v2, v3, v4, v5, v6, v7, v8, v9] [vI (ishr x1 x0)] I := runs_to (ins_of mI_32 (by rfl)) rfl rfl
theorem r32_14 : runs cal 32 14 [v0, v1, vI u, v3, v4, v5, v6, v7, v8, v9] [vI x0] I = runs cal 32 15 [v0, v1, vI u, vI x0, v4, v5, v6, v7, v8, v9] [] I := runs_to (ins_of mI_32 (by rfl)) rfl rfl
theorem r32_15 : runs cal 32 15 [v0, v1, vI w, v3, v4, v5, v6, v7, v8, v9] [] I = runs cal 32 16 [v0, v1, vI w, v3, v4, v5, v6, v7, v8, v9] [vI w] I := runs_to (ins_of mI_32 (by rfl)) rfl rfl
theorem r32_16 : runs cal 32 16 [v0, v1, v2, v3, v4, v5, v6, v7, v8, v9] [vI x0] I = runs cal 32 18 [v0, v1, v2, v3, v4, v5, v6, v7, v8, v9] [vI (6), vI x0] I := runs_to (ins_of mI_32 (by rfl)) rfl rfl
theorem r32_18 : runs cal 32 18 [v0, v1, v2, v3, v4, v5, v6, v7, v8, v9] [vI x0, vI x1] I = runs cal 32 19 [v0, v1, v2, v3, v4, v5, v6, v7, v8, v9] [vI (ishr x1 x0)] I := runs_to (ins_of mI_32 (by rfl)) rfl rfl
theorem r32_19 : runs cal 32 19 [v0, v1, v2, v3, v4, v5, v6, v7, v8, v9] [vI x0] I = runs cal 32 20 [v0, v1, v2, v3, v4, v5, v6, v7, v8, v9] [vI (3), vI x0] I := runs_to (ins_of mI_32 (by rfl)) rfl rfl
theorem r32_20 : runs cal 32 20 [v0, v1, v2, v3, v4, v5, v6, v7, v8, v9] [vI x0, vI x1] I = runs cal 32 21 [v0, v1, v2, v3, v4, v5, v6, v7, v8, v9] [vI (iand x1 x0)] I := runs_to (ins_of mI_32 (by rfl)) rfl rfl
theorem r32_21 : runs cal 32 21 [v0, v1, v2, vI u, v4, v5, v6, v7, v8, v9] [vI x0] I = runs cal 32 23 [v0, v1, v2, vI u, vI x0, v5, v6, v7, v8, v9] [] I := runs_to (ins_of mI_32 (by rfl)) rfl rfl
theorem r32_23 : runs cal 32 23 [v0, v1, vI w, v3, v4, v5, v6, v7, v8, v9] [] I = runs cal 32 24 [v0, v1, vI w, v3, v4, v5, v6, v7, v8, v9] [vI w] I := runs_to (ins_of mI_32 (by rfl)) rfl rfl
theorem r32_24 : runs cal 32 24 [v0, v1, v2, v3, v4, v5, v6, v7, v8, v9] [vI x0] I = runs cal 32 25 [v0, v1, v2, v3, v4, v5, v6, v7, v8, v9] [vI (3), vI x0] I := runs_to (ins_of mI_32 (by rfl)) rfl rfl
theorem r32_25 : runs cal 32 25 [v0, v1, v2, v3, v4, v5, v6, v7, v8, v9] [vI x0, vI x1] I = runs cal 32 26 [v0, v1, v2, v3, v4, v5, v6, v7, v8, v9] [vI (ishr x1 x0)] I := runs_to (ins_of mI_32 (by rfl)) rfl rfl
theorem r32_26 : runs cal 32 26 [v0, v1, v2, v3, v4, v5, v6, v7, v8, v9] [vI x0] I = runs cal 32 28 [v0, v1, v2, v3, v4, v5, v6, v7, v8, v9] [vI (7), vI x0] I := runs_to (ins_of mI_32 (by rfl)) rfl rfl
theorem r32_28 : runs cal 32 28 [v0, v1, v2, v3, v4, v5, v6, v7, v8, v9] [vI x0, vI x1] I = runs cal 32 29 [v0, v1, v2, v3, v4, v5, v6, v7, v8, v9] [vI (iand x1 x0)] I := runs_to (ins_of mI_32 (by rfl)) rfl rfl
theorem r32_29 : runs cal 32 29 [v0, v1, v2, v3, vI u, v5, v6, v7, v8, v9] [vI x0] I = runs cal 32 31 [v0, v1, v2, v3, vI u, vI x0, v6, v7, v8, v9] [] I := runs_to (ins_of mI_32 (by rfl)) rfl rfl
theorem r32_31 : runs cal 32 31 [v0, v1, vI w, v3, v4, v5, v6, v7, v8, v9] [] I = runs cal 32 32 [v0, v1, vI w, v3, v4, v5, v6, v7, v8, v9] [vI w] I := runs_to (ins_of mI_32 (by rfl)) rfl rfl
theorem r32_32 : runs cal 32 32 [v0, v1, v2, v3, v4, v5, v6, v7, v8, v9] [vI x0] I = runs cal 32 34 [v0, v1, v2, v3, v4, v5, v6, v7, v8, v9] [vI (7), vI x0] I := runs_to (ins_of mI_32 (by rfl)) rfl rfl
theorem r32_34 : runs cal 32 34 [v0, v1, v2, v3, v4, v5, v6, v7, v8, v9] [vI x0, vI x1] I = runs cal 32 35 [v0, v1, v2, v3, v4, v5, v6, v7, v8, v9] [vI (iand x1 x0)] I := runs_to (ins_of mI_32 (by rfl)) rfl rfl
theorem r32_35 : runs cal 32 35 [v0, v1, v2, v3, v4, vI u, v6, v7, v8, v9] [vI x0] I = runs cal 32 37 [v0, v1, v2, v3, v4, vI u, vI x0, v7, v8, v9] [] I := runs_to (ins_of mI_32 (by rfl)) rfl rfl
theorem r32_37 : runs cal 32 37 [v0, v1, v2, vI w, v4, v5, v6, v7, v8, v9] [] I = runs cal 32 38 [v0, v1, v2, vI w, v4, v5, v6, v7, v8, v9] [vI w] I := runs_to (ins_of mI_32 (by rfl)) rfl rfl
theorem r32_38 : runs cal 32 38 [v0, v1, v2, v3, v4, v5, v6, v7, v8, v9] [vI x0] I = runs cal 32 39 [v0, v1, v2, v3, v4, v5, v6, v7, v8, v9] [vI (1), vI x0] I := runs_to (ins_of mI_32 (by rfl)) rfl rfl
theorem r32_39 : runs cal 32 39 [v0, v1, v2, v3, v4, v5, v6, v7, v8, v9] [vI x0, vI x1] I = if x1 = x0 then runs cal 32 47 [v0, v1, v2, v3, v4, v5, v6, v7, v8, v9] [] I else runs cal 32 42 [v0, v1, v2, v3, v4, v5, v6, v7, v8, v9] [] I := st_cmp_eq (ins_of mI_32 (by rfl)) (by decide)
theorem r32_42 : runs cal 32 42 [v0, v1, v2, vI w, v4, v5, v6, v7, v8, v9] [] I = runs cal 32 43 [v0, v1, v2, vI w, v4, v5, v6, v7, v8, v9] [vI w] I := runs_to (ins_of mI_32 (by rfl)) rfl rfl
theorem r32_43 : runs cal 32 43 [v0, v1, v2, v3, v4, v5, v6, v7, v8, v9] [vI x0] I = runs cal 32 44 [v0, v1, v2, v3, v4, v5, v6, v7, v8, v9] [vI (3), vI x0] I := runs_to (ins_of mI_32 (by rfl)) rfl rfl
theorem r32_44 : runs cal 32 44 [v0, v1, v2, v3, v4, v5, v6, v7, v8, v9] [vI x0, vI x1] I = if x1 = x0 then runs cal 32 47 [v0, v1, v2, v3, v4, v5, v6, v7, v8, v9] [] I else runs cal 32 51 [v0, v1, v2, v3, v4, v5, v6, v7, v8, v9] [] I := st_cmp_ne (ins_of mI_32 (by rfl)) (by decide)
theorem r32_47 : runs cal 32 47 [v0, v1, v2, v3, v4, v5, v6, v7, v8, v9] [] I = runs cal 32 48 [v0, v1, v2, v3, v4, v5, v6, v7, v8, v9] [vI (1)] I := runs_to (ins_of mI_32 (by rfl)) rfl rfl
theorem r32_48 : runs cal 32 48 [v0, v1, v2, v3, v4, v5, v6, v7, v8, v9] [vI x0] I = runs cal 32 52 [v0, v1, v2, v3, v4, v5, v6, v7, v8, v9] [vI x0] I := st_goto (ins_of mI_32 (by rfl)) (by decide)
theorem r32_51 : runs cal 32 51 [v0, v1, v2, v3, v4, v5, v6, v7, v8, v9] [] I = runs cal 32 52 [v0, v1, v2, v3, v4, v5, v6, v7, v8, v9] [vI (0)] I := runs_to (ins_of mI_32 (by rfl)) rfl rfl
theorem r32_52 : runs cal 32 52 [v0, v1, v2, v3, v4, v5, vI u, v7, v8, v9] [vI x0] I = runs cal 32 54 [v0, v1, v2, v3, v4, v5, vI u, vI x0, v8, v9] [] I := runs_to (ins_of mI_32 (by rfl)) rfl rfl
theorem r32_54 : runs cal 32 54 [v0, v1, v2, v3, v4, v5, v6, vI w, v8, v9] [] I = runs cal 32 56 [v0, v1, v2, v3, v4, v5, v6, vI w, v8, v9] [vI w] I := runs_to (ins_of mI_32 (by rfl)) rfl rfl
theorem r32_56 : runs cal 32 56 [v0, v1, v2, v3, v4, v5, v6, v7, v8, v9] [vI x0] I = if x0 = 0 then runs cal 32 77 [v0, v1, v2, v3, v4, v5, v6, v7, v8, v9] [] I else runs cal 32 59 [v0, v1, v2, v3, v4, v5, v6, v7, v8, v9] [] I := st_if_eq (ins_of mI_32 (by rfl)) (by decide)
theorem r32_59 : runs cal 32 59 [vR 2, v1, v2, v3, v4, v5, v6, v7, v8, v9] [] I = runs cal 32 60 [vR 2, v1, v2, v3, v4, v5, v6, v7, v8, v9] [vR 2] I := runs_to (ins_of mI_32 (by rfl)) rfl rfl
theorem r32_60 : runs cal 32 60 [v0, vI w, v2, v3, v4, v5, v6, v7, v8, v9] [vR 2] I = runs cal 32 61 [v0, vI w, v2, v3, v4, v5, v6, v7, v8, v9] [vI w, vR 2] I := runs_to (ins_of mI_32 (by rfl)) rfl rfl
theorem r32_61 : runs cal 32 61 [v0, v1, v2, v3, v4, vI w, v6, v7, v8, v9] [vI x0, vR 2] I = runs cal 32 63 [v0, v1, v2, v3, v4, vI w, v6, v7, v8, v9] [vI w, vI x0, vR 2] I := runs_to (ins_of mI_32 (by rfl)) rfl rfl
theorem r32_63 : runs cal 32 63 [v0, v1, v2, v3, v4, v5, v6, v7, v8, v9] [vI x0, vI x1, vR 2] I = (cal 8 [vR 2, vI x1, vI x0] I).bind (fun q => runs cal 32 66 [v0, v1, v2, v3, v4, v5, v6, v7, v8, v9] (pushR q.1 []) q.2) := st_call (st := false) (ins_of mI_32 (by rfl)) mC_32 mr_0_76 (by decide) mS_8 mN_8 rfl (Nat.le_of_ble_eq_true rfl) rfl rfl (Or.inr ⟨_, _, rfl, rcv mC_8 rfl wid_32 (by decide +kernel)⟩) (Or.inl (wid_32.trans wid_8.symm))
theorem r32_66 : runs cal 32 66 [v0, v1, v2, v3, v4, v5, v6, v7, v8, v9] [vI x0] I = runs cal 32 68 [v0, v1, v2, v3, v4, v5, v6, v7, v8, v9] [vI (8), vI x0] I := runs_to (ins_of mI_32 (by rfl)) rfl rfl
theorem r32_68 : runs cal 32 68 [v0, v1, v2, v3, vI w, v5, v6, v7, v8, v9] [vI x0, vI x1] I = runs cal 32 70 [v0, v1, v2, v3, vI w, v5, v6, v7, v8, v9] [vI w, vI x0, vI x1] I := runs_to (ins_of mI_32 (by rfl)) rfl rfl
theorem r32_70 : runs cal 32 70 [v0, v1, v2, v3, v4, v5, v6, v7, v8, v9] [vI x0, vI x1, vI x2] I = runs cal 32 71 [v0, v1, v2, v3, v4, v5, v6, v7, v8, v9] [vI (iadd x1 x0), vI x2] I := runs_to (ins_of mI_32 (by rfl)) rfl rfl
theorem r32_71 : runs cal 32 71 [v0, v1, v2, v3, v4, v5, v6, v7, v8, v9] [vI x0, vI x1] I = if x1 = x0 then runs cal 32 77 [v0, v1, v2, v3, v4, v5, v6, v7, v8, v9] [] I else runs cal 32 74 [v0, v1, v2, v3, v4, v5, v6, v7, v8, v9] [] I := st_cmp_eq (ins_of mI_32 (by rfl)) (by decide)
theorem r32_74 : runs cal 32 74 [v0, v1, v2, v3, v4, v5, v6, v7, v8, v9] [] I = runs cal 32 76 [v0, v1, v2, v3, v4, v5, v6, v7, v8, v9] [vI (-2)] I := runs_to (ins_of mI_32 (by rfl)) rfl rfl
theorem r32_76 : runs cal 32 76 [v0, v1, v2, v3, v4, v5, v6, v7, v8, v9] [vI x0] I = some (some (vI x0), I) := st_ret (q := some (vI x0)) (k := 0) (ins_of mI_32 (by rfl)) rfl (by decide) mR_32 rfl trivial
theorem r32_77 : runs cal 32 77 [vR 2, v1, v2, v3, v4, v5, v6, v7, v8, v9] [] I = runs cal 32 78 [vR 2, v1, v2, v3, v4, v5, v6, v7, v8, v9] [vR 2] I := runs_to (ins_of mI_32 (by rfl)) rfl rfl
theorem r32_78 : runs cal 32 78 [v0, v1, v2, v3, v4, v5, v6, v7, v8, v9] [vR 2] I = (cal 23 [vR 2] I).bind (fun q => runs cal 32 81 [v0, v1, v2, v3, v4, v5, v6, v7, v8, v9] (pushR q.1 []) q.2) := st_call (st := false) (ins_of mI_32 (by rfl)) mC_32 mr_0_99 (by decide) mS_23 mN_23 rfl (Nat.le_of_ble_eq_true rfl) rfl rfl (Or.inr ⟨_, _, rfl, rcv mC_23 rfl wid_32 (by decide +kernel)⟩) (Or.inl (wid_32.trans wid_23.symm))
theorem r32_81 : runs cal 32 81 [vR 2, v1, v2, v3, v4, v5, v6, v7, v8, v9] [vI x0] I = runs cal 32 82 [vR 2, v1, v2, v3, v4, v5, v6, v7, v8, v9] [vR 2, vI x0] I := runs_to (ins_of mI_32 (by rfl)) rfl rfl
theorem r32_82 : runs cal 32 82 [v0, vI w, v2, v3, v4, v5, v6, v7, v8, v9] [vR 2, vI x1] I = runs cal 32 83 [v0, vI w, v2, v3, v4, v5, v6, v7, v8, v9] [vI w, vR 2, vI x1] I := runs_to (ins_of mI_32 (by rfl)) rfl rfl
theorem r32_83 : runs cal 32 83 [v0, v1, v2, v3, v4, v5, v6, v7, v8, v9] [vI x0, vR 2, vI x2] I = (cal 21 [vR 2, vI x0] I).bind (fun q => runs cal 32 86 [v0, v1, v2, v3, v4, v5, v6, v7, v8, v9] (pushR q.1 [vI x2]) q.2) := st_call (st := false) (ins_of mI_32 (by rfl)) mC_32 mr_0_66 (by decide) mS_21 mN_21 rfl (Nat.le_of_ble_eq_true rfl) rfl rfl (Or.inr ⟨_, _, rfl, rcv mC_21 rfl wid_32 (by decide +kernel)⟩) (Or.inl (wid_32.trans wid_21.symm))
theorem r32_86 : runs cal 32 86 [v0, v1, v2, v3, v4, v5, v6, v7, v8, v9] [vI x0, vI x1] I = runs cal 32 87 [v0, v1, v2, v3, v4, v5, v6, v7, v8, v9] [vI (ior x1 x0)] I := runs_to (ins_of mI_32 (by rfl)) rfl rfl
theorem r32_87 : runs cal 32 87 [v0, v1, v2, v3, v4, v5, v6, vI u, v8, v9] [vI x0] I = runs cal 32 89 [v0, v1, v2, v3, v4, v5, v6, vI u, vI x0, v9] [] I := runs_to (ins_of mI_32 (by rfl)) rfl rfl
theorem r32_89 : runs cal 32 89 [v0, v1, v2, vI w, v4, v5, v6, v7, v8, v9] [] I = runs cal 32 90 [v0, v1, v2, vI w, v4, v5, v6, v7, v8, v9] [vI w] I := runs_to (ins_of mI_32 (by rfl)) rfl rfl
theorem r32_90 : runs cal 32 90 [v0, v1, v2, v3, v4, v5, v6, v7, v8, v9] [vI (0)] I = runs cal 32 120 [v0, v1, v2, v3, v4, v5, v6, v7, v8, v9] [] I := st_sw (off := 30) (ins_of mI_32 (by rfl)) rfl rfl (by decide)
theorem r32_90a : runs cal 32 90 [v0, v1, v2, v3, v4, v5, v6, v7, v8, v9] [vI (1)] I = runs cal 32 136 [v0, v1, v2, v3, v4, v5, v6, v7, v8, v9] [] I := st_sw (off := 46) (ins_of mI_32 (by rfl)) rfl rfl (by decide)
theorem r32_90b : runs cal 32 90 [v0, v1, v2, v3, v4, v5, v6, v7, v8, v9] [vI (2)] I = runs cal 32 154 [v0, v1, v2, v3, v4, v5, v6, v7, v8, v9] [] I := st_sw (off := 64) (ins_of mI_32 (by rfl)) rfl rfl (by decide)
theorem r32_90c : runs cal 32 90 [v0, v1, v2, v3, v4, v5, v6, v7, v8, v9] [vI (3)] I = runs cal 32 168 [v0, v1, v2, v3, v4, v5, v6, v7, v8, v9] [] I := st_sw (off := 78) (ins_of mI_32 (by rfl)) rfl rfl (by decide)
theorem r32_90d (hd : x0 < 0 ∨ 3 < x0) : runs cal 32 90 [v0, v1, v2, v3, v4, v5, v6, v7, v8, v9] [vI x0] I = runs cal 32 184 [v0, v1, v2, v3, v4, v5, v6, v7, v8, v9] [] I := st_tswD (ins_of mI_32 (by rfl)) (by decide) hd (by decide)
theorem r32_120 : runs cal 32 120 [vR 2, v1, v2, v3, v4, v5, v6, v7, v8, v9] [] I = runs cal 32 121 [vR 2, v1, v2, v3, v4, v5, v6, v7, v8, v9] [vR 2] I := runs_to (ins_of mI_32 (by rfl)) rfl rfl
theorem r32_121 : runs cal 32 121 [v0, vI w, v2, v3, v4, v5, v6, v7, v8, v9] [vR 2] I = runs cal 32 122 [v0, vI w, v2, v3, v4, v5, v6, v7, v8, v9] [vI w, vR 2] I := runs_to (ins_of mI_32 (by rfl)) rfl rfl
theorem r32_122 : runs cal 32 122 [v0, v1, v2, v3, vI w, v5, v6, v7, v8, v9] [vI x0, vR 2] I = runs cal 32 124 [v0, v1, v2, v3, vI w, v5, v6, v7, v8, v9] [vI w, vI x0, vR 2] I := runs_to (ins_of mI_32 (by rfl)) rfl rfl
theorem r32_124 : runs cal 32 124 [v0, v1, v2, v3, v4, vI w, v6, v7, v8, v9] [vI x0, vI x1, vR 2] I = runs cal 32 126 [v0, v1, v2, v3, v4, vI w, v6, v7, v8, v9] [vI w, vI x0, vI x1, vR 2] I := runs_to (ins_of mI_32 (by rfl)) rfl rfl
theorem r32_126 : runs cal 32 126 [v0, v1, v2, v3, v4, v5, v6, v7, vI w, v9] [vI x0, vI x1, vI x2, vR 2] I = runs cal 32 128 [v0, v1, v2, v3, v4, v5, v6, v7, vI w, v9] [vI w, vI x0, vI x1, vI x2, vR 2] I := runs_to (ins_of mI_32 (by rfl)) rfl rfl
theorem r32_128 : runs cal 32 128 [v0, v1, v2, v3, v4, v5, v6, v7, v8, v9] [vI x0, vI x1, vI x2, vI x3, vR 2] I = (cal 33 [vR 2, vI x3, vI x2, vI x1, vI x0] I).bind (fun q => runs cal 32 131 [v0, v1, v2, v3, v4, v5, v6, v7, v8, v9] (pushR q.1 []) q.2) := st_call (st := false) (ins_of mI_32 (by rfl)) mC_32 mr_0_121 (by decide) mS_33 mN_33 rfl (Nat.le_of_ble_eq_true rfl) rfl rfl (Or.inr ⟨_, _, rfl, rcv mC_33 rfl wid_32 (by decide +kernel)⟩) (Or.inl (wid_32.trans wid_33.symm))
theorem r32_131 : runs cal 32 131 [v0, v1, v2, v3, v4, v5, v6, v7, vI u, v9] [vI x0] I = runs cal 32 133 [v0, v1, v2, v3, v4, v5, v6, v7, vI u, vI x0] [] I := runs_to (ins_of mI_32 (by rfl)) rfl rfl
theorem r32_133 : runs cal 32 133 [v0, v1, v2, v3, v4, v5, v6, v7, v8, v9] [] I = runs cal 32 197 [v0, v1, v2, v3, v4, v5, v6, v7, v8, v9] [] I := st_goto (ins_of mI_32 (by rfl)) (by decide)
theorem r32_136 : runs cal 32 136 [vR 2, v1, v2, v3, v4, v5, v6, v7, v8, v9] [] I = runs cal 32 137 [vR 2, v1, v2, v3, v4, v5, v6, v7, v8, v9] [vR 2] I := runs_to (ins_of mI_32 (by rfl)) rfl rfl
theorem r32_137 : runs cal 32 137 [v0, vI w, v2, v3, v4, v5, v6, v7, v8, v9] [vR 2] I = runs cal 32 138 [v0, vI w, v2, v3, v4, v5, v6, v7, v8, v9] [vI w, vR 2] I := runs_to (ins_of mI_32 (by rfl)) rfl rfl
theorem r32_138 : runs cal 32 138 [v0, v1, v2, v3, vI w, v5, v6, v7, v8, v9] [vI x0, vR 2] I = runs cal 32 140 [v0, v1, v2, v3, vI w, v5, v6, v7, v8, v9] [vI w, vI x0, vR 2] I := runs_to (ins_of mI_32 (by rfl)) rfl rfl
theorem r32_140 : runs cal 32 140 [v0, v1, v2, v3, v4, vI w, v6, v7, v8, v9] [vI x0, vI x1, vR 2] I = runs cal 32 142 [v0, v1, v2, v3, v4, vI w, v6, v7, v8, v9] [vI w, vI x0, vI x1, vR 2] I := runs_to (ins_of mI_32 (by rfl)) rfl rfl
theorem r32_142 : runs cal 32 142 [v0, v1, v2, v3, v4, v5, vI w, v7, v8, v9] [vI x0, vI x1, vI x2, vR 2] I = runs cal 32 144 [v0, v1, v2, v3, v4, v5, vI w, v7, v8, v9] [vI w, vI x0, vI x1, vI x2, vR 2] I := runs_to (ins_of mI_32 (by rfl)) rfl rfl
theorem r32_144 : runs cal 32 144 [v0, v1, v2, v3, v4, v5, v6, v7, vI w, v9] [vI x0, vI x1, vI x2, vI x3, vR 2] I = runs cal 32 146 [v0, v1, v2, v3, v4, v5, v6, v7, vI w, v9] [vI w, vI x0, vI x1, vI x2, vI x3, vR 2] I := runs_to (ins_of mI_32 (by rfl)) rfl rfl
theorem r32_146 : runs cal 32 146 [v0, v1, v2, v3, v4, v5, v6, v7, v8, v9] [vI x0, vI x1, vI x2, vI x3, vI x4, vR 2] I = (cal 35 [vR 2, vI x4, vI x3, vI x2, vI x1, vI x0] I).bind (fun q => runs cal 32 149 [v0, v1, v2, v3, v4, v5, v6, v7, v8, v9] (pushR q.1 []) q.2) := st_call (st := false) (ins_of mI_32 (by rfl)) mC_32 mr_0_125 (by decide) mS_35 mN_35 rfl (Nat.le_of_ble_eq_true rfl) rfl rfl (Or.inr ⟨_, _, rfl, rcv mC_35 rfl wid_32 (by decide +kernel)⟩) (Or.inl (wid_32.trans wid_35.symm))
theorem r32_149 : runs cal 32 149 [v0, v1, v2, v3, v4, v5, v6, v7, vI u, v9] [vI x0] I = runs cal 32 151 [v0, v1, v2, v3, v4, v5, v6, v7, vI u, vI x0] [] I := runs_to (ins_of mI_32 (by rfl)) rfl rfl
theorem r32_151 : runs cal 32 151 [v0, v1, v2, v3, v4, v5, v6, v7, v8, v9] [] I = runs cal 32 197 [v0, v1, v2, v3, v4, v5, v6, v7, v8, v9] [] I := st_goto (ins_of mI_32 (by rfl)) (by decide)
theorem r32_154 : runs cal 32 154 [vR 2, v1, v2, v3, v4, v5, v6, v7, v8, v9] [] I = runs cal 32 155 [vR 2, v1, v2, v3, v4, v5, v6, v7, v8, v9] [vR 2] I := runs_to (ins_of mI_32 (by rfl)) rfl rfl
theorem r32_155 : runs cal 32 155 [v0, vI w, v2, v3, v4, v5, v6, v7, v8, v9] [vR 2] I = runs cal 32 156 [v0, vI w, v2, v3, v4, v5, v6, v7, v8, v9] [vI w, vR 2] I := runs_to (ins_of mI_32 (by rfl)) rfl rfl
theorem r32_156 : runs cal 32 156 [v0, v1, v2, v3, vI w, v5, v6, v7, v8, v9] [vI x0, vR 2] I = runs cal 32 158 [v0, v1, v2, v3, vI w, v5, v6, v7, v8, v9] [vI w, vI x0, vR 2] I := runs_to (ins_of mI_32 (by rfl)) rfl rfl
theorem r32_158 : runs cal 32 158 [v0, v1, v2, v3, v4, vI w, v6, v7, v8, v9] [vI x0, vI x1, vR 2] I = runs cal 32 160 [v0, v1, v2, v3, v4, vI w, v6, v7, v8, v9] [vI w, vI x0, vI x1, vR 2] I := runs_to (ins_of mI_32 (by rfl)) rfl rfl
theorem r32_160 : runs cal 32 160 [v0, v1, v2, v3, v4, v5, v6, v7, v8, v9] [vI x0, vI x1, vI x2, vR 2] I = (cal 36 [vR 2, vI x2, vI x1, vI x0] I).bind (fun q => runs cal 32 163 [v0, v1, v2, v3, v4, v5, v6, v7, v8, v9] (pushR q.1 []) q.2) := st_call (st := false) (ins_of mI_32 (by rfl)) mC_32 mr_0_129 (by decide) mS_36 mN_36 rfl (Nat.le_of_ble_eq_true rfl) rfl rfl (Or.inr ⟨_, _, rfl, rcv mC_36 rfl wid_32 (by decide +kernel)⟩) (Or.inl (wid_32.trans wid_36.symm))
theorem r32_163 : runs cal 32 163 [v0, v1, v2, v3, v4, v5, v6, v7, vI u, v9] [vI x0] I = runs cal 32 165 [v0, v1, v2, v3, v4, v5, v6, v7, vI u, vI x0] [] I := runs_to (ins_of mI_32 (by rfl)) rfl rfl
theorem r32_165 : runs cal 32 165 [v0, v1, v2, v3, v4, v5, v6, v7, v8, v9] [] I = runs cal 32 197 [v0, v1, v2, v3, v4, v5, v6, v7, v8, v9] [] I := st_goto (ins_of mI_32 (by rfl)) (by decide)
theorem r32_168 : runs cal 32 168 [vR 2, v1, v2, v3, v4, v5, v6, v7, v8, v9] [] I = runs cal 32 169 [vR 2, v1, v2, v3, v4, v5, v6, v7, v8, v9] [vR 2] I := runs_to (ins_of mI_32 (by rfl)) rfl rfl
theorem r32_169 : runs cal 32 169 [v0, vI w, v2, v3, v4, v5, v6, v7, v8, v9] [vR 2] I = runs cal 32 170 [v0, vI w, v2, v3, v4, v5, v6, v7, v8, v9] [vI w, vR 2] I := runs_to (ins_of mI_32 (by rfl)) rfl rfl
theorem r32_170 : runs cal 32 170 [v0, v1, v2, v3, vI w, v5, v6, v7, v8, v9] [vI x0, vR 2] I = runs cal 32 172 [v0, v1, v2, v3, vI w, v5, v6, v7, v8, v9] [vI w, vI x0, vR 2] I := runs_to (ins_of mI_32 (by rfl)) rfl rfl
theorem r32_172 : runs cal 32 172 [v0, v1, v2, v3, v4, vI w, v6, v7, v8, v9] [vI x0, vI x1, vR 2] I = runs cal 32 174 [v0, v1, v2, v3, v4, vI w, v6, v7, v8, v9] [vI w, vI x0, vI x1, vR 2] I := runs_to (ins_of mI_32 (by rfl)) rfl rfl
theorem r32_174 : runs cal 32 174 [v0, v1, v2, v3, v4, v5, vI w, v7, v8, v9] [vI x0, vI x1, vI x2, vR 2] I = runs cal 32 176 [v0, v1, v2, v3, v4, v5, vI w, v7, v8, v9] [vI w, vI x0, vI x1, vI x2, vR 2] I := runs_to (ins_of mI_32 (by rfl)) rfl rfl
theorem r32_176 : runs cal 32 176 [v0, v1, v2, v3, v4, v5, v6, v7, v8, v9] [vI x0, vI x1, vI x2, vI x3, vR 2] I = (cal 37 [vR 2, vI x3, vI x2, vI x1, vI x0] I).bind (fun q => runs cal 32 179 [v0, v1, v2, v3, v4, v5, v6, v7, v8, v9] (pushR q.1 []) q.2) := st_call (st := false) (ins_of mI_32 (by rfl)) mC_32 mr_0_132 (by decide) mS_37 mN_37 rfl (Nat.le_of_ble_eq_true rfl) rfl rfl (Or.inr ⟨_, _, rfl, rcv mC_37 rfl wid_32 (by decide +kernel)⟩) (Or.inl (wid_32.trans wid_37.symm))
theorem r32_179 : runs cal 32 179 [v0, v1, v2, v3, v4, v5, v6, v7, vI u, v9] [vI x0] I = runs cal 32 181 [v0, v1, v2, v3, v4, v5, v6, v7, vI u, vI x0] [] I := runs_to (ins_of mI_32 (by rfl)) rfl rfl
theorem r32_181 : runs cal 32 181 [v0, v1, v2, v3, v4, v5, v6, v7, v8, v9] [] I = runs cal 32 197 [v0, v1, v2, v3, v4, v5, v6, v7, v8, v9] [] I := st_goto (ins_of mI_32 (by rfl)) (by decide)
theorem r32_184 : runs cal 32 184 [vR 2, v1, v2, v3, v4, v5, v6, v7, v8, v9] [] I = runs cal 32 185 [vR 2, v1, v2, v3, v4, v5, v6, v7, v8, v9] [vR 2] I := runs_to (ins_of mI_32 (by rfl)) rfl rfl
theorem r32_185 : runs cal 32 185 [v0, vI w, v2, v3, v4, v5, v6, v7, v8, v9] [vR 2] I = runs cal 32 186 [v0, vI w, v2, v3, v4, v5, v6, v7, v8, v9] [vI w, vR 2] I := runs_to (ins_of mI_32 (by rfl)) rfl rfl
theorem r32_186 : runs cal 32 186 [v0, v1, v2, v3, vI w, v5, v6, v7, v8, v9] [vI x0, vR 2] I = runs cal 32 188 [v0, v1, v2, v3, vI w, v5, v6, v7, v8, v9] [vI w, vI x0, vR 2] I := runs_to (ins_of mI_32 (by rfl)) rfl rfl
theorem r32_188 : runs cal 32 188 [v0, v1, v2, v3, v4, vI w, v6, v7, v8, v9] [vI x0, vI x1, vR 2] I = runs cal 32 190 [v0, v1, v2, v3, v4, vI w, v6, v7, v8, v9] [vI w, vI x0, vI x1, vR 2] I := runs_to (ins_of mI_32 (by rfl)) rfl rfl
theorem r32_190 : runs cal 32 190 [v0, v1, v2, v3, v4, v5, v6, v7, vI w, v9] [vI x0, vI x1, vI x2, vR 2] I = runs cal 32 192 [v0, v1, v2, v3, v4, v5, v6, v7, vI w, v9] [vI w, vI x0, vI x1, vI x2, vR 2] I := runs_to (ins_of mI_32 (by rfl)) rfl rfl
theorem r32_192 : runs cal 32 192 [v0, v1, v2, v3, v4, v5, v6, v7, v8, v9] [vI x0, vI x1, vI x2, vI x3, vR 2] I = (cal 34 [vR 2, vI x3, vI x2, vI x1, vI x0] I).bind (fun q => runs cal 32 195 [v0, v1, v2, v3, v4, v5, v6, v7, v8, v9] (pushR q.1 []) q.2) := st_call (st := false) (ins_of mI_32 (by rfl)) mC_32 mr_0_135 (by decide) mS_34 mN_34 rfl (Nat.le_of_ble_eq_true rfl) rfl rfl (Or.inr ⟨_, _, rfl, rcv mC_34 rfl wid_32 (by decide +kernel)⟩) (Or.inl (wid_32.trans wid_34.symm))
theorem r32_195 : runs cal 32 195 [v0, v1, v2, v3, v4, v5, v6, v7, vI u, v9] [vI x0] I = runs cal 32 197 [v0, v1, v2, v3, v4, v5, v6, v7, vI u, vI x0] [] I := runs_to (ins_of mI_32 (by rfl)) rfl rfl
theorem r32_197 : runs cal 32 197 [v0, v1, v2, v3, v4, v5, v6, v7, v8, vI w] [] I = runs cal 32 199 [v0, v1, v2, v3, v4, v5, v6, v7, v8, vI w] [vI w] I := runs_to (ins_of mI_32 (by rfl)) rfl rfl
theorem r32_199 : runs cal 32 199 [v0, v1, v2, v3, v4, v5, v6, v7, v8, v9] [vI x0] I = if x0 < 0 then runs cal 32 202 [v0, v1, v2, v3, v4, v5, v6, v7, v8, v9] [] I else runs cal 32 205 [v0, v1, v2, v3, v4, v5, v6, v7, v8, v9] [] I := st_if_ge (ins_of mI_32 (by rfl)) (by decide)
theorem r32_202 : runs cal 32 202 [v0, v1, v2, v3, v4, v5, v6, v7, v8, v9] [] I = runs cal 32 204 [v0, v1, v2, v3, v4, v5, v6, v7, v8, v9] [vI (-2)] I := runs_to (ins_of mI_32 (by rfl)) rfl rfl
theorem r32_204 : runs cal 32 204 [v0, v1, v2, v3, v4, v5, v6, v7, v8, v9] [vI x0] I = some (some (vI x0), I) := st_ret (q := some (vI x0)) (k := 0) (ins_of mI_32 (by rfl)) rfl (by decide) mR_32 rfl trivial
theorem r32_205 : runs cal 32 205 [vR 2, v1, v2, v3, v4, v5, v6, v7, v8, v9] [] I = runs cal 32 206 [vR 2, v1, v2, v3, v4, v5, v6, v7, v8, v9] [vR 2] I := runs_to (ins_of mI_32 (by rfl)) rfl rfl
theorem r32_206 : runs cal 32 206 [v0, v1, v2, v3, v4, v5, v6, v7, v8, vI w] [vR 2] I = runs cal 32 208 [v0, v1, v2, v3, v4, v5, v6, v7, v8, vI w] [vI w, vR 2] I := runs_to (ins_of mI_32 (by rfl)) rfl rfl
theorem r32_208 : runs cal 32 208 [v0, v1, v2, v3, v4, v5, v6, v7, v8, v9] [vI x0, vR 2] I = (cal 30 [vR 2, vI x0] I).bind (fun q => runs cal 32 211 [v0, v1, v2, v3, v4, v5, v6, v7, v8, v9] (pushR q.1 []) q.2) := st_call (st := false) (ins_of mI_32 (by rfl)) mC_32 mr_0_138 (by decide) mS_30 mN_30 rfl (Nat.le_of_ble_eq_true rfl) rfl rfl (Or.inr ⟨_, _, rfl, rcv mC_30 rfl wid_32 (by decide +kernel)⟩) (Or.inl (wid_32.trans wid_30.symm))
theorem r32_211 : runs cal 32 211 [v0, v1, v2, v3, v4, v5, v6, v7, v8, v9] [vI x0] I = if x0 = 0 then runs cal 32 219 [v0, v1, v2, v3, v4, v5, v6, v7, v8, v9] [] I else runs cal 32 214 [v0, v1, v2, v3, v4, v5, v6, v7, v8, v9] [] I := st_if_eq (ins_of mI_32 (by rfl)) (by decide)
theorem r32_214 : runs cal 32 214 [v0, v1, v2, v3, v4, v5, v6, v7, v8, vI w] [] I = runs cal 32 216 [v0, v1, v2, v3, v4, v5, v6, v7, v8, vI w] [vI w] I := runs_to (ins_of mI_32 (by rfl)) rfl rfl
theorem r32_216 : runs cal 32 216 [v0, v1, v2, v3, v4, v5, v6, v7, v8, v9] [vI x0] I = runs cal 32 221 [v0, v1, v2, v3, v4, v5, v6, v7, v8, v9] [vI x0] I := st_goto (ins_of mI_32 (by rfl)) (by decide)
theorem r32_219 : runs cal 32 219 [v0, v1, v2, v3, v4, v5, v6, v7, v8, v9] [] I = runs cal 32 221 [v0, v1, v2, v3, v4, v5, v6, v7, v8, v9] [vI (-3)] I := runs_to (ins_of mI_32 (by rfl)) rfl rfl
theorem r32_221 : runs cal 32 221 [v0, v1, v2, v3, v4, v5, v6, v7, v8, v9] [vI x0] I = some (some (vI x0), I) := st_ret (q := some (vI x0)) (k := 0) (ins_of mI_32 (by rfl)) rfl (by decide) mR_32 rfl trivial
theorem r33_0 : runs cal 33 0 [vR 2, v1, v2, v3, v4, v5] [] I = runs cal 33 1 [vR 2, v1, v2, v3, v4, v5] [vR 2] I := runs_to (ins_of mI_33 (by rfl)) rfl rfl
theorem r33_1 : runs cal 33 1 [v0, vI w, v2, v3, v4, v5] [vR 2] I = runs cal 33 2 [v0, vI w, v2, v3, v4, v5] [vI w, vR 2] I := runs_to (ins_of mI_33 (by rfl)) rfl rfl
theorem r33_2 : runs cal 33 2 [v0, v1, vI w, v3, v4, v5] [vI x0, vR 2] I = runs cal 33 3 [v0, v1, vI w, v3, v4, v5] [vI w, vI x0, vR 2] I := runs_to (ins_of mI_33 (by rfl)) rfl rfl
theorem r33_3 : runs cal 33 3 [v0, v1, v2, v3, v4, v5] [vI x0, vI x1, vR 2] I = (cal 7 [vR 2, vI x1, vI x0] I).bind (fun q => runs cal 33 6 [v0, v1, v2, v3, v4, v5] (pushR q.1 []) q.2) := st_call (st := false) (ins_of mI_33 (by rfl)) mC_33 mr_0_79 (by decide) mS_7 mN_7 rfl (Nat.le_of_ble_eq_true rfl) rfl rfl (Or.inr ⟨_, _, rfl, rcv mC_7 rfl wid_33 (by decide +kernel)⟩) (Or.inl (wid_33.trans wid_7.symm))
theorem r33_6 : runs cal 33 6 [v0, v1, v2, vI w, v4, v5] [vI x0] I = runs cal 33 7 [v0, v1, v2, vI w, v4, v5] [vI w, vI x0] I := runs_to (ins_of mI_33 (by rfl)) rfl rfl
theorem r33_7 : runs cal 33 7 [v0, v1, v2, v3, v4, v5] [vI x0, vI x1] I = if x0 = 0 then runs cal 33 10 [v0, v1, v2, v3, v4, v5] [vI x1] I else runs cal 33 14 [v0, v1, v2, v3, v4, v5] [vI x1] I := st_if_ne (ins_of mI_33 (by rfl)) (by decide)
theorem r33_10 : runs cal 33 10 [v0, v1, v2, v3, v4, v5] [vI x0] I = runs cal 33 11 [v0, v1, v2, v3, v4, v5] [vI (-1), vI x0] I := runs_to (ins_of mI_33 (by rfl)) rfl rfl
theorem r33_11 : runs cal 33 11 [v0, v1, v2, v3, v4, v5] [vI x0, vI x1] I = runs cal 33 15 [v0, v1, v2, v3, v4, v5] [vI x0, vI x1] I := st_goto (ins_of mI_33 (by rfl)) (by decide)
theorem r33_14 : runs cal 33 14 [v0, v1, v2, v3, v4, v5] [vI x0] I = runs cal 33 15 [v0, v1, v2, v3, v4, v5] [vI (1), vI x0] I := runs_to (ins_of mI_33 (by rfl)) rfl rfl
theorem r33_15 : runs cal 33 15 [v0, v1, v2, v3, v4, v5] [vI x0, vI x1] I = runs cal 33 16 [v0, v1, v2, v3, v4, v5] [vI (iadd x1 x0)] I := runs_to (ins_of mI_33 (by rfl)) rfl rfl
theorem r33_16 : runs cal 33 16 [v0, v1, v2, v3, vI u, v5] [vI x0] I = runs cal 33 18 [v0, v1, v2, v3, vI u, vI x0] [] I := runs_to (ins_of mI_33 (by rfl)) rfl rfl
theorem r33_18 : runs cal 33 18 [vR 2, v1, v2, v3, v4, v5] [] I = runs cal 33 19 [vR 2, v1, v2, v3, v4, v5] [vR 2] I := runs_to (ins_of mI_33 (by rfl)) rfl rfl
theorem r33_19 : runs cal 33 19 [v0, v1, v2, v3, vI w, v5] [vR 2] I = runs cal 33 21 [v0, v1, v2, v3, vI w, v5] [vI w, vR 2] I := runs_to (ins_of mI_33 (by rfl)) rfl rfl
theorem r33_21 : runs cal 33 21 [v0, v1, v2, v3, v4, vI w] [vI x0, vR 2] I = runs cal 33 23 [v0, v1, v2, v3, v4, vI w] [vI w, vI x0, vR 2] I := runs_to (ins_of mI_33 (by rfl)) rfl rfl
theorem r33_23 : runs cal 33 23 [v0, v1, v2, v3, v4, v5] [vI x0, vI x1, vR 2] I = (cal 22 [vR 2, vI x1, vI x0] I).bind (fun q => runs cal 33 26 [v0, v1, v2, v3, v4, v5] (pushR q.1 []) q.2) := st_call (st := false) (ins_of mI_33 (by rfl)) mC_33 mr_0_103 (by decide) mS_22 mN_22 rfl (Nat.le_of_ble_eq_true rfl) rfl rfl (Or.inr ⟨_, _, rfl, rcv mC_22 rfl wid_33 (by decide +kernel)⟩) (Or.inl (wid_33.trans wid_22.symm))
theorem r33_26 : runs cal 33 26 [v0, v1, v2, v3, v4, v5] [vI x0] I = if x0 = 0 then runs cal 33 40 [v0, v1, v2, v3, v4, v5] [] I else runs cal 33 29 [v0, v1, v2, v3, v4, v5] [] I := st_if_eq (ins_of mI_33 (by rfl)) (by decide)
theorem r33_29 : runs cal 33 29 [vR 2, v1, v2, v3, v4, v5] [] I = runs cal 33 30 [vR 2, v1, v2, v3, v4, v5] [vR 2] I := runs_to (ins_of mI_33 (by rfl)) rfl rfl
theorem r33_30 : runs cal 33 30 [v0, vI w, v2, v3, v4, v5] [vR 2] I = runs cal 33 31 [v0, vI w, v2, v3, v4, v5] [vI w, vR 2] I := runs_to (ins_of mI_33 (by rfl)) rfl rfl
theorem r33_31 : runs cal 33 31 [v0, v1, vI w, v3, v4, v5] [vI x0, vR 2] I = runs cal 33 32 [v0, v1, vI w, v3, v4, v5] [vI w, vI x0, vR 2] I := runs_to (ins_of mI_33 (by rfl)) rfl rfl
theorem r33_32 : runs cal 33 32 [v0, v1, v2, v3, v4, vI w] [vI x0, vI x1, vR 2] I = runs cal 33 34 [v0, v1, v2, v3, v4, vI w] [vI w, vI x0, vI x1, vR 2] I := runs_to (ins_of mI_33 (by rfl)) rfl rfl
theorem r33_34 : runs cal 33 34 [v0, v1, v2, v3, v4, v5] [vI x0, vI x1, vI x2, vR 2] I = (cal 10 [vR 2, vI x2, vI x1, vI x0] I).bind (fun q => runs cal 33 37 [v0, v1, v2, v3, v4, v5] (pushR q.1 []) q.2) := st_call (st := false) (ins_of mI_33 (by rfl)) mC_33 mr_0_55 (by decide) mS_10 mN_10 rfl (Nat.le_of_ble_eq_true rfl) rfl rfl (Or.inr ⟨_, _, rfl, rcv mC_10 rfl wid_33 (by decide +kernel)⟩) (Or.inl (wid_33.trans wid_10.symm))
theorem r33_37 : runs cal 33 37 [v0, v1, v2, v3, v4, v5] [vI x0] I = runs cal 33 42 [v0, v1, v2, v3, v4, v5] [vI x0] I := st_goto (ins_of mI_33 (by rfl)) (by decide)
theorem r33_40 : runs cal 33 40 [v0, v1, v2, v3, v4, v5] [] I = runs cal 33 42 [v0, v1, v2, v3, v4, v5] [vI (-2)] I := runs_to (ins_of mI_33 (by rfl)) rfl rfl
theorem r33_42 : runs cal 33 42 [v0, v1, v2, v3, v4, v5] [vI x0] I = some (some (vI x0), I) := st_ret (q := some (vI x0)) (k := 0) (ins_of mI_33 (by rfl)) rfl (by decide) mR_33 rfl trivial
theorem r34_0 : runs cal 34 0 [v0, v1, v2, vI w, v4, v5, v6, v7] [] I = runs cal 34 1 [v0, v1, v2, vI w, v4, v5, v6, v7] [vI w] I := runs_to (ins_of mI_34 (by rfl)) rfl rfl
theorem r34_1 : runs cal 34 1 [v0, v1, v2, v3, v4, v5, v6, v7] [vI x0] I = if x0 = 0 then runs cal 34 4 [v0, v1, v2, v3, v4, v5, v6, v7] [] I else runs cal 34 8 [v0, v1, v2, v3, v4, v5, v6, v7] [] I := st_if_ne (ins_of mI_34 (by rfl)) (by decide)
theorem r34_4 : runs cal 34 4 [v0, v1, v2, v3, v4, v5, v6, v7] [] I = runs cal 34 5 [v0, v1, v2, v3, v4, v5, v6, v7] [vI (-1)] I := runs_to (ins_of mI_34 (by rfl)) rfl rfl
theorem r34_5 : runs cal 34 5 [v0, v1, v2, v3, v4, v5, v6, v7] [vI x0] I = runs cal 34 9 [v0, v1, v2, v3, v4, v5, v6, v7] [vI x0] I := st_goto (ins_of mI_34 (by rfl)) (by decide)
theorem r34_8 : runs cal 34 8 [v0, v1, v2, v3, v4, v5, v6, v7] [] I = runs cal 34 9 [v0, v1, v2, v3, v4, v5, v6, v7] [vI (1)] I := runs_to (ins_of mI_34 (by rfl)) rfl rfl
theorem r34_9 : runs cal 34 9 [v0, v1, v2, v3, vI u, v5, v6, v7] [vI x0] I = runs cal 34 11 [v0, v1, v2, v3, vI u, vI x0, v6, v7] [] I := runs_to (ins_of mI_34 (by rfl)) rfl rfl
theorem r34_11 : runs cal 34 11 [vR 2, v1, v2, v3, v4, v5, v6, v7] [] I = runs cal 34 12 [vR 2, v1, v2, v3, v4, v5, v6, v7] [vR 2] I := runs_to (ins_of mI_34 (by rfl)) rfl rfl
theorem r34_12 : runs cal 34 12 [v0, vI w, v2, v3, v4, v5, v6, v7] [vR 2] I = runs cal 34 13 [v0, vI w, v2, v3, v4, v5, v6, v7] [vI w, vR 2] I := runs_to (ins_of mI_34 (by rfl)) rfl rfl
theorem r34_13 : runs cal 34 13 [v0, v1, vI w, v3, v4, v5, v6, v7] [vI x0, vR 2] I = runs cal 34 14 [v0, v1, vI w, v3, v4, v5, v6, v7] [vI w, vI x0, vR 2] I := runs_to (ins_of mI_34 (by rfl)) rfl rfl
theorem r34_14 : runs cal 34 14 [v0, v1, v2, v3, v4, v5, v6, v7] [vI x0, vI x1, vR 2] I = (cal 7 [vR 2, vI x1, vI x0] I).bind (fun q => runs cal 34 17 [v0, v1, v2, v3, v4, v5, v6, v7] (pushR q.1 []) q.2) := st_call (st := false) (ins_of mI_34 (by rfl)) mC_34 mr_0_79 (by decide) mS_7 mN_7 rfl (Nat.le_of_ble_eq_true rfl) rfl rfl (Or.inr ⟨_, _, rfl, rcv mC_7 rfl wid_34 (by decide +kernel)⟩) (Or.inl (wid_34.trans wid_7.symm))
theorem r34_17 : runs cal 34 17 [v0, v1, v2, v3, v4, vI w, v6, v7] [vI x0] I = runs cal 34 19 [v0, v1, v2, v3, v4, vI w, v6, v7] [vI w, vI x0] I := runs_to (ins_of mI_34 (by rfl)) rfl rfl
theorem r34_19 : runs cal 34 19 [v0, v1, v2, v3, v4, v5, v6, v7] [vI x0, vI x1] I = runs cal 34 20 [v0, v1, v2, v3, v4, v5, v6, v7] [vI (iadd x1 x0)] I := runs_to (ins_of mI_34 (by rfl)) rfl rfl
theorem r34_20 : runs cal 34 20 [v0, v1, v2, v3, v4, vI u, v6, v7] [vI x0] I = runs cal 34 22 [v0, v1, v2, v3, v4, vI u, vI x0, v7] [] I := runs_to (ins_of mI_34 (by rfl)) rfl rfl
theorem r34_22 : runs cal 34 22 [v0, v1, v2, v3, v4, v5, vI w, v7] [] I = runs cal 34 24 [v0, v1, v2, v3, v4, v5, vI w, v7] [vI w] I := runs_to (ins_of mI_34 (by rfl)) rfl rfl
theorem r34_24 : runs cal 34 24 [v0, v1, v2, v3, v4, vI w, v6, v7] [vI x0] I = runs cal 34 26 [v0, v1, v2, v3, v4, vI w, v6, v7] [vI w, vI x0] I := runs_to (ins_of mI_34 (by rfl)) rfl rfl
theorem r34_26 : runs cal 34 26 [v0, v1, v2, v3, v4, v5, v6, v7] [vI x0, vI x1] I = runs cal 34 27 [v0, v1, v2, v3, v4, v5, v6, v7] [vI (iadd x1 x0)] I := runs_to (ins_of mI_34 (by rfl)) rfl rfl
theorem r34_27 : runs cal 34 27 [v0, v1, v2, v3, v4, v5, vI u, v7] [vI x0] I = runs cal 34 29 [v0, v1, v2, v3, v4, v5, vI u, vI x0] [] I := runs_to (ins_of mI_34 (by rfl)) rfl rfl
theorem r34_29 : runs cal 34 29 [vR 2, v1, v2, v3, v4, v5, v6, v7] [] I = runs cal 34 30 [vR 2, v1, v2, v3, v4, v5, v6, v7] [vR 2] I := runs_to (ins_of mI_34 (by rfl)) rfl rfl
theorem r34_30 : runs cal 34 30 [v0, v1, v2, v3, vI w, v5, v6, v7] [vR 2] I = runs cal 34 32 [v0, v1, v2, v3, vI w, v5, v6, v7] [vI w, vR 2] I := runs_to (ins_of mI_34 (by rfl)) rfl rfl
theorem r34_32 : runs cal 34 32 [v0, v1, v2, v3, v4, v5, vI w, v7] [vI x0, vR 2] I = runs cal 34 34 [v0, v1, v2, v3, v4, v5, vI w, v7] [vI w, vI x0, vR 2] I := runs_to (ins_of mI_34 (by rfl)) rfl rfl
theorem r34_34 : runs cal 34 34 [v0, v1, v2, v3, v4, v5, v6, v7] [vI x0, vI x1, vR 2] I = (cal 22 [vR 2, vI x1, vI x0] I).bind (fun q => runs cal 34 37 [v0, v1, v2, v3, v4, v5, v6, v7] (pushR q.1 []) q.2) := st_call (st := false) (ins_of mI_34 (by rfl)) mC_34 mr_0_103 (by decide) mS_22 mN_22 rfl (Nat.le_of_ble_eq_true rfl) rfl rfl (Or.inr ⟨_, _, rfl, rcv mC_22 rfl wid_34 (by decide +kernel)⟩) (Or.inl (wid_34.trans wid_22.symm))
theorem r34_37 : runs cal 34 37 [v0, v1, v2, v3, v4, v5, v6, v7] [vI x0] I = if x0 = 0 then runs cal 34 40 [v0, v1, v2, v3, v4, v5, v6, v7] [] I else runs cal 34 62 [v0, v1, v2, v3, v4, v5, v6, v7] [] I := st_if_ne (ins_of mI_34 (by rfl)) (by decide)
theorem r34_40 : runs cal 34 40 [vR 2, v1, v2, v3, v4, v5, v6, v7] [] I = runs cal 34 41 [vR 2, v1, v2, v3, v4, v5, v6, v7] [vR 2] I := runs_to (ins_of mI_34 (by rfl)) rfl rfl
theorem r34_41 : runs cal 34 41 [v0, v1, v2, v3, vI w, v5, v6, v7] [vR 2] I = runs cal 34 43 [v0, v1, v2, v3, vI w, v5, v6, v7] [vI w, vR 2] I := runs_to (ins_of mI_34 (by rfl)) rfl rfl
theorem r34_43 : runs cal 34 43 [v0, v1, v2, v3, v4, v5, v6, vI w] [vI x0, vR 2] I = runs cal 34 45 [v0, v1, v2, v3, v4, v5, v6, vI w] [vI w, vI x0, vR 2] I := runs_to (ins_of mI_34 (by rfl)) rfl rfl
theorem r34_45 : runs cal 34 45 [v0, v1, v2, v3, v4, v5, v6, v7] [vI x0, vI x1, vR 2] I = (cal 22 [vR 2, vI x1, vI x0] I).bind (fun q => runs cal 34 48 [v0, v1, v2, v3, v4, v5, v6, v7] (pushR q.1 []) q.2) := st_call (st := false) (ins_of mI_34 (by rfl)) mC_34 mr_0_103 (by decide) mS_22 mN_22 rfl (Nat.le_of_ble_eq_true rfl) rfl rfl (Or.inr ⟨_, _, rfl, rcv mC_22 rfl wid_34 (by decide +kernel)⟩) (Or.inl (wid_34.trans wid_22.symm))
theorem r34_48 : runs cal 34 48 [v0, v1, v2, v3, v4, v5, v6, v7] [vI x0] I = if x0 = 0 then runs cal 34 62 [v0, v1, v2, v3, v4, v5, v6, v7] [] I else runs cal 34 51 [v0, v1, v2, v3, v4, v5, v6, v7] [] I := st_if_eq (ins_of mI_34 (by rfl)) (by decide)
theorem r34_51 : runs cal 34 51 [vR 2, v1, v2, v3, v4, v5, v6, v7] [] I = runs cal 34 52 [vR 2, v1, v2, v3, v4, v5, v6, v7] [vR 2] I := runs_to (ins_of mI_34 (by rfl)) rfl rfl
theorem r34_52 : runs cal 34 52 [v0, vI w, v2, v3, v4, v5, v6, v7] [vR 2] I = runs cal 34 53 [v0, vI w, v2, v3, v4, v5, v6, v7] [vI w, vR 2] I := runs_to (ins_of mI_34 (by rfl)) rfl rfl
theorem r34_53 : runs cal 34 53 [v0, v1, vI w, v3, v4, v5, v6, v7] [vI x0, vR 2] I = runs cal 34 54 [v0, v1, vI w, v3, v4, v5, v6, v7] [vI w, vI x0, vR 2] I := runs_to (ins_of mI_34 (by rfl)) rfl rfl
theorem r34_54 : runs cal 34 54 [v0, v1, v2, v3, v4, v5, v6, vI w] [vI x0, vI x1, vR 2] I = runs cal 34 56 [v0, v1, v2, v3, v4, v5, v6, vI w] [vI w, vI x0, vI x1, vR 2] I := runs_to (ins_of mI_34 (by rfl)) rfl rfl
theorem r34_56 : runs cal 34 56 [v0, v1, v2, v3, v4, v5, v6, v7] [vI x0, vI x1, vI x2, vR 2] I = (cal 10 [vR 2, vI x2, vI x1, vI x0] I).bind (fun q => runs cal 34 59 [v0, v1, v2, v3, v4, v5, v6, v7] (pushR q.1 []) q.2) := st_call (st := false) (ins_of mI_34 (by rfl)) mC_34 mr_0_55 (by decide) mS_10 mN_10 rfl (Nat.le_of_ble_eq_true rfl) rfl rfl (Or.inr ⟨_, _, rfl, rcv mC_10 rfl wid_34 (by decide +kernel)⟩) (Or.inl (wid_34.trans wid_10.symm))
theorem r34_59 : runs cal 34 59 [v0, v1, v2, v3, v4, v5, v6, v7] [vI x0] I = runs cal 34 64 [v0, v1, v2, v3, v4, v5, v6, v7] [vI x0] I := st_goto (ins_of mI_34 (by rfl)) (by decide)
theorem r34_62 : runs cal 34 62 [v0, v1, v2, v3, v4, v5, v6, v7] [] I = runs cal 34 64 [v0, v1, v2, v3, v4, v5, v6, v7] [vI (-2)] I := runs_to (ins_of mI_34 (by rfl)) rfl rfl
theorem r34_64 : runs cal 34 64 [v0, v1, v2, v3, v4, v5, v6, v7] [vI x0] I = some (some (vI x0), I) := st_ret (q := some (vI x0)) (k := 0) (ins_of mI_34 (by rfl)) rfl (by decide) mR_34 rfl trivial
theorem r35_0 : runs cal 35 0 [vR 2, v1, v2, v3, v4, v5, v6, v7, v8] [] I = runs cal 35 1 [vR 2, v1, v2, v3, v4, v5, v6, v7, v8] [vR 2] I := runs_to (ins_of mI_35 (by rfl)) rfl rfl
theorem r35_1 : runs cal 35 1 [v0, vI w, v2, v3, v4, v5, v6, v7, v8] [vR 2] I = runs cal 35 2 [v0, vI w, v2, v3, v4, v5, v6, v7, v8] [vI w, vR 2] I := runs_to (ins_of mI_35 (by rfl)) rfl rfl
theorem r35_2 : runs cal 35 2 [v0, v1, vI w, v3, v4, v5, v6, v7, v8] [vI x0, vR 2] I = runs cal 35 3 [v0, v1, vI w, v3, v4, v5, v6, v7, v8] [vI w, vI x0, vR 2] I := runs_to (ins_of mI_35 (by rfl)) rfl rfl
theorem r35_3 : runs cal 35 3 [v0, v1, v2, v3, v4, v5, v6, v7, v8] [vI x0, vI x1, vR 2] I = (cal 7 [vR 2, vI x1, vI x0] I).bind (fun q => runs cal 35 6 [v0, v1, v2, v3, v4, v5, v6, v7, v8] (pushR q.1 []) q.2) := st_call (st := false) (ins_of mI_35 (by rfl)) mC_35 mr_0_79 (by decide) mS_7 mN_7 rfl (Nat.le_of_ble_eq_true rfl) rfl rfl (Or.inr ⟨_, _, rfl, rcv mC_7 rfl wid_35 (by decide +kernel)⟩) (Or.inl (wid_35.trans wid_7.symm))
theorem r35_6 : runs cal 35 6 [v0, v1, v2, v3, v4, vI u, v6, v7, v8] [vI x0] I = runs cal 35 8 [v0, v1, v2, v3, v4, vI u, vI x0, v7, v8] [] I := runs_to (ins_of mI_35 (by rfl)) rfl rfl
theorem r35_8 : runs cal 35 8 [v0, v1, v2, v3, vI w, v5, v6, v7, v8] [] I = runs cal 35 10 [v0, v1, v2, v3, vI w, v5, v6, v7, v8] [vI w] I := runs_to (ins_of mI_35 (by rfl)) rfl rfl
theorem r35_10 : runs cal 35 10 [v0, v1, v2, v3, v4, v5, v6, v7, v8] [vI x0] I = if x0 = 0 then runs cal 35 13 [v0, v1, v2, v3, v4, v5, v6, v7, v8] [] I else runs cal 35 25 [v0, v1, v2, v3, v4, v5, v6, v7, v8] [] I := st_if_ne (ins_of mI_35 (by rfl)) (by decide)
theorem r35_13 : runs cal 35 13 [v0, v1, v2, v3, v4, v5, vI w, v7, v8] [] I = runs cal 35 15 [v0, v1, v2, v3, v4, v5, vI w, v7, v8] [vI w] I := runs_to (ins_of mI_35 (by rfl)) rfl rfl
theorem r35_15 : runs cal 35 15 [vR 2, v1, v2, v3, v4, v5, v6, v7, v8] [vI x0] I = runs cal 35 16 [vR 2, v1, v2, v3, v4, v5, v6, v7, v8] [vR 2, vI x0] I := runs_to (ins_of mI_35 (by rfl)) rfl rfl
theorem r35_16 : runs cal 35 16 [v0, v1, v2, v3, v4, v5, v6, v7, v8] [vR 2, vI x1] I = runs cal 35 19 [v0, v1, v2, v3, v4, v5, v6, v7, v8] [vR 8, vI x1] I := st_getR (ins_of mI_35 (by rfl)) mC_35 (by decide) fr_0_31 cT_2 (wdc wid_35 wd_2) rfl rfl
theorem r35_19 : runs cal 35 19 [v0, v1, v2, vI w, v4, v5, v6, v7, v8] [vR 8, vI x1] I = runs cal 35 20 [v0, v1, v2, vI w, v4, v5, v6, v7, v8] [vI w, vR 8, vI x1] I := runs_to (ins_of mI_35 (by rfl)) rfl rfl
theorem r35_20 : runs cal 35 20 [v0, v1, v2, v3, v4, v5, v6, v7, v8] [vI x0, vR 8, vI x2] I = if 0 ≤ x0 ∧ x0 < 2 then runs cal 35 21 [v0, v1, v2, v3, v4, v5, v6, v7, v8] [vI (I 8 x0), vI x2] I else none := st_iald (ins_of mI_35 (by rfl)) cT_8 (wdc wid_35 wd_8)
theorem r35_21 : runs cal 35 21 [v0, v1, v2, v3, v4, v5, v6, v7, v8] [vI x0, vI x1] I = runs cal 35 22 [v0, v1, v2, v3, v4, v5, v6, v7, v8] [vI (isub x1 x0)] I := runs_to (ins_of mI_35 (by rfl)) rfl rfl
theorem r35_22 : runs cal 35 22 [v0, v1, v2, v3, v4, v5, v6, v7, v8] [vI x0] I = runs cal 35 29 [v0, v1, v2, v3, v4, v5, v6, v7, v8] [vI x0] I := st_goto (ins_of mI_35 (by rfl)) (by decide)
theorem r35_25 : runs cal 35 25 [v0, v1, v2, v3, v4, v5, vI w, v7, v8] [] I = runs cal 35 27 [v0, v1, v2, v3, v4, v5, vI w, v7, v8] [vI w] I := runs_to (ins_of mI_35 (by rfl)) rfl rfl
theorem r35_27 : runs cal 35 27 [v0, v1, v2, v3, v4, v5, v6, v7, v8] [vI x0] I = runs cal 35 28 [v0, v1, v2, v3, v4, v5, v6, v7, v8] [vI (1), vI x0] I := runs_to (ins_of mI_35 (by rfl)) rfl rfl
theorem r35_28 : runs cal 35 28 [v0, v1, v2, v3, v4, v5, v6, v7, v8] [vI x0, vI x1] I = runs cal 35 29 [v0, v1, v2, v3, v4, v5, v6, v7, v8] [vI (iadd x1 x0)] I := runs_to (ins_of mI_35 (by rfl)) rfl rfl
theorem r35_29 : runs cal 35 29 [v0, v1, v2, v3, v4, v5, vI u, v7, v8] [vI x0] I = runs cal 35 31 [v0, v1, v2, v3, v4, v5, vI u, vI x0, v8] [] I := runs_to (ins_of mI_35 (by rfl)) rfl rfl
theorem r35_31 : runs cal 35 31 [v0, v1, v2, v3, v4, v5, v6, vI w, v8] [] I = runs cal 35 33 [v0, v1, v2, v3, v4, v5, v6, vI w, v8] [vI w] I := runs_to (ins_of mI_35 (by rfl)) rfl rfl
theorem r35_33 : runs cal 35 33 [v0, v1, v2, v3, v4, v5, v6, v7, v8] [vI x0] I = if x0 < 0 then runs cal 35 54 [v0, v1, v2, v3, v4, v5, v6, v7, v8] [] I else runs cal 35 36 [v0, v1, v2, v3, v4, v5, v6, v7, v8] [] I := st_if_lt (ins_of mI_35 (by rfl)) (by decide)
theorem r35_36 : runs cal 35 36 [v0, v1, v2, v3, v4, v5, v6, vI w, v8] [] I = runs cal 35 38 [v0, v1, v2, v3, v4, v5, v6, vI w, v8] [vI w] I := runs_to (ins_of mI_35 (by rfl)) rfl rfl
theorem r35_38 : runs cal 35 38 [vR 2, v1, v2, v3, v4, v5, v6, v7, v8] [vI x0] I = runs cal 35 39 [vR 2, v1, v2, v3, v4, v5, v6, v7, v8] [vR 2, vI x0] I := runs_to (ins_of mI_35 (by rfl)) rfl rfl
theorem r35_39 : runs cal 35 39 [v0, v1, v2, v3, v4, v5, v6, v7, v8] [vR 2, vI x1] I = runs cal 35 42 [v0, v1, v2, v3, v4, v5, v6, v7, v8] [vR 8, vI x1] I := st_getR (ins_of mI_35 (by rfl)) mC_35 (by decide) fr_0_31 cT_2 (wdc wid_35 wd_2) rfl rfl
theorem r35_42 : runs cal 35 42 [v0, v1, v2, vI w, v4, v5, v6, v7, v8] [vR 8, vI x1] I = runs cal 35 43 [v0, v1, v2, vI w, v4, v5, v6, v7, v8] [vI w, vR 8, vI x1] I := runs_to (ins_of mI_35 (by rfl)) rfl rfl
theorem r35_43 : runs cal 35 43 [v0, v1, v2, v3, v4, v5, v6, v7, v8] [vI x0, vR 8, vI x2] I = if 0 ≤ x0 ∧ x0 < 2 then runs cal 35 44 [v0, v1, v2, v3, v4, v5, v6, v7, v8] [vI (I 8 x0), vI x2] I else none := st_iald (ins_of mI_35 (by rfl)) cT_8 (wdc wid_35 wd_8)
theorem r35_44 : runs cal 35 44 [v0, v1, v2, v3, v4, v5, v6, v7, v8] [vI x0, vI x1] I = runs cal 35 45 [v0, v1, v2, v3, v4, v5, v6, v7, v8] [vI (iadd x1 x0)] I := runs_to (ins_of mI_35 (by rfl)) rfl rfl
theorem r35_45 : runs cal 35 45 [v0, v1, v2, v3, v4, v5, v6, v7, v8] [vI x0] I = runs cal 35 46 [v0, v1, v2, v3, v4, v5, v6, v7, v8] [vI (1), vI x0] I := runs_to (ins_of mI_35 (by rfl)) rfl rfl
theorem r35_46 : runs cal 35 46 [v0, v1, v2, v3, v4, v5, v6, v7, v8] [vI x0, vI x1] I = runs cal 35 47 [v0, v1, v2, v3, v4, v5, v6, v7, v8] [vI (isub x1 x0)] I := runs_to (ins_of mI_35 (by rfl)) rfl rfl
theorem r35_47 : runs cal 35 47 [vR 2, v1, v2, v3, v4, v5, v6, v7, v8] [vI x0] I = runs cal 35 48 [vR 2, v1, v2, v3, v4, v5, v6, v7, v8] [vR 2, vI x0] I := runs_to (ins_of mI_35 (by rfl)) rfl rfl
theorem r35_48 : runs cal 35 48 [v0, v1, v2, v3, v4, v5, v6, v7, v8] [vR 2, vI x1] I = runs cal 35 51 [v0, v1, v2, v3, v4, v5, v6, v7, v8] [vI (I 2 0), vI x1] I := st_getI (ins_of mI_35 (by rfl)) mC_35 (by decide) fr_0_11 cT_2 (wdc wid_35 wd_2) (Or.inl rfl)
theorem r35_51 : runs cal 35 51 [v0, v1, v2, v3, v4, v5, v6, v7, v8] [vI x0, vI x1] I = if x0 < x1 then runs cal 35 54 [v0, v1, v2, v3, v4, v5, v6, v7, v8] [] I else runs cal 35 57 [v0, v1, v2, v3, v4, v5, v6, v7, v8] [] I := st_cmp_le (ins_of mI_35 (by rfl)) (by decide)
theorem r35_54 : runs cal 35 54 [v0, v1, v2, v3, v4, v5, v6, v7, v8] [] I = runs cal 35 56 [v0, v1, v2, v3, v4, v5, v6, v7, v8] [vI (-2)] I := runs_to (ins_of mI_35 (by rfl)) rfl rfl
theorem r35_56 : runs cal 35 56 [v0, v1, v2, v3, v4, v5, v6, v7, v8] [vI x0] I = some (some (vI x0), I) := st_ret (q := some (vI x0)) (k := 0) (ins_of mI_35 (by rfl)) rfl (by decide) mR_35 rfl trivial
theorem r35_57 : runs cal 35 57 [vR 2, v1, v2, v3, v4, v5, v6, v7, v8] [] I = runs cal 35 58 [vR 2, v1, v2, v3, v4, v5, v6, v7, v8] [vR 2] I := runs_to (ins_of mI_35 (by rfl)) rfl rfl
theorem r35_58 : runs cal 35 58 [vR 2, v1, v2, v3, v4, v5, v6, v7, v8] [vR 2] I = runs cal 35 59 [vR 2, v1, v2, v3, v4, v5, v6, v7, v8] [vR 2, vR 2] I := runs_to (ins_of mI_35 (by rfl)) rfl rfl
theorem r35_59 : runs cal 35 59 [v0, v1, v2, v3, v4, v5, v6, v7, v8] [vR 2, vR 2] I = runs cal 35 62 [v0, v1, v2, v3, v4, v5, v6, v7, v8] [vR 8, vR 2] I := st_getR (ins_of mI_35 (by rfl)) mC_35 (by decide) fr_0_31 cT_2 (wdc wid_35 wd_2) rfl rfl
theorem r35_62 : runs cal 35 62 [v0, v1, v2, vI w, v4, v5, v6, v7, v8] [vR 8, vR 2] I = runs cal 35 63 [v0, v1, v2, vI w, v4, v5, v6, v7, v8] [vI w, vR 8, vR 2] I := runs_to (ins_of mI_35 (by rfl)) rfl rfl
theorem r35_63 : runs cal 35 63 [v0, v1, v2, v3, v4, v5, v6, v7, v8] [vI x0, vR 8, vR 2] I = if 0 ≤ x0 ∧ x0 < 2 then runs cal 35 64 [v0, v1, v2, v3, v4, v5, v6, v7, v8] [vI (I 8 x0), vR 2] I else none := st_iald (ins_of mI_35 (by rfl)) cT_8 (wdc wid_35 wd_8)
theorem r35_64 : runs cal 35 64 [v0, v1, v2, v3, v4, v5, v6, vI w, v8] [vI x0, vR 2] I = runs cal 35 66 [v0, v1, v2, v3, v4, v5, v6, vI w, v8] [vI w, vI x0, vR 2] I := runs_to (ins_of mI_35 (by rfl)) rfl rfl
theorem r35_66 : runs cal 35 66 [v0, v1, v2, v3, v4, v5, v6, v7, v8] [vI x0, vI x1, vR 2] I = (cal 19 [vR 2, vI x1, vI x0] I).bind (fun q => runs cal 35 69 [v0, v1, v2, v3, v4, v5, v6, v7, v8] (pushR q.1 []) q.2) := st_call (st := false) (ins_of mI_35 (by rfl)) mC_35 mr_0_62 (by decide) mS_19 mN_19 rfl (Nat.le_of_ble_eq_true rfl) rfl rfl (Or.inr ⟨_, _, rfl, rcv mC_19 rfl wid_35 (by decide +kernel)⟩) (Or.inl (wid_35.trans wid_19.symm))
theorem r35_69 : runs cal 35 69 [v0, v1, v2, v3, v4, vI w, v6, v7, v8] [vI x0] I = runs cal 35 71 [v0, v1, v2, v3, v4, vI w, v6, v7, v8] [vI w, vI x0] I := runs_to (ins_of mI_35 (by rfl)) rfl rfl
theorem r35_71 : runs cal 35 71 [v0, v1, v2, v3, v4, v5, v6, v7, v8] [vI x0, vI x1] I = runs cal 35 72 [v0, v1, v2, v3, v4, v5, v6, v7, v8] [vI (iand x1 x0)] I := runs_to (ins_of mI_35 (by rfl)) rfl rfl
theorem r35_72 : runs cal 35 72 [v0, v1, v2, v3, v4, v5, v6, v7, v8] [vI x0] I = if x0 = 0 then runs cal 35 75 [v0, v1, v2, v3, v4, v5, v6, v7, v8] [] I else runs cal 35 79 [v0, v1, v2, v3, v4, v5, v6, v7, v8] [] I := st_if_ne (ins_of mI_35 (by rfl)) (by decide)
theorem r35_75 : runs cal 35 75 [v0, v1, v2, v3, v4, v5, v6, v7, v8] [] I = runs cal 35 76 [v0, v1, v2, v3, v4, v5, v6, v7, v8] [vI (1)] I := runs_to (ins_of mI_35 (by rfl)) rfl rfl
theorem r35_76 : runs cal 35 76 [v0, v1, v2, v3, v4, v5, v6, v7, v8] [vI x0] I = runs cal 35 80 [v0, v1, v2, v3, v4, v5, v6, v7, v8] [vI x0] I := st_goto (ins_of mI_35 (by rfl)) (by decide)
theorem r35_79 : runs cal 35 79 [v0, v1, v2, v3, v4, v5, v6, v7, v8] [] I = runs cal 35 80 [v0, v1, v2, v3, v4, v5, v6, v7, v8] [vI (0)] I := runs_to (ins_of mI_35 (by rfl)) rfl rfl
theorem r35_80 : runs cal 35 80 [v0, v1, v2, v3, v4, v5, v6, vI u, v8] [vI x0] I = runs cal 35 82 [v0, v1, v2, v3, v4, v5, v6, vI u, vI x0] [] I := runs_to (ins_of mI_35 (by rfl)) rfl rfl
theorem r35_82 : runs cal 35 82 [v0, v1, v2, v3, v4, v5, v6, v7, vI w] [] I = runs cal 35 84 [v0, v1, v2, v3, v4, v5, v6, v7, vI w] [vI w] I := runs_to (ins_of mI_35 (by rfl)) rfl rfl
theorem r35_84 : runs cal 35 84 [v0, v1, v2, v3, v4, v5, v6, v7, v8] [vI x0] I = if x0 = 0 then runs cal 35 98 [v0, v1, v2, v3, v4, v5, v6, v7, v8] [] I else runs cal 35 87 [v0, v1, v2, v3, v4, v5, v6, v7, v8] [] I := st_if_eq (ins_of mI_35 (by rfl)) (by decide)
theorem r35_87 : runs cal 35 87 [vR 2, v1, v2, v3, v4, v5, v6, v7, v8] [] I = runs cal 35 88 [vR 2, v1, v2, v3, v4, v5, v6, v7, v8] [vR 2] I := runs_to (ins_of mI_35 (by rfl)) rfl rfl
theorem r35_88 : runs cal 35 88 [v0, vI w, v2, v3, v4, v5, v6, v7, v8] [vR 2] I = runs cal 35 89 [v0, vI w, v2, v3, v4, v5, v6, v7, v8] [vI w, vR 2] I := runs_to (ins_of mI_35 (by rfl)) rfl rfl
theorem r35_89 : runs cal 35 89 [v0, v1, v2, vI w, v4, v5, v6, v7, v8] [vI x0, vR 2] I = runs cal 35 90 [v0, v1, v2, vI w, v4, v5, v6, v7, v8] [vI w, vI x0, vR 2] I := runs_to (ins_of mI_35 (by rfl)) rfl rfl
theorem r35_90 : runs cal 35 90 [v0, v1, v2, v3, v4, v5, v6, vI w, v8] [vI x0, vI x1, vR 2] I = runs cal 35 92 [v0, v1, v2, v3, v4, v5, v6, vI w, v8] [vI w, vI x0, vI x1, vR 2] I := runs_to (ins_of mI_35 (by rfl)) rfl rfl
theorem r35_92 : runs cal 35 92 [v0, v1, v2, v3, v4, v5, v6, v7, v8] [vI x0, vI x1, vI x2, vR 2] I = (cal 11 [vR 2, vI x2, vI x1, vI x0] I).bind (fun q => runs cal 35 95 [v0, v1, v2, v3, v4, v5, v6, v7, v8] (pushR q.1 []) q.2) := st_call (st := false) (ins_of mI_35 (by rfl)) mC_35 mr_0_73 (by decide) mS_11 mN_11 rfl (Nat.le_of_ble_eq_true rfl) rfl rfl (Or.inr ⟨_, _, rfl, rcv mC_11 rfl wid_35 (by decide +kernel)⟩) (Or.inl (wid_35.trans wid_11.symm))
theorem r35_95 : runs cal 35 95 [v0, v1, v2, v3, v4, v5, v6, v7, v8] [vI x0] I = runs cal 35 100 [v0, v1, v2, v3, v4, v5, v6, v7, v8] [vI x0] I := st_goto (ins_of mI_35 (by rfl)) (by decide)
theorem r35_98 : runs cal 35 98 [v0, v1, v2, v3, v4, v5, v6, v7, v8] [] I = runs cal 35 100 [v0, v1, v2, v3, v4, v5, v6, v7, v8] [vI (-2)] I := runs_to (ins_of mI_35 (by rfl)) rfl rfl
theorem r35_100 : runs cal 35 100 [v0, v1, v2, v3, v4, v5, v6, v7, v8] [vI x0] I = some (some (vI x0), I) := st_ret (q := some (vI x0)) (k := 0) (ins_of mI_35 (by rfl)) rfl (by decide) mR_35 rfl trivial
theorem r36_0 : runs cal 36 0 [vR 2, v1, v2, v3, v4, v5, v6, v7] [] I = runs cal 36 1 [vR 2, v1, v2, v3, v4, v5, v6, v7] [vR 2] I := runs_to (ins_of mI_36 (by rfl)) rfl rfl
theorem r36_1 : runs cal 36 1 [v0, vI w, v2, v3, v4, v5, v6, v7] [vR 2] I = runs cal 36 2 [v0, vI w, v2, v3, v4, v5, v6, v7] [vI w, vR 2] I := runs_to (ins_of mI_36 (by rfl)) rfl rfl
theorem r36_2 : runs cal 36 2 [v0, v1, v2, vI w, v4, v5, v6, v7] [vI x0, vR 2] I = runs cal 36 3 [v0, v1, v2, vI w, v4, v5, v6, v7] [vI w, vI x0, vR 2] I := runs_to (ins_of mI_36 (by rfl)) rfl rfl
theorem r36_3 : runs cal 36 3 [v0, v1, v2, v3, v4, v5, v6, v7] [vI x0, vI x1, vR 2] I = (cal 9 [vR 2, vI x1, vI x0] I).bind (fun q => runs cal 36 6 [v0, v1, v2, v3, v4, v5, v6, v7] (pushR q.1 []) q.2) := st_call (st := false) (ins_of mI_36 (by rfl)) mC_36 mr_0_141 (by decide) mS_9 mN_9 rfl (Nat.le_of_ble_eq_true rfl) rfl rfl (Or.inr ⟨_, _, rfl, rcv mC_9 rfl wid_36 (by decide +kernel)⟩) (Or.inl (wid_36.trans wid_9.symm))
theorem r36_6 : runs cal 36 6 [v0, v1, v2, v3, v4, v5, v6, v7] [vI x0] I = if x0 = 0 then runs cal 36 19 [v0, v1, v2, v3, v4, v5, v6, v7] [] I else runs cal 36 9 [v0, v1, v2, v3, v4, v5, v6, v7] [] I := st_if_eq (ins_of mI_36 (by rfl)) (by decide)
theorem r36_9 : runs cal 36 9 [vR 2, v1, v2, v3, v4, v5, v6, v7] [] I = runs cal 36 10 [vR 2, v1, v2, v3, v4, v5, v6, v7] [vR 2] I := runs_to (ins_of mI_36 (by rfl)) rfl rfl
theorem r36_10 : runs cal 36 10 [v0, v1, v2, v3, v4, v5, v6, v7] [vR 2] I = runs cal 36 13 [v0, v1, v2, v3, v4, v5, v6, v7] [vR 5] I := st_getR (ins_of mI_36 (by rfl)) mC_36 (by decide) fr_0_22 cT_2 (wdc wid_36 wd_2) rfl rfl
theorem r36_13 : runs cal 36 13 [v0, v1, v2, vI w, v4, v5, v6, v7] [vR 5] I = runs cal 36 14 [v0, v1, v2, vI w, v4, v5, v6, v7] [vI w, vR 5] I := runs_to (ins_of mI_36 (by rfl)) rfl rfl
theorem r36_14 : runs cal 36 14 [v0, v1, v2, v3, v4, v5, v6, v7] [vI x0, vR 5] I = if 0 ≤ x0 ∧ x0 < 2 then runs cal 36 15 [v0, v1, v2, v3, v4, v5, v6, v7] [vI (I 5 x0)] I else none := st_iald (ins_of mI_36 (by rfl)) cT_5 (wdc wid_36 wd_5)
theorem r36_15 : runs cal 36 15 [v0, v1, v2, v3, v4, v5, v6, v7] [vI x0] I = runs cal 36 16 [v0, v1, v2, v3, v4, v5, v6, v7] [vI (5), vI x0] I := runs_to (ins_of mI_36 (by rfl)) rfl rfl
theorem r36_16 : runs cal 36 16 [v0, v1, v2, v3, v4, v5, v6, v7] [vI x0, vI x1] I = if x1 = x0 then runs cal 36 19 [v0, v1, v2, v3, v4, v5, v6, v7] [] I else runs cal 36 22 [v0, v1, v2, v3, v4, v5, v6, v7] [] I := st_cmp_ne (ins_of mI_36 (by rfl)) (by decide)
theorem r36_19 : runs cal 36 19 [v0, v1, v2, v3, v4, v5, v6, v7] [] I = runs cal 36 21 [v0, v1, v2, v3, v4, v5, v6, v7] [vI (-2)] I := runs_to (ins_of mI_36 (by rfl)) rfl rfl
theorem r36_21 : runs cal 36 21 [v0, v1, v2, v3, v4, v5, v6, v7] [vI x0] I = some (some (vI x0), I) := st_ret (q := some (vI x0)) (k := 0) (ins_of mI_36 (by rfl)) rfl (by decide) mR_36 rfl trivial
theorem r36_22 : runs cal 36 22 [vR 2, v1, v2, v3, v4, v5, v6, v7] [] I = runs cal 36 23 [vR 2, v1, v2, v3, v4, v5, v6, v7] [vR 2] I := runs_to (ins_of mI_36 (by rfl)) rfl rfl
theorem r36_23 : runs cal 36 23 [v0, vI w, v2, v3, v4, v5, v6, v7] [vR 2] I = runs cal 36 24 [v0, vI w, v2, v3, v4, v5, v6, v7] [vI w, vR 2] I := runs_to (ins_of mI_36 (by rfl)) rfl rfl
theorem r36_24 : runs cal 36 24 [v0, v1, v2, vI w, v4, v5, v6, v7] [vI x0, vR 2] I = runs cal 36 25 [v0, v1, v2, vI w, v4, v5, v6, v7] [vI w, vI x0, vR 2] I := runs_to (ins_of mI_36 (by rfl)) rfl rfl
theorem r36_25 : runs cal 36 25 [v0, v1, v2, v3, v4, v5, v6, v7] [vI x0, vI x1, vR 2] I = (cal 8 [vR 2, vI x1, vI x0] I).bind (fun q => runs cal 36 28 [v0, v1, v2, v3, v4, v5, v6, v7] (pushR q.1 []) q.2) := st_call (st := false) (ins_of mI_36 (by rfl)) mC_36 mr_0_76 (by decide) mS_8 mN_8 rfl (Nat.le_of_ble_eq_true rfl) rfl rfl (Or.inr ⟨_, _, rfl, rcv mC_8 rfl wid_36 (by decide +kernel)⟩) (Or.inl (wid_36.trans wid_8.symm))
theorem r36_28 : runs cal 36 28 [v0, v1, v2, v3, v4, v5, v6, v7] [vI x0] I = runs cal 36 29 [v0, v1, v2, v3, v4, v5, v6, v7] [vI (1), vI x0] I := runs_to (ins_of mI_36 (by rfl)) rfl rfl
theorem r36_29 : runs cal 36 29 [v0, v1, v2, v3, v4, v5, v6, v7] [vI x0, vI x1] I = runs cal 36 30 [v0, v1, v2, v3, v4, v5, v6, v7] [vI (isub x1 x0)] I := runs_to (ins_of mI_36 (by rfl)) rfl rfl
theorem r36_30 : runs cal 36 30 [v0, v1, v2, vI u, v4, v5, v6, v7] [vI x0] I = runs cal 36 32 [v0, v1, v2, vI u, vI x0, v5, v6, v7] [] I := runs_to (ins_of mI_36 (by rfl)) rfl rfl
theorem r36_32 : runs cal 36 32 [v0, v1, v2, v3, vI w, v5, v6, v7] [] I = runs cal 36 34 [v0, v1, v2, v3, vI w, v5, v6, v7] [vI w] I := runs_to (ins_of mI_36 (by rfl)) rfl rfl
theorem r36_34 : runs cal 36 34 [vR 2, v1, v2, v3, v4, v5, v6, v7] [vI x0] I = runs cal 36 35 [vR 2, v1, v2, v3, v4, v5, v6, v7] [vR 2, vI x0] I := runs_to (ins_of mI_36 (by rfl)) rfl rfl
theorem r36_35 : runs cal 36 35 [v0, v1, v2, v3, v4, v5, v6, v7] [vR 2, vI x1] I = runs cal 36 38 [v0, v1, v2, v3, v4, v5, v6, v7] [vR 8, vI x1] I := st_getR (ins_of mI_36 (by rfl)) mC_36 (by decide) fr_0_31 cT_2 (wdc wid_36 wd_2) rfl rfl
theorem r36_38 : runs cal 36 38 [v0, v1, v2, vI w, v4, v5, v6, v7] [vR 8, vI x1] I = runs cal 36 39 [v0, v1, v2, vI w, v4, v5, v6, v7] [vI w, vR 8, vI x1] I := runs_to (ins_of mI_36 (by rfl)) rfl rfl
theorem r36_39 : runs cal 36 39 [v0, v1, v2, v3, v4, v5, v6, v7] [vI x0, vR 8, vI x2] I = if 0 ≤ x0 ∧ x0 < 2 then runs cal 36 40 [v0, v1, v2, v3, v4, v5, v6, v7] [vI (I 8 x0), vI x2] I else none := st_iald (ins_of mI_36 (by rfl)) cT_8 (wdc wid_36 wd_8)
theorem r36_40 : runs cal 36 40 [v0, v1, v2, v3, v4, v5, v6, v7] [vI x0, vI x1] I = runs cal 36 41 [v0, v1, v2, v3, v4, v5, v6, v7] [vI (iadd x1 x0)] I := runs_to (ins_of mI_36 (by rfl)) rfl rfl
theorem r36_41 : runs cal 36 41 [v0, v1, v2, v3, v4, v5, v6, v7] [vI x0] I = runs cal 36 42 [v0, v1, v2, v3, v4, v5, v6, v7] [vI (1), vI x0] I := runs_to (ins_of mI_36 (by rfl)) rfl rfl
theorem r36_42 : runs cal 36 42 [v0, v1, v2, v3, v4, v5, v6, v7] [vI x0, vI x1] I = runs cal 36 43 [v0, v1, v2, v3, v4, v5, v6, v7] [vI (iadd x1 x0)] I := runs_to (ins_of mI_36 (by rfl)) rfl rfl
theorem r36_43 : runs cal 36 43 [v0, v1, v2, v3, vI u, v5, v6, v7] [vI x0] I = runs cal 36 45 [v0, v1, v2, v3, vI u, vI x0, v6, v7] [] I := runs_to (ins_of mI_36 (by rfl)) rfl rfl
theorem r36_45 : runs cal 36 45 [vR 2, v1, v2, v3, v4, v5, v6, v7] [] I = runs cal 36 46 [vR 2, v1, v2, v3, v4, v5, v6, v7] [vR 2] I := runs_to (ins_of mI_36 (by rfl)) rfl rfl
theorem r36_46 : runs cal 36 46 [v0, vI w, v2, v3, v4, v5, v6, v7] [vR 2] I = runs cal 36 47 [v0, vI w, v2, v3, v4, v5, v6, v7] [vI w, vR 2] I := runs_to (ins_of mI_36 (by rfl)) rfl rfl
theorem r36_47 : runs cal 36 47 [v0, v1, vI w, v3, v4, v5, v6, v7] [vI x0, vR 2] I = runs cal 36 48 [v0, v1, vI w, v3, v4, v5, v6, v7] [vI w, vI x0, vR 2] I := runs_to (ins_of mI_36 (by rfl)) rfl rfl
theorem r36_48 : runs cal 36 48 [v0, v1, v2, v3, v4, v5, v6, v7] [vI x0, vI x1, vR 2] I = (cal 7 [vR 2, vI x1, vI x0] I).bind (fun q => runs cal 36 51 [v0, v1, v2, v3, v4, v5, v6, v7] (pushR q.1 []) q.2) := st_call (st := false) (ins_of mI_36 (by rfl)) mC_36 mr_0_79 (by decide) mS_7 mN_7 rfl (Nat.le_of_ble_eq_true rfl) rfl rfl (Or.inr ⟨_, _, rfl, rcv mC_7 rfl wid_36 (by decide +kernel)⟩) (Or.inl (wid_36.trans wid_7.symm))
theorem r36_51 : runs cal 36 51 [v0, v1, v2, v3, v4, vI u, v6, v7] [vI x0] I = runs cal 36 53 [v0, v1, v2, v3, v4, vI u, vI x0, v7] [] I := runs_to (ins_of mI_36 (by rfl)) rfl rfl
theorem r36_53 : runs cal 36 53 [v0, v1, v2, v3, v4, v5, vI w, v7] [] I = runs cal 36 55 [v0, v1, v2, v3, v4, v5, vI w, v7] [vI w] I := runs_to (ins_of mI_36 (by rfl)) rfl rfl
theorem r36_55 : runs cal 36 55 [v0, v1, v2, v3, vI w, v5, v6, v7] [vI x0] I = runs cal 36 57 [v0, v1, v2, v3, vI w, v5, v6, v7] [vI w, vI x0] I := runs_to (ins_of mI_36 (by rfl)) rfl rfl
theorem r36_57 : runs cal 36 57 [v0, v1, v2, v3, v4, v5, v6, v7] [vI x0, vI x1] I = if x1 = x0 then runs cal 36 70 [v0, v1, v2, v3, v4, v5, v6, v7] [] I else runs cal 36 60 [v0, v1, v2, v3, v4, v5, v6, v7] [] I := st_cmp_eq (ins_of mI_36 (by rfl)) (by decide)
theorem r36_60 : runs cal 36 60 [v0, v1, v2, v3, v4, v5, vI w, v7] [] I = runs cal 36 62 [v0, v1, v2, v3, v4, v5, vI w, v7] [vI w] I := runs_to (ins_of mI_36 (by rfl)) rfl rfl
theorem r36_62 : runs cal 36 62 [v0, v1, v2, v3, v4, vI w, v6, v7] [vI x0] I = runs cal 36 64 [v0, v1, v2, v3, v4, vI w, v6, v7] [vI w, vI x0] I := runs_to (ins_of mI_36 (by rfl)) rfl rfl
theorem r36_64 : runs cal 36 64 [v0, v1, v2, v3, v4, v5, v6, v7] [vI x0, vI x1] I = if x1 = x0 then runs cal 36 70 [v0, v1, v2, v3, v4, v5, v6, v7] [] I else runs cal 36 67 [v0, v1, v2, v3, v4, v5, v6, v7] [] I := st_cmp_eq (ins_of mI_36 (by rfl)) (by decide)
theorem r36_67 : runs cal 36 67 [v0, v1, v2, v3, v4, v5, v6, v7] [] I = runs cal 36 69 [v0, v1, v2, v3, v4, v5, v6, v7] [vI (-2)] I := runs_to (ins_of mI_36 (by rfl)) rfl rfl
theorem r36_69 : runs cal 36 69 [v0, v1, v2, v3, v4, v5, v6, v7] [vI x0] I = some (some (vI x0), I) := st_ret (q := some (vI x0)) (k := 0) (ins_of mI_36 (by rfl)) rfl (by decide) mR_36 rfl trivial
theorem r36_70 : runs cal 36 70 [vR 2, v1, v2, v3, v4, v5, v6, v7] [] I = runs cal 36 71 [vR 2, v1, v2, v3, v4, v5, v6, v7] [vR 2] I := runs_to (ins_of mI_36 (by rfl)) rfl rfl
theorem r36_71 : runs cal 36 71 [v0, v1, v2, v3, v4, v5, v6, v7] [vR 2] I = runs cal 36 74 [v0, v1, v2, v3, v4, v5, v6, v7] [vR 5] I := st_getR (ins_of mI_36 (by rfl)) mC_36 (by decide) fr_0_22 cT_2 (wdc wid_36 wd_2) rfl rfl
theorem r36_74 : runs cal 36 74 [v0, v1, v2, vI w, v4, v5, v6, v7] [vR 5] I = runs cal 36 75 [v0, v1, v2, vI w, v4, v5, v6, v7] [vI w, vR 5] I := runs_to (ins_of mI_36 (by rfl)) rfl rfl
theorem r36_75 : runs cal 36 75 [v0, v1, v2, v3, v4, v5, v6, v7] [vI x0, vR 5] I = if 0 ≤ x0 ∧ x0 < 2 then runs cal 36 76 [v0, v1, v2, v3, v4, v5, v6, v7] [vI (I 5 x0)] I else none := st_iald (ins_of mI_36 (by rfl)) cT_5 (wdc wid_36 wd_5)
theorem r36_76 : runs cal 36 76 [v0, v1, v2, v3, v4, v5, v6, v7] [vI x0] I = runs cal 36 77 [v0, v1, v2, v3, v4, v5, v6, v7] [vI (4), vI x0] I := runs_to (ins_of mI_36 (by rfl)) rfl rfl
theorem r36_77 : runs cal 36 77 [v0, v1, v2, v3, v4, v5, v6, v7] [vI x0, vI x1] I = if x1 = x0 then runs cal 36 80 [v0, v1, v2, v3, v4, v5, v6, v7] [] I else runs cal 36 105 [v0, v1, v2, v3, v4, v5, v6, v7] [] I := st_cmp_ne (ins_of mI_36 (by rfl)) (by decide)
theorem r36_80 : runs cal 36 80 [vR 2, v1, v2, v3, v4, v5, v6, v7] [] I = runs cal 36 81 [vR 2, v1, v2, v3, v4, v5, v6, v7] [vR 2] I := runs_to (ins_of mI_36 (by rfl)) rfl rfl
theorem r36_81 : runs cal 36 81 [v0, vI w, v2, v3, v4, v5, v6, v7] [vR 2] I = runs cal 36 82 [v0, vI w, v2, v3, v4, v5, v6, v7] [vI w, vR 2] I := runs_to (ins_of mI_36 (by rfl)) rfl rfl
theorem r36_82 : runs cal 36 82 [v0, v1, v2, v3, v4, v5, vI w, v7] [vI x0, vR 2] I = runs cal 36 84 [v0, v1, v2, v3, v4, v5, vI w, v7] [vI w, vI x0, vR 2] I := runs_to (ins_of mI_36 (by rfl)) rfl rfl
theorem r36_84 : runs cal 36 84 [v0, v1, v2, v3, vI w, v5, v6, v7] [vI x0, vI x1, vR 2] I = runs cal 36 86 [v0, v1, v2, v3, vI w, v5, v6, v7] [vI w, vI x0, vI x1, vR 2] I := runs_to (ins_of mI_36 (by rfl)) rfl rfl
theorem r36_86 : runs cal 36 86 [v0, v1, v2, v3, v4, v5, v6, v7] [vI x0, vI x1, vI x2, vR 2] I = if x1 = x0 then runs cal 36 89 [v0, v1, v2, v3, v4, v5, v6, v7] [vI x2, vR 2] I else runs cal 36 94 [v0, v1, v2, v3, v4, v5, v6, v7] [vI x2, vR 2] I := st_cmp_ne (ins_of mI_36 (by rfl)) (by decide)
theorem r36_89 : runs cal 36 89 [v0, v1, v2, v3, v4, vI w, v6, v7] [vI x0, vR 2] I = runs cal 36 91 [v0, v1, v2, v3, v4, vI w, v6, v7] [vI w, vI x0, vR 2] I := runs_to (ins_of mI_36 (by rfl)) rfl rfl
theorem r36_91 : runs cal 36 91 [v0, v1, v2, v3, v4, v5, v6, v7] [vI x0, vI x1, vR 2] I = runs cal 36 96 [v0, v1, v2, v3, v4, v5, v6, v7] [vI x0, vI x1, vR 2] I := st_goto (ins_of mI_36 (by rfl)) (by decide)
theorem r36_94 : runs cal 36 94 [v0, v1, v2, v3, vI w, v5, v6, v7] [vI x0, vR 2] I = runs cal 36 96 [v0, v1, v2, v3, vI w, v5, v6, v7] [vI w, vI x0, vR 2] I := runs_to (ins_of mI_36 (by rfl)) rfl rfl
theorem r36_96 : runs cal 36 96 [v0, v1, v2, v3, v4, v5, v6, v7] [vI x0, vI x1, vR 2] I = (cal 27 [vR 2, vI x1, vI x0] I).bind (fun q => runs cal 36 99 [v0, v1, v2, v3, v4, v5, v6, v7] (pushR q.1 []) q.2) := st_call (st := false) (ins_of mI_36 (by rfl)) mC_36 mr_0_144 (by decide) mS_27 mN_27 rfl (Nat.le_of_ble_eq_true rfl) rfl rfl (Or.inr ⟨_, _, rfl, rcv mC_27 rfl wid_36 (by decide +kernel)⟩) (Or.inl (wid_36.trans wid_27.symm))
theorem r36_99 : runs cal 36 99 [v0, v1, v2, v3, v4, v5, v6, v7] [vI x0] I = if x0 = 0 then runs cal 36 102 [v0, v1, v2, v3, v4, v5, v6, v7] [] I else runs cal 36 105 [v0, v1, v2, v3, v4, v5, v6, v7] [] I := st_if_ne (ins_of mI_36 (by rfl)) (by decide)
theorem r36_102 : runs cal 36 102 [v0, v1, v2, v3, v4, v5, v6, v7] [] I = runs cal 36 104 [v0, v1, v2, v3, v4, v5, v6, v7] [vI (-2)] I := runs_to (ins_of mI_36 (by rfl)) rfl rfl
theorem r36_104 : runs cal 36 104 [v0, v1, v2, v3, v4, v5, v6, v7] [vI x0] I = some (some (vI x0), I) := st_ret (q := some (vI x0)) (k := 0) (ins_of mI_36 (by rfl)) rfl (by decide) mR_36 rfl trivial
theorem r36_105 : runs cal 36 105 [vR 2, v1, v2, v3, v4, v5, v6, v7] [] I = runs cal 36 106 [vR 2, v1, v2, v3, v4, v5, v6, v7] [vR 2] I := runs_to (ins_of mI_36 (by rfl)) rfl rfl
theorem r36_106 : runs cal 36 106 [v0, vI w, v2, v3, v4, v5, v6, v7] [vR 2] I = runs cal 36 107 [v0, vI w, v2, v3, v4, v5, v6, v7] [vI w, vR 2] I := runs_to (ins_of mI_36 (by rfl)) rfl rfl
theorem r36_107 : runs cal 36 107 [v0, v1, v2, vI w, v4, v5, v6, v7] [vI x0, vR 2] I = runs cal 36 108 [v0, v1, v2, vI w, v4, v5, v6, v7] [vI w, vI x0, vR 2] I := runs_to (ins_of mI_36 (by rfl)) rfl rfl
theorem r36_108 : runs cal 36 108 [v0, v1, v2, v3, v4, v5, v6, v7] [vI x0, vI x1, vR 2] I = (cal 20 [vR 2, vI x1, vI x0] I).bind (fun q => runs cal 36 111 [v0, v1, v2, v3, v4, v5, v6, v7] (pushR q.1 []) q.2) := st_call (st := false) (ins_of mI_36 (by rfl)) mC_36 mr_0_92 (by decide) mS_20 mN_20 rfl (Nat.le_of_ble_eq_true rfl) rfl rfl (Or.inr ⟨_, _, rfl, rcv mC_20 rfl wid_36 (by decide +kernel)⟩) (Or.inl (wid_36.trans wid_20.symm))
theorem r36_111 : runs cal 36 111 [vR 2, v1, v2, v3, v4, v5, v6, v7] [vI x0] I = runs cal 36 112 [vR 2, v1, v2, v3, v4, v5, v6, v7] [vR 2, vI x0] I := runs_to (ins_of mI_36 (by rfl)) rfl rfl
theorem r36_112 : runs cal 36 112 [v0, vI w, v2, v3, v4, v5, v6, v7] [vR 2, vI x1] I = runs cal 36 113 [v0, vI w, v2, v3, v4, v5, v6, v7] [vI w, vR 2, vI x1] I := runs_to (ins_of mI_36 (by rfl)) rfl rfl
theorem r36_113 : runs cal 36 113 [v0, v1, v2, v3, v4, v5, v6, v7] [vI x0, vR 2, vI x2] I = (cal 24 [vR 2, vI x0] I).bind (fun q => runs cal 36 116 [v0, v1, v2, v3, v4, v5, v6, v7] (pushR q.1 [vI x2]) q.2) := st_call (st := false) (ins_of mI_36 (by rfl)) mC_36 mr_0_115 (by decide) mS_24 mN_24 rfl (Nat.le_of_ble_eq_true rfl) rfl rfl (Or.inr ⟨_, _, rfl, rcv mC_24 rfl wid_36 (by decide +kernel)⟩) (Or.inl (wid_36.trans wid_24.symm))
theorem r36_116 : runs cal 36 116 [v0, v1, v2, v3, v4, v5, v6, v7] [vI x0, vI x1] I = runs cal 36 117 [v0, v1, v2, v3, v4, v5, v6, v7] [vI (iand x1 x0)] I := runs_to (ins_of mI_36 (by rfl)) rfl rfl
theorem r36_117 : runs cal 36 117 [v0, v1, v2, v3, v4, v5, v6, v7] [vI x0] I = if x0 = 0 then runs cal 36 124 [v0, v1, v2, v3, v4, v5, v6, v7] [] I else runs cal 36 120 [v0, v1, v2, v3, v4, v5, v6, v7] [] I := st_if_eq (ins_of mI_36 (by rfl)) (by decide)
theorem r36_120 : runs cal 36 120 [v0, v1, v2, v3, v4, v5, v6, v7] [] I = runs cal 36 121 [v0, v1, v2, v3, v4, v5, v6, v7] [vI (1)] I := runs_to (ins_of mI_36 (by rfl)) rfl rfl
theorem r36_121 : runs cal 36 121 [v0, v1, v2, v3, v4, v5, v6, v7] [vI x0] I = runs cal 36 125 [v0, v1, v2, v3, v4, v5, v6, v7] [vI x0] I := st_goto (ins_of mI_36 (by rfl)) (by decide)
theorem r36_124 : runs cal 36 124 [v0, v1, v2, v3, v4, v5, v6, v7] [] I = runs cal 36 125 [v0, v1, v2, v3, v4, v5, v6, v7] [vI (0)] I := runs_to (ins_of mI_36 (by rfl)) rfl rfl
theorem r36_125 : runs cal 36 125 [v0, v1, v2, v3, v4, v5, vI u, v7] [vI x0] I = runs cal 36 127 [v0, v1, v2, v3, v4, v5, vI u, vI x0] [] I := runs_to (ins_of mI_36 (by rfl)) rfl rfl
theorem r36_127 : runs cal 36 127 [v0, v1, v2, v3, v4, v5, v6, vI w] [] I = runs cal 36 129 [v0, v1, v2, v3, v4, v5, v6, vI w] [vI w] I := runs_to (ins_of mI_36 (by rfl)) rfl rfl
theorem r36_129 : runs cal 36 129 [v0, v1, v2, v3, v4, v5, v6, v7] [vI x0] I = if x0 = 0 then runs cal 36 132 [v0, v1, v2, v3, v4, v5, v6, v7] [] I else runs cal 36 142 [v0, v1, v2, v3, v4, v5, v6, v7] [] I := st_if_ne (ins_of mI_36 (by rfl)) (by decide)
theorem r36_132 : runs cal 36 132 [vR 2, v1, v2, v3, v4, v5, v6, v7] [] I = runs cal 36 133 [vR 2, v1, v2, v3, v4, v5, v6, v7] [vR 2] I := runs_to (ins_of mI_36 (by rfl)) rfl rfl
theorem r36_133 : runs cal 36 133 [v0, vI w, v2, v3, v4, v5, v6, v7] [vR 2] I = runs cal 36 134 [v0, vI w, v2, v3, v4, v5, v6, v7] [vI w, vR 2] I := runs_to (ins_of mI_36 (by rfl)) rfl rfl
theorem r36_134 : runs cal 36 134 [v0, v1, vI w, v3, v4, v5, v6, v7] [vI x0, vR 2] I = runs cal 36 135 [v0, v1, vI w, v3, v4, v5, v6, v7] [vI w, vI x0, vR 2] I := runs_to (ins_of mI_36 (by rfl)) rfl rfl
theorem r36_135 : runs cal 36 135 [v0, v1, v2, v3, v4, v5, v6, v7] [vI x0, vI x1, vR 2] I = (cal 16 [vR 2, vI x1, vI x0] I).bind (fun q => runs cal 36 138 [v0, v1, v2, v3, v4, v5, v6, v7] (pushR q.1 []) q.2) := st_call (st := false) (ins_of mI_36 (by rfl)) mC_36 mr_0_147 (by decide) mS_16 mN_16 rfl (Nat.le_of_ble_eq_true rfl) rfl rfl (Or.inr ⟨_, _, rfl, rcv mC_16 rfl wid_36 (by decide +kernel)⟩) (Or.inl (wid_36.trans wid_16.symm))
theorem r36_138 : runs cal 36 138 [v0, v1, v2, v3, v4, v5, v6, v7] [vI x0] I = runs cal 36 139 [v0, v1, v2, v3, v4, v5, v6, v7] [vI (-1), vI x0] I := runs_to (ins_of mI_36 (by rfl)) rfl rfl
theorem r36_139 : runs cal 36 139 [v0, v1, v2, v3, v4, v5, v6, v7] [vI x0, vI x1] I = if x1 = x0 then runs cal 36 147 [v0, v1, v2, v3, v4, v5, v6, v7] [] I else runs cal 36 142 [v0, v1, v2, v3, v4, v5, v6, v7] [] I := st_cmp_eq (ins_of mI_36 (by rfl)) (by decide)
theorem r36_142 : runs cal 36 142 [v0, v1, v2, v3, v4, v5, v6, v7] [] I = runs cal 36 144 [v0, v1, v2, v3, v4, v5, v6, v7] [vI (-2)] I := runs_to (ins_of mI_36 (by rfl)) rfl rfl
theorem r36_144 : runs cal 36 144 [v0, v1, v2, v3, v4, v5, v6, v7] [vI x0] I = runs cal 36 157 [v0, v1, v2, v3, v4, v5, v6, v7] [vI x0] I := st_goto (ins_of mI_36 (by rfl)) (by decide)
theorem r36_147 : runs cal 36 147 [vR 2, v1, v2, v3, v4, v5, v6, v7] [] I = runs cal 36 148 [vR 2, v1, v2, v3, v4, v5, v6, v7] [vR 2] I := runs_to (ins_of mI_36 (by rfl)) rfl rfl
theorem r36_148 : runs cal 36 148 [v0, vI w, v2, v3, v4, v5, v6, v7] [vR 2] I = runs cal 36 149 [v0, vI w, v2, v3, v4, v5, v6, v7] [vI w, vR 2] I := runs_to (ins_of mI_36 (by rfl)) rfl rfl
theorem r36_149 : runs cal 36 149 [v0, v1, v2, vI w, v4, v5, v6, v7] [vI x0, vR 2] I = runs cal 36 150 [v0, v1, v2, vI w, v4, v5, v6, v7] [vI w, vI x0, vR 2] I := runs_to (ins_of mI_36 (by rfl)) rfl rfl
theorem r36_150 : runs cal 36 150 [v0, v1, v2, v3, v4, v5, v6, v7] [vI x0, vI x1, vR 2] I = runs cal 36 152 [v0, v1, v2, v3, v4, v5, v6, v7] [vI (8), vI x0, vI x1, vR 2] I := runs_to (ins_of mI_36 (by rfl)) rfl rfl
theorem r36_152 : runs cal 36 152 [v0, v1, vI w, v3, v4, v5, v6, v7] [vI x0, vI x1, vI x2, vR 2] I = runs cal 36 153 [v0, v1, vI w, v3, v4, v5, v6, v7] [vI w, vI x0, vI x1, vI x2, vR 2] I := runs_to (ins_of mI_36 (by rfl)) rfl rfl
theorem r36_153 : runs cal 36 153 [v0, v1, v2, v3, v4, v5, v6, v7] [vI x0, vI x1, vI x2, vI x3, vR 2] I = runs cal 36 154 [v0, v1, v2, v3, v4, v5, v6, v7] [vI (iadd x1 x0), vI x2, vI x3, vR 2] I := runs_to (ins_of mI_36 (by rfl)) rfl rfl
theorem r36_154 : runs cal 36 154 [v0, v1, v2, v3, v4, v5, v6, v7] [vI x0, vI x1, vI x2, vR 2] I = (cal 11 [vR 2, vI x2, vI x1, vI x0] I).bind (fun q => runs cal 36 157 [v0, v1, v2, v3, v4, v5, v6, v7] (pushR q.1 []) q.2) := st_call (st := false) (ins_of mI_36 (by rfl)) mC_36 mr_0_73 (by decide) mS_11 mN_11 rfl (Nat.le_of_ble_eq_true rfl) rfl rfl (Or.inr ⟨_, _, rfl, rcv mC_11 rfl wid_36 (by decide +kernel)⟩) (Or.inl (wid_36.trans wid_11.symm))
theorem r36_157 : runs cal 36 157 [v0, v1, v2, v3, v4, v5, v6, v7] [vI x0] I = some (some (vI x0), I) := st_ret (q := some (vI x0)) (k := 0) (ins_of mI_36 (by rfl)) rfl (by decide) mR_36 rfl trivial
theorem r37_0 : runs cal 37 0 [vR 2, v1, v2, v3, v4, v5, v6] [] I = runs cal 37 1 [vR 2, v1, v2, v3, v4, v5, v6] [vR 2] I := runs_to (ins_of mI_37 (by rfl)) rfl rfl
theorem r37_1 : runs cal 37 1 [v0, vI w, v2, v3, v4, v5, v6] [vR 2] I = runs cal 37 2 [v0, vI w, v2, v3, v4, v5, v6] [vI w, vR 2] I := runs_to (ins_of mI_37 (by rfl)) rfl rfl
theorem r37_2 : runs cal 37 2 [v0, v1, vI w, v3, v4, v5, v6] [vI x0, vR 2] I = runs cal 37 3 [v0, v1, vI w, v3, v4, v5, v6] [vI w, vI x0, vR 2] I := runs_to (ins_of mI_37 (by rfl)) rfl rfl
theorem r37_3 : runs cal 37 3 [v0, v1, v2, v3, v4, v5, v6] [vI x0, vI x1, vR 2] I = (cal 7 [vR 2, vI x1, vI x0] I).bind (fun q => runs cal 37 6 [v0, v1, v2, v3, v4, v5, v6] (pushR q.1 []) q.2) := st_call (st := false) (ins_of mI_37 (by rfl)) mC_37 mr_0_79 (by decide) mS_7 mN_7 rfl (Nat.le_of_ble_eq_true rfl) rfl rfl (Or.inr ⟨_, _, rfl, rcv mC_7 rfl wid_37 (by decide +kernel)⟩) (Or.inl (wid_37.trans wid_7.symm))
theorem r37_6 : runs cal 37 6 [vR 2, v1, v2, v3, v4, v5, v6] [vI x0] I = runs cal 37 7 [vR 2, v1, v2, v3, v4, v5, v6] [vR 2, vI x0] I := runs_to (ins_of mI_37 (by rfl)) rfl rfl
theorem r37_7 : runs cal 37 7 [v0, vI w, v2, v3, v4, v5, v6] [vR 2, vI x1] I = runs cal 37 8 [v0, vI w, v2, v3, v4, v5, v6] [vI w, vR 2, vI x1] I := runs_to (ins_of mI_37 (by rfl)) rfl rfl
theorem r37_8 : runs cal 37 8 [v0, v1, v2, v3, vI w, v5, v6] [vI x0, vR 2, vI x2] I = runs cal 37 10 [v0, v1, v2, v3, vI w, v5, v6] [vI w, vI x0, vR 2, vI x2] I := runs_to (ins_of mI_37 (by rfl)) rfl rfl
theorem r37_10 : runs cal 37 10 [v0, v1, v2, v3, v4, v5, v6] [vI x0, vI x1, vR 2, vI x3] I = (cal 7 [vR 2, vI x1, vI x0] I).bind (fun q => runs cal 37 13 [v0, v1, v2, v3, v4, v5, v6] (pushR q.1 [vI x3]) q.2) := st_call (st := false) (ins_of mI_37 (by rfl)) mC_37 mr_0_79 (by decide) mS_7 mN_7 rfl (Nat.le_of_ble_eq_true rfl) rfl rfl (Or.inr ⟨_, _, rfl, rcv mC_7 rfl wid_37 (by decide +kernel)⟩) (Or.inl (wid_37.trans wid_7.symm))
theorem r37_13 : runs cal 37 13 [v0, v1, v2, v3, v4, v5, v6] [vI x0, vI x1] I = runs cal 37 14 [v0, v1, v2, v3, v4, v5, v6] [vI (isub x1 x0)] I := runs_to (ins_of mI_37 (by rfl)) rfl rfl
theorem r37_14 : runs cal 37 14 [v0, v1, v2, v3, vI u, v5, v6] [vI x0] I = runs cal 37 16 [v0, v1, v2, v3, vI u, vI x0, v6] [] I := runs_to (ins_of mI_37 (by rfl)) rfl rfl
theorem r37_16 : runs cal 37 16 [v0, v1, v2, v3, v4, vI w, v6] [] I = runs cal 37 18 [v0, v1, v2, v3, v4, vI w, v6] [vI w] I := runs_to (ins_of mI_37 (by rfl)) rfl rfl
theorem r37_18 : runs cal 37 18 [v0, v1, v2, v3, v4, v5, v6] [vI x0] I = runs cal 37 19 [v0, v1, v2, v3, v4, v5, v6] [vI (-1), vI x0] I := runs_to (ins_of mI_37 (by rfl)) rfl rfl
theorem r37_19 : runs cal 37 19 [v0, v1, v2, v3, v4, v5, v6] [vI x0, vI x1] I = if x1 < x0 then runs cal 37 32 [v0, v1, v2, v3, v4, v5, v6] [] I else runs cal 37 22 [v0, v1, v2, v3, v4, v5, v6] [] I := st_cmp_lt (ins_of mI_37 (by rfl)) (by decide)
theorem r37_22 : runs cal 37 22 [v0, v1, v2, v3, v4, vI w, v6] [] I = runs cal 37 24 [v0, v1, v2, v3, v4, vI w, v6] [vI w] I := runs_to (ins_of mI_37 (by rfl)) rfl rfl
theorem r37_24 : runs cal 37 24 [v0, v1, v2, v3, v4, v5, v6] [vI x0] I = runs cal 37 25 [v0, v1, v2, v3, v4, v5, v6] [vI (1), vI x0] I := runs_to (ins_of mI_37 (by rfl)) rfl rfl
theorem r37_25 : runs cal 37 25 [v0, v1, v2, v3, v4, v5, v6] [vI x0, vI x1] I = if x0 < x1 then runs cal 37 32 [v0, v1, v2, v3, v4, v5, v6] [] I else runs cal 37 28 [v0, v1, v2, v3, v4, v5, v6] [] I := st_cmp_gt (ins_of mI_37 (by rfl)) (by decide)
theorem r37_28 : runs cal 37 28 [v0, v1, v2, v3, v4, v5, v6] [] I = runs cal 37 29 [v0, v1, v2, v3, v4, v5, v6] [vI (1)] I := runs_to (ins_of mI_37 (by rfl)) rfl rfl
theorem r37_29 : runs cal 37 29 [v0, v1, v2, v3, v4, v5, v6] [vI x0] I = runs cal 37 33 [v0, v1, v2, v3, v4, v5, v6] [vI x0] I := st_goto (ins_of mI_37 (by rfl)) (by decide)
theorem r37_32 : runs cal 37 32 [v0, v1, v2, v3, v4, v5, v6] [] I = runs cal 37 33 [v0, v1, v2, v3, v4, v5, v6] [vI (0)] I := runs_to (ins_of mI_37 (by rfl)) rfl rfl
theorem r37_33 : runs cal 37 33 [v0, v1, v2, v3, v4, vI u, v6] [vI x0] I = runs cal 37 35 [v0, v1, v2, v3, v4, vI u, vI x0] [] I := runs_to (ins_of mI_37 (by rfl)) rfl rfl
theorem r37_35 : runs cal 37 35 [v0, v1, v2, v3, v4, v5, vI w] [] I = runs cal 37 37 [v0, v1, v2, v3, v4, v5, vI w] [vI w] I := runs_to (ins_of mI_37 (by rfl)) rfl rfl
theorem r37_37 : runs cal 37 37 [v0, v1, v2, v3, v4, v5, v6] [vI x0] I = if x0 = 0 then runs cal 37 65 [v0, v1, v2, v3, v4, v5, v6] [] I else runs cal 37 40 [v0, v1, v2, v3, v4, v5, v6] [] I := st_if_eq (ins_of mI_37 (by rfl)) (by decide)
theorem r37_40 : runs cal 37 40 [vR 2, v1, v2, v3, v4, v5, v6] [] I = runs cal 37 41 [vR 2, v1, v2, v3, v4, v5, v6] [vR 2] I := runs_to (ins_of mI_37 (by rfl)) rfl rfl
theorem r37_41 : runs cal 37 41 [v0, vI w, v2, v3, v4, v5, v6] [vR 2] I = runs cal 37 42 [v0, vI w, v2, v3, v4, v5, v6] [vI w, vR 2] I := runs_to (ins_of mI_37 (by rfl)) rfl rfl
theorem r37_42 : runs cal 37 42 [v0, v1, v2, v3, vI w, v5, v6] [vI x0, vR 2] I = runs cal 37 44 [v0, v1, v2, v3, vI w, v5, v6] [vI w, vI x0, vR 2] I := runs_to (ins_of mI_37 (by rfl)) rfl rfl
theorem r37_44 : runs cal 37 44 [v0, v1, v2, v3, v4, v5, v6] [vI x0, vI x1, vR 2] I = (cal 16 [vR 2, vI x1, vI x0] I).bind (fun q => runs cal 37 47 [v0, v1, v2, v3, v4, v5, v6] (pushR q.1 []) q.2) := st_call (st := false) (ins_of mI_37 (by rfl)) mC_37 mr_0_147 (by decide) mS_16 mN_16 rfl (Nat.le_of_ble_eq_true rfl) rfl rfl (Or.inr ⟨_, _, rfl, rcv mC_16 rfl wid_37 (by decide +kernel)⟩) (Or.inl (wid_37.trans wid_16.symm))
theorem r37_47 : runs cal 37 47 [v0, v1, v2, v3, v4, v5, v6] [vI x0] I = runs cal 37 48 [v0, v1, v2, v3, v4, v5, v6] [vI (-1), vI x0] I := runs_to (ins_of mI_37 (by rfl)) rfl rfl
theorem r37_48 : runs cal 37 48 [v0, v1, v2, v3, v4, v5, v6] [vI x0, vI x1] I = if x1 = x0 then runs cal 37 51 [v0, v1, v2, v3, v4, v5, v6] [] I else runs cal 37 65 [v0, v1, v2, v3, v4, v5, v6] [] I := st_cmp_ne (ins_of mI_37 (by rfl)) (by decide)
theorem r37_51 : runs cal 37 51 [vR 2, v1, v2, v3, v4, v5, v6] [] I = runs cal 37 52 [vR 2, v1, v2, v3, v4, v5, v6] [vR 2] I := runs_to (ins_of mI_37 (by rfl)) rfl rfl
theorem r37_52 : runs cal 37 52 [v0, vI w, v2, v3, v4, v5, v6] [vR 2] I = runs cal 37 53 [v0, vI w, v2, v3, v4, v5, v6] [vI w, vR 2] I := runs_to (ins_of mI_37 (by rfl)) rfl rfl
theorem r37_53 : runs cal 37 53 [v0, v1, v2, vI w, v4, v5, v6] [vI x0, vR 2] I = runs cal 37 54 [v0, v1, v2, vI w, v4, v5, v6] [vI w, vI x0, vR 2] I := runs_to (ins_of mI_37 (by rfl)) rfl rfl
theorem r37_54 : runs cal 37 54 [v0, v1, v2, v3, v4, v5, v6] [vI x0, vI x1, vR 2] I = runs cal 37 56 [v0, v1, v2, v3, v4, v5, v6] [vI (8), vI x0, vI x1, vR 2] I := runs_to (ins_of mI_37 (by rfl)) rfl rfl
theorem r37_56 : runs cal 37 56 [v0, v1, v2, v3, vI w, v5, v6] [vI x0, vI x1, vI x2, vR 2] I = runs cal 37 58 [v0, v1, v2, v3, vI w, v5, v6] [vI w, vI x0, vI x1, vI x2, vR 2] I := runs_to (ins_of mI_37 (by rfl)) rfl rfl
theorem r37_58 : runs cal 37 58 [v0, v1, v2, v3, v4, v5, v6] [vI x0, vI x1, vI x2, vI x3, vR 2] I = runs cal 37 59 [v0, v1, v2, v3, v4, v5, v6] [vI (iadd x1 x0), vI x2, vI x3, vR 2] I := runs_to (ins_of mI_37 (by rfl)) rfl rfl
theorem r37_59 : runs cal 37 59 [v0, v1, v2, v3, v4, v5, v6] [vI x0, vI x1, vI x2, vR 2] I = (cal 11 [vR 2, vI x2, vI x1, vI x0] I).bind (fun q => runs cal 37 62 [v0, v1, v2, v3, v4, v5, v6] (pushR q.1 []) q.2) := st_call (st := false) (ins_of mI_37 (by rfl)) mC_37 mr_0_73 (by decide) mS_11 mN_11 rfl (Nat.le_of_ble_eq_true rfl) rfl rfl (Or.inr ⟨_, _, rfl, rcv mC_11 rfl wid_37 (by decide +kernel)⟩) (Or.inl (wid_37.trans wid_11.symm))
theorem r37_62 : runs cal 37 62 [v0, v1, v2, v3, v4, v5, v6] [vI x0] I = runs cal 37 67 [v0, v1, v2, v3, v4, v5, v6] [vI x0] I := st_goto (ins_of mI_37 (by rfl)) (by decide)
theorem r37_65 : runs cal 37 65 [v0, v1, v2, v3, v4, v5, v6] [] I = runs cal 37 67 [v0, v1, v2, v3, v4, v5, v6] [vI (-2)] I := runs_to (ins_of mI_37 (by rfl)) rfl rfl
theorem r37_67 : runs cal 37 67 [v0, v1, v2, v3, v4, v5, v6] [vI x0] I = some (some (vI x0), I) := st_ret (q := some (vI x0)) (k := 0) (ins_of mI_37 (by rfl)) rfl (by decide) mR_37 rfl trivial
theorem r38_0 : runs cal 38 0 [v0, vL w, v2, v3, v4, v5] [] I = runs cal 38 1 [v0, vL w, v2, v3, v4, v5] [vL w] I := runs_to (ins_of mI_38 (by rfl)) rfl rfl
theorem r38_1 : runs cal 38 1 [v0, v1, v2, v3, v4, v5] [vL x0] I = runs cal 38 2 [v0, v1, kill v2, vL x0, vR 0, v5] [] I := runs_to (ins_of mI_38 (by rfl)) rfl rfl
theorem r38_2 : runs cal 38 2 [v0, v1, v2, v3, v4, v5] [] I = runs cal 38 3 [v0, v1, v2, v3, v4, v5] [vI (0)] I := runs_to (ins_of mI_38 (by rfl)) rfl rfl
theorem r38_3 : runs cal 38 3 [v0, v1, v2, v3, v4, v5] [vI x0] I = runs cal 38 5 [v0, v1, v2, v3, kill v4, vI x0] [] I := runs_to (ins_of mI_38 (by rfl)) rfl rfl
theorem r38_5 : runs cal 38 5 [v0, v1, v2, v3, v4, vI w] [] I = runs cal 38 7 [v0, v1, v2, v3, v4, vI w] [vI w] I := runs_to (ins_of mI_38 (by rfl)) rfl rfl
theorem r38_7 : runs cal 38 7 [vR 2, v1, v2, v3, v4, v5] [vI x0] I = runs cal 38 8 [vR 2, v1, v2, v3, v4, v5] [vR 2, vI x0] I := runs_to (ins_of mI_38 (by rfl)) rfl rfl
theorem r38_8 : runs cal 38 8 [v0, v1, v2, v3, v4, v5] [vR 2, vI x1] I = runs cal 38 11 [v0, v1, v2, v3, v4, v5] [vI (I 2 0), vI x1] I := st_getI (ins_of mI_38 (by rfl)) mC_38 (by decide) fr_0_11 cT_2 (wdc wid_38 wd_2) (Or.inl rfl)
theorem r38_11 : runs cal 38 11 [v0, v1, v2, v3, v4, v5] [vI x0, vI x1] I = if x0 < x1 then runs cal 38 34 [v0, v1, v2, v3, v4, v5] [] I else runs cal 38 14 [v0, v1, v2, v3, v4, v5] [] I := st_cmp_gt (ins_of mI_38 (by rfl)) (by decide)
theorem r38_14 : runs cal 38 14 [v0, v1, v2, v3, v4, v5] [] I = runs cal 38 17 [v0, v1, v2, v3, v4, v5] [vL (31)] I := runs_to (ins_of mI_38 (by rfl)) rfl (by simp only [stepI, ldk2, mC_38]; rfl)
theorem r38_17 : runs cal 38 17 [v0, v1, v2, vL w, v4, v5] [vL x0] I = runs cal 38 18 [v0, v1, v2, vL w, v4, v5] [vL w, vL x0] I := runs_to (ins_of mI_38 (by rfl)) rfl rfl
theorem r38_18 : runs cal 38 18 [v0, v1, v2, v3, v4, v5] [vL x0, vL x1] I = runs cal 38 19 [v0, v1, v2, v3, v4, v5] [vL (lmul x1 x0)] I := runs_to (ins_of mI_38 (by rfl)) rfl rfl
theorem r38_19 : runs cal 38 19 [vR 2, v1, v2, v3, v4, v5] [vL x0] I = runs cal 38 20 [vR 2, v1, v2, v3, v4, v5] [vR 2, vL x0] I := runs_to (ins_of mI_38 (by rfl)) rfl rfl
theorem r38_20 : runs cal 38 20 [v0, v1, v2, v3, v4, vI w] [vR 2, vL x1] I = runs cal 38 22 [v0, v1, v2, v3, v4, vI w] [vI w, vR 2, vL x1] I := runs_to (ins_of mI_38 (by rfl)) rfl rfl
theorem r38_22 : runs cal 38 22 [v0, v1, v2, v3, v4, v5] [vI x0, vR 2, vL x2] I = (cal 6 [vR 2, vI x0] I).bind (fun q => runs cal 38 25 [v0, v1, v2, v3, v4, v5] (pushR q.1 [vL x2]) q.2) := st_call (st := false) (ins_of mI_38 (by rfl)) mC_38 mr_0_152 (by decide) mS_6 mN_6 rfl (Nat.le_of_ble_eq_true rfl) rfl rfl (Or.inr ⟨_, _, rfl, rcv mC_6 rfl wid_38 (by decide +kernel)⟩) (Or.inl (wid_38.trans wid_6.symm))
theorem r38_25 : runs cal 38 25 [v0, v1, v2, v3, v4, v5] [vI x0, vL x1] I = runs cal 38 26 [v0, v1, v2, v3, v4, v5] [vL x0, vL x1] I := runs_to (ins_of mI_38 (by rfl)) rfl rfl
theorem r38_26 : runs cal 38 26 [v0, v1, v2, v3, v4, v5] [vL x0, vL x1] I = runs cal 38 27 [v0, v1, v2, v3, v4, v5] [vL (ladd x1 x0)] I := runs_to (ins_of mI_38 (by rfl)) rfl rfl
theorem r38_27 : runs cal 38 27 [v0, v1, v2, v3, v4, v5] [vL x0] I = runs cal 38 28 [v0, v1, kill v2, vL x0, vR 0, v5] [] I := runs_to (ins_of mI_38 (by rfl)) rfl rfl
theorem r38_28 : runs cal 38 28 [v0, v1, v2, v3, v4, vI w] [] I = runs cal 38 31 [v0, v1, v2, v3, kill v4, vI (iadd w (1))] [] I := runs_to (ins_of mI_38 (by rfl)) rfl rfl
theorem r38_31 : runs cal 38 31 [v0, v1, v2, v3, v4, v5] [] I = runs cal 38 5 [v0, v1, v2, v3, v4, v5] [] I := st_goto (ins_of mI_38 (by rfl)) (by decide)
theorem r38_34 : runs cal 38 34 [v0, v1, v2, v3, v4, v5] [] I = runs cal 38 35 [v0, v1, v2, v3, v4, v5] [vI (0)] I := runs_to (ins_of mI_38 (by rfl)) rfl rfl
theorem r38_35 : runs cal 38 35 [v0, v1, v2, v3, v4, v5] [vI x0] I = runs cal 38 37 [v0, v1, v2, v3, kill v4, vI x0] [] I := runs_to (ins_of mI_38 (by rfl)) rfl rfl
theorem r38_37 : runs cal 38 37 [v0, v1, v2, v3, v4, vI w] [] I = runs cal 38 39 [v0, v1, v2, v3, v4, vI w] [vI w] I := runs_to (ins_of mI_38 (by rfl)) rfl rfl
theorem r38_39 : runs cal 38 39 [vR 2, v1, v2, v3, v4, v5] [vI x0] I = runs cal 38 40 [vR 2, v1, v2, v3, v4, v5] [vR 2, vI x0] I := runs_to (ins_of mI_38 (by rfl)) rfl rfl
theorem r38_40 : runs cal 38 40 [v0, v1, v2, v3, v4, v5] [vR 2, vI x1] I = runs cal 38 43 [v0, v1, v2, v3, v4, v5] [vI (I 2 2), vI x1] I := st_getI (ins_of mI_38 (by rfl)) mC_38 (by decide) fr_0_40 cT_2 (wdc wid_38 wd_2) (Or.inl rfl)
theorem r38_43 : runs cal 38 43 [v0, v1, v2, v3, v4, v5] [vI x0, vI x1] I = if x1 < x0 then runs cal 38 46 [v0, v1, v2, v3, v4, v5] [] I else runs cal 38 100 [v0, v1, v2, v3, v4, v5] [] I := st_cmp_ge (ins_of mI_38 (by rfl)) (by decide)
theorem r38_46 : runs cal 38 46 [v0, v1, v2, v3, v4, v5] [] I = runs cal 38 49 [v0, v1, v2, v3, v4, v5] [vL (31)] I := runs_to (ins_of mI_38 (by rfl)) rfl (by simp only [stepI, ldk2, mC_38]; rfl)
theorem r38_49 : runs cal 38 49 [v0, v1, v2, vL w, v4, v5] [vL x0] I = runs cal 38 50 [v0, v1, v2, vL w, v4, v5] [vL w, vL x0] I := runs_to (ins_of mI_38 (by rfl)) rfl rfl
theorem r38_50 : runs cal 38 50 [v0, v1, v2, v3, v4, v5] [vL x0, vL x1] I = runs cal 38 51 [v0, v1, v2, v3, v4, v5] [vL (lmul x1 x0)] I := runs_to (ins_of mI_38 (by rfl)) rfl rfl
theorem r38_51 : runs cal 38 51 [vR 2, v1, v2, v3, v4, v5] [vL x0] I = runs cal 38 52 [vR 2, v1, v2, v3, v4, v5] [vR 2, vL x0] I := runs_to (ins_of mI_38 (by rfl)) rfl rfl
theorem r38_52 : runs cal 38 52 [v0, v1, v2, v3, v4, v5] [vR 2, vL x1] I = runs cal 38 55 [v0, v1, v2, v3, v4, v5] [vR 3, vL x1] I := st_getR (ins_of mI_38 (by rfl)) mC_38 (by decide) fr_0_15 cT_2 (wdc wid_38 wd_2) rfl rfl
theorem r38_55 : runs cal 38 55 [v0, v1, v2, v3, v4, vI w] [vR 3, vL x1] I = runs cal 38 57 [v0, v1, v2, v3, v4, vI w] [vI w, vR 3, vL x1] I := runs_to (ins_of mI_38 (by rfl)) rfl rfl
theorem r38_57 : runs cal 38 57 [v0, v1, v2, v3, v4, v5] [vI x0, vR 3, vL x2] I = if 0 ≤ x0 ∧ x0 < 3 then runs cal 38 58 [v0, v1, v2, v3, v4, v5] [vI (I 3 x0), vL x2] I else none := st_iald (ins_of mI_38 (by rfl)) cT_3 (wdc wid_38 wd_3)
theorem r38_58 : runs cal 38 58 [v0, v1, v2, v3, v4, v5] [vI x0, vL x1] I = runs cal 38 59 [v0, v1, v2, v3, v4, v5] [vL x0, vL x1] I := runs_to (ins_of mI_38 (by rfl)) rfl rfl
theorem r38_59 : runs cal 38 59 [v0, v1, v2, v3, v4, v5] [vL x0, vL x1] I = runs cal 38 60 [v0, v1, v2, v3, v4, v5] [vL (ladd x1 x0)] I := runs_to (ins_of mI_38 (by rfl)) rfl rfl
theorem r38_60 : runs cal 38 60 [v0, v1, v2, v3, v4, v5] [vL x0] I = runs cal 38 61 [v0, v1, kill v2, vL x0, vR 0, v5] [] I := runs_to (ins_of mI_38 (by rfl)) rfl rfl
theorem r38_61 : runs cal 38 61 [v0, v1, v2, v3, v4, v5] [] I = runs cal 38 64 [v0, v1, v2, v3, v4, v5] [vL (31)] I := runs_to (ins_of mI_38 (by rfl)) rfl (by simp only [stepI, ldk2, mC_38]; rfl)
theorem r38_64 : runs cal 38 64 [v0, v1, v2, vL w, v4, v5] [vL x0] I = runs cal 38 65 [v0, v1, v2, vL w, v4, v5] [vL w, vL x0] I := runs_to (ins_of mI_38 (by rfl)) rfl rfl
theorem r38_65 : runs cal 38 65 [v0, v1, v2, v3, v4, v5] [vL x0, vL x1] I = runs cal 38 66 [v0, v1, v2, v3, v4, v5] [vL (lmul x1 x0)] I := runs_to (ins_of mI_38 (by rfl)) rfl rfl
theorem r38_66 : runs cal 38 66 [vR 2, v1, v2, v3, v4, v5] [vL x0] I = runs cal 38 67 [vR 2, v1, v2, v3, v4, v5] [vR 2, vL x0] I := runs_to (ins_of mI_38 (by rfl)) rfl rfl
theorem r38_67 : runs cal 38 67 [vR 2, v1, v2, v3, v4, v5] [vR 2, vL x1] I = runs cal 38 68 [vR 2, v1, v2, v3, v4, v5] [vR 2, vR 2, vL x1] I := runs_to (ins_of mI_38 (by rfl)) rfl rfl
theorem r38_68 : runs cal 38 68 [v0, v1, v2, v3, v4, v5] [vR 2, vR 2, vL x2] I = runs cal 38 71 [v0, v1, v2, v3, v4, v5] [vI (I 2 4), vR 2, vL x2] I := st_getI (ins_of mI_38 (by rfl)) mC_38 (by decide) fr_0_46 cT_2 (wdc wid_38 wd_2) (Or.inl rfl)
theorem r38_71 : runs cal 38 71 [v0, v1, v2, v3, v4, vI w] [vI x0, vR 2, vL x2] I = runs cal 38 73 [v0, v1, v2, v3, v4, vI w] [vI w, vI x0, vR 2, vL x2] I := runs_to (ins_of mI_38 (by rfl)) rfl rfl
theorem r38_73 : runs cal 38 73 [v0, v1, v2, v3, v4, v5] [vI x0, vI x1, vR 2, vL x3] I = (cal 7 [vR 2, vI x1, vI x0] I).bind (fun q => runs cal 38 76 [v0, v1, v2, v3, v4, v5] (pushR q.1 [vL x3]) q.2) := st_call (st := false) (ins_of mI_38 (by rfl)) mC_38 mr_0_79 (by decide) mS_7 mN_7 rfl (Nat.le_of_ble_eq_true rfl) rfl rfl (Or.inr ⟨_, _, rfl, rcv mC_7 rfl wid_38 (by decide +kernel)⟩) (Or.inl (wid_38.trans wid_7.symm))
theorem r38_76 : runs cal 38 76 [v0, v1, v2, v3, v4, v5] [vI x0, vL x1] I = runs cal 38 77 [v0, v1, v2, v3, v4, v5] [vL x0, vL x1] I := runs_to (ins_of mI_38 (by rfl)) rfl rfl
theorem r38_77 : runs cal 38 77 [v0, v1, v2, v3, v4, v5] [vL x0, vL x1] I = runs cal 38 78 [v0, v1, v2, v3, v4, v5] [vL (ladd x1 x0)] I := runs_to (ins_of mI_38 (by rfl)) rfl rfl
theorem r38_78 : runs cal 38 78 [v0, v1, v2, v3, v4, v5] [vL x0] I = runs cal 38 79 [v0, v1, kill v2, vL x0, vR 0, v5] [] I := runs_to (ins_of mI_38 (by rfl)) rfl rfl
theorem r38_79 : runs cal 38 79 [v0, v1, v2, v3, v4, v5] [] I = runs cal 38 82 [v0, v1, v2, v3, v4, v5] [vL (31)] I := runs_to (ins_of mI_38 (by rfl)) rfl (by simp only [stepI, ldk2, mC_38]; rfl)
theorem r38_82 : runs cal 38 82 [v0, v1, v2, vL w, v4, v5] [vL x0] I = runs cal 38 83 [v0, v1, v2, vL w, v4, v5] [vL w, vL x0] I := runs_to (ins_of mI_38 (by rfl)) rfl rfl
theorem r38_83 : runs cal 38 83 [v0, v1, v2, v3, v4, v5] [vL x0, vL x1] I = runs cal 38 84 [v0, v1, v2, v3, v4, v5] [vL (lmul x1 x0)] I := runs_to (ins_of mI_38 (by rfl)) rfl rfl
theorem r38_84 : runs cal 38 84 [vR 2, v1, v2, v3, v4, v5] [vL x0] I = runs cal 38 85 [vR 2, v1, v2, v3, v4, v5] [vR 2, vL x0] I := runs_to (ins_of mI_38 (by rfl)) rfl rfl
theorem r38_85 : runs cal 38 85 [v0, v1, v2, v3, v4, v5] [vR 2, vL x1] I = runs cal 38 88 [v0, v1, v2, v3, v4, v5] [vR 4, vL x1] I := st_getR (ins_of mI_38 (by rfl)) mC_38 (by decide) fr_0_19 cT_2 (wdc wid_38 wd_2) rfl rfl
theorem r38_88 : runs cal 38 88 [v0, v1, v2, v3, v4, vI w] [vR 4, vL x1] I = runs cal 38 90 [v0, v1, v2, v3, v4, vI w] [vI w, vR 4, vL x1] I := runs_to (ins_of mI_38 (by rfl)) rfl rfl
theorem r38_90 : runs cal 38 90 [v0, v1, v2, v3, v4, v5] [vI x0, vR 4, vL x2] I = if 0 ≤ x0 ∧ x0 < 3 then runs cal 38 91 [v0, v1, v2, v3, v4, v5] [vI (I 4 x0), vL x2] I else none := st_iald (ins_of mI_38 (by rfl)) cT_4 (wdc wid_38 wd_4)
theorem r38_91 : runs cal 38 91 [v0, v1, v2, v3, v4, v5] [vI x0, vL x1] I = runs cal 38 92 [v0, v1, v2, v3, v4, v5] [vL x0, vL x1] I := runs_to (ins_of mI_38 (by rfl)) rfl rfl
theorem r38_92 : runs cal 38 92 [v0, v1, v2, v3, v4, v5] [vL x0, vL x1] I = runs cal 38 93 [v0, v1, v2, v3, v4, v5] [vL (ladd x1 x0)] I := runs_to (ins_of mI_38 (by rfl)) rfl rfl
theorem r38_93 : runs cal 38 93 [v0, v1, v2, v3, v4, v5] [vL x0] I = runs cal 38 94 [v0, v1, kill v2, vL x0, vR 0, v5] [] I := runs_to (ins_of mI_38 (by rfl)) rfl rfl
theorem r38_94 : runs cal 38 94 [v0, v1, v2, v3, v4, vI w] [] I = runs cal 38 97 [v0, v1, v2, v3, kill v4, vI (iadd w (1))] [] I := runs_to (ins_of mI_38 (by rfl)) rfl rfl
theorem r38_97 : runs cal 38 97 [v0, v1, v2, v3, v4, v5] [] I = runs cal 38 37 [v0, v1, v2, v3, v4, v5] [] I := st_goto (ins_of mI_38 (by rfl)) (by decide)
theorem r38_100 : runs cal 38 100 [v0, v1, v2, v3, v4, v5] [] I = runs cal 38 101 [v0, v1, v2, v3, v4, v5] [vI (0)] I := runs_to (ins_of mI_38 (by rfl)) rfl rfl
theorem r38_101 : runs cal 38 101 [v0, v1, v2, v3, v4, v5] [vI x0] I = runs cal 38 103 [v0, v1, v2, v3, kill v4, vI x0] [] I := runs_to (ins_of mI_38 (by rfl)) rfl rfl
theorem r38_103 : runs cal 38 103 [v0, v1, v2, v3, v4, vI w] [] I = runs cal 38 105 [v0, v1, v2, v3, v4, vI w] [vI w] I := runs_to (ins_of mI_38 (by rfl)) rfl rfl
theorem r38_105 : runs cal 38 105 [vR 2, v1, v2, v3, v4, v5] [vI x0] I = runs cal 38 106 [vR 2, v1, v2, v3, v4, v5] [vR 2, vI x0] I := runs_to (ins_of mI_38 (by rfl)) rfl rfl
theorem r38_106 : runs cal 38 106 [v0, v1, v2, v3, v4, v5] [vR 2, vI x1] I = runs cal 38 109 [v0, v1, v2, v3, v4, v5] [vI (I 2 3), vI x1] I := st_getI (ins_of mI_38 (by rfl)) mC_38 (by decide) fr_0_43 cT_2 (wdc wid_38 wd_2) (Or.inl rfl)
theorem r38_109 : runs cal 38 109 [v0, v1, v2, v3, v4, v5] [vI x0, vI x1] I = if x1 < x0 then runs cal 38 112 [v0, v1, v2, v3, v4, v5] [] I else runs cal 38 181 [v0, v1, v2, v3, v4, v5] [] I := st_cmp_ge (ins_of mI_38 (by rfl)) (by decide)
theorem r38_112 : runs cal 38 112 [v0, v1, v2, v3, v4, v5] [] I = runs cal 38 115 [v0, v1, v2, v3, v4, v5] [vL (31)] I := runs_to (ins_of mI_38 (by rfl)) rfl (by simp only [stepI, ldk2, mC_38]; rfl)
theorem r38_115 : runs cal 38 115 [v0, v1, v2, vL w, v4, v5] [vL x0] I = runs cal 38 116 [v0, v1, v2, vL w, v4, v5] [vL w, vL x0] I := runs_to (ins_of mI_38 (by rfl)) rfl rfl
theorem r38_116 : runs cal 38 116 [v0, v1, v2, v3, v4, v5] [vL x0, vL x1] I = runs cal 38 117 [v0, v1, v2, v3, v4, v5] [vL (lmul x1 x0)] I := runs_to (ins_of mI_38 (by rfl)) rfl rfl
theorem r38_117 : runs cal 38 117 [vR 2, v1, v2, v3, v4, v5] [vL x0] I = runs cal 38 118 [vR 2, v1, v2, v3, v4, v5] [vR 2, vL x0] I := runs_to (ins_of mI_38 (by rfl)) rfl rfl
theorem r38_118 : runs cal 38 118 [v0, v1, v2, v3, v4, v5] [vR 2, vL x1] I = runs cal 38 121 [v0, v1, v2, v3, v4, v5] [vR 5, vL x1] I := st_getR (ins_of mI_38 (by rfl)) mC_38 (by decide) fr_0_22 cT_2 (wdc wid_38 wd_2) rfl rfl
theorem r38_121 : runs cal 38 121 [v0, v1, v2, v3, v4, vI w] [vR 5, vL x1] I = runs cal 38 123 [v0, v1, v2, v3, v4, vI w] [vI w, vR 5, vL x1] I := runs_to (ins_of mI_38 (by rfl)) rfl rfl
theorem r38_123 : runs cal 38 123 [v0, v1, v2, v3, v4, v5] [vI x0, vR 5, vL x2] I = if 0 ≤ x0 ∧ x0 < 2 then runs cal 38 124 [v0, v1, v2, v3, v4, v5] [vI (I 5 x0), vL x2] I else none := st_iald (ins_of mI_38 (by rfl)) cT_5 (wdc wid_38 wd_5)
theorem r38_124 : runs cal 38 124 [v0, v1, v2, v3, v4, v5] [vI x0, vL x1] I = runs cal 38 125 [v0, v1, v2, v3, v4, v5] [vL x0, vL x1] I := runs_to (ins_of mI_38 (by rfl)) rfl rfl
theorem r38_125 : runs cal 38 125 [v0, v1, v2, v3, v4, v5] [vL x0, vL x1] I = runs cal 38 126 [v0, v1, v2, v3, v4, v5] [vL (ladd x1 x0)] I := runs_to (ins_of mI_38 (by rfl)) rfl rfl
theorem r38_126 : runs cal 38 126 [v0, v1, v2, v3, v4, v5] [vL x0] I = runs cal 38 127 [v0, v1, kill v2, vL x0, vR 0, v5] [] I := runs_to (ins_of mI_38 (by rfl)) rfl rfl
theorem r38_127 : runs cal 38 127 [v0, v1, v2, v3, v4, v5] [] I = runs cal 38 130 [v0, v1, v2, v3, v4, v5] [vL (31)] I := runs_to (ins_of mI_38 (by rfl)) rfl (by simp only [stepI, ldk2, mC_38]; rfl)
theorem r38_130 : runs cal 38 130 [v0, v1, v2, vL w, v4, v5] [vL x0] I = runs cal 38 131 [v0, v1, v2, vL w, v4, v5] [vL w, vL x0] I := runs_to (ins_of mI_38 (by rfl)) rfl rfl
theorem r38_131 : runs cal 38 131 [v0, v1, v2, v3, v4, v5] [vL x0, vL x1] I = runs cal 38 132 [v0, v1, v2, v3, v4, v5] [vL (lmul x1 x0)] I := runs_to (ins_of mI_38 (by rfl)) rfl rfl
theorem r38_132 : runs cal 38 132 [vR 2, v1, v2, v3, v4, v5] [vL x0] I = runs cal 38 133 [vR 2, v1, v2, v3, v4, v5] [vR 2, vL x0] I := runs_to (ins_of mI_38 (by rfl)) rfl rfl
theorem r38_133 : runs cal 38 133 [v0, v1, v2, v3, v4, v5] [vR 2, vL x1] I = runs cal 38 136 [v0, v1, v2, v3, v4, v5] [vR 6, vL x1] I := st_getR (ins_of mI_38 (by rfl)) mC_38 (by decide) fr_0_25 cT_2 (wdc wid_38 wd_2) rfl rfl
theorem r38_136 : runs cal 38 136 [v0, v1, v2, v3, v4, vI w] [vR 6, vL x1] I = runs cal 38 138 [v0, v1, v2, v3, v4, vI w] [vI w, vR 6, vL x1] I := runs_to (ins_of mI_38 (by rfl)) rfl rfl
theorem r38_138 : runs cal 38 138 [v0, v1, v2, v3, v4, v5] [vI x0, vR 6, vL x2] I = if 0 ≤ x0 ∧ x0 < 2 then runs cal 38 139 [v0, v1, v2, v3, v4, v5] [vI (I 6 x0), vL x2] I else none := st_iald (ins_of mI_38 (by rfl)) cT_6 (wdc wid_38 wd_6)
theorem r38_139 : runs cal 38 139 [v0, v1, v2, v3, v4, v5] [vI x0, vL x1] I = runs cal 38 140 [v0, v1, v2, v3, v4, v5] [vL x0, vL x1] I := runs_to (ins_of mI_38 (by rfl)) rfl rfl
theorem r38_140 : runs cal 38 140 [v0, v1, v2, v3, v4, v5] [vL x0, vL x1] I = runs cal 38 141 [v0, v1, v2, v3, v4, v5] [vL (ladd x1 x0)] I := runs_to (ins_of mI_38 (by rfl)) rfl rfl
theorem r38_141 : runs cal 38 141 [v0, v1, v2, v3, v4, v5] [vL x0] I = runs cal 38 142 [v0, v1, kill v2, vL x0, vR 0, v5] [] I := runs_to (ins_of mI_38 (by rfl)) rfl rfl
theorem r38_142 : runs cal 38 142 [v0, v1, v2, v3, v4, v5] [] I = runs cal 38 145 [v0, v1, v2, v3, v4, v5] [vL (31)] I := runs_to (ins_of mI_38 (by rfl)) rfl (by simp only [stepI, ldk2, mC_38]; rfl)
theorem r38_145 : runs cal 38 145 [v0, v1, v2, vL w, v4, v5] [vL x0] I = runs cal 38 146 [v0, v1, v2, vL w, v4, v5] [vL w, vL x0] I := runs_to (ins_of mI_38 (by rfl)) rfl rfl
theorem r38_146 : runs cal 38 146 [v0, v1, v2, v3, v4, v5] [vL x0, vL x1] I = runs cal 38 147 [v0, v1, v2, v3, v4, v5] [vL (lmul x1 x0)] I := runs_to (ins_of mI_38 (by rfl)) rfl rfl
theorem r38_147 : runs cal 38 147 [vR 2, v1, v2, v3, v4, v5] [vL x0] I = runs cal 38 148 [vR 2, v1, v2, v3, v4, v5] [vR 2, vL x0] I := runs_to (ins_of mI_38 (by rfl)) rfl rfl
theorem r38_148 : runs cal 38 148 [v0, v1, v2, v3, v4, v5] [vR 2, vL x1] I = runs cal 38 151 [v0, v1, v2, v3, v4, v5] [vR 7, vL x1] I := st_getR (ins_of mI_38 (by rfl)) mC_38 (by decide) fr_0_28 cT_2 (wdc wid_38 wd_2) rfl rfl
theorem r38_151 : runs cal 38 151 [v0, v1, v2, v3, v4, vI w] [vR 7, vL x1] I = runs cal 38 153 [v0, v1, v2, v3, v4, vI w] [vI w, vR 7, vL x1] I := runs_to (ins_of mI_38 (by rfl)) rfl rfl
theorem r38_153 : runs cal 38 153 [v0, v1, v2, v3, v4, v5] [vI x0, vR 7, vL x2] I = if 0 ≤ x0 ∧ x0 < 2 then runs cal 38 154 [v0, v1, v2, v3, v4, v5] [vI (I 7 x0), vL x2] I else none := st_iald (ins_of mI_38 (by rfl)) cT_7 (wdc wid_38 wd_7)
theorem r38_154 : runs cal 38 154 [v0, v1, v2, v3, v4, v5] [vI x0, vL x1] I = runs cal 38 155 [v0, v1, v2, v3, v4, v5] [vL x0, vL x1] I := runs_to (ins_of mI_38 (by rfl)) rfl rfl
theorem r38_155 : runs cal 38 155 [v0, v1, v2, v3, v4, v5] [vL x0, vL x1] I = runs cal 38 156 [v0, v1, v2, v3, v4, v5] [vL (ladd x1 x0)] I := runs_to (ins_of mI_38 (by rfl)) rfl rfl
theorem r38_156 : runs cal 38 156 [v0, v1, v2, v3, v4, v5] [vL x0] I = runs cal 38 157 [v0, v1, kill v2, vL x0, vR 0, v5] [] I := runs_to (ins_of mI_38 (by rfl)) rfl rfl
theorem r38_157 : runs cal 38 157 [v0, v1, v2, v3, v4, v5] [] I = runs cal 38 160 [v0, v1, v2, v3, v4, v5] [vL (31)] I := runs_to (ins_of mI_38 (by rfl)) rfl (by simp only [stepI, ldk2, mC_38]; rfl)
theorem r38_160 : runs cal 38 160 [v0, v1, v2, vL w, v4, v5] [vL x0] I = runs cal 38 161 [v0, v1, v2, vL w, v4, v5] [vL w, vL x0] I := runs_to (ins_of mI_38 (by rfl)) rfl rfl
theorem r38_161 : runs cal 38 161 [v0, v1, v2, v3, v4, v5] [vL x0, vL x1] I = runs cal 38 162 [v0, v1, v2, v3, v4, v5] [vL (lmul x1 x0)] I := runs_to (ins_of mI_38 (by rfl)) rfl rfl
theorem r38_162 : runs cal 38 162 [vR 2, v1, v2, v3, v4, v5] [vL x0] I = runs cal 38 163 [vR 2, v1, v2, v3, v4, v5] [vR 2, vL x0] I := runs_to (ins_of mI_38 (by rfl)) rfl rfl
theorem r38_163 : runs cal 38 163 [vR 2, v1, v2, v3, v4, v5] [vR 2, vL x1] I = runs cal 38 164 [vR 2, v1, v2, v3, v4, v5] [vR 2, vR 2, vL x1] I := runs_to (ins_of mI_38 (by rfl)) rfl rfl
theorem r38_164 : runs cal 38 164 [v0, v1, v2, v3, v4, v5] [vR 2, vR 2, vL x2] I = runs cal 38 167 [v0, v1, v2, v3, v4, v5] [vI (I 2 4), vR 2, vL x2] I := st_getI (ins_of mI_38 (by rfl)) mC_38 (by decide) fr_0_46 cT_2 (wdc wid_38 wd_2) (Or.inl rfl)
theorem r38_167 : runs cal 38 167 [v0, v1, v2, v3, v4, vI w] [vI x0, vR 2, vL x2] I = runs cal 38 169 [v0, v1, v2, v3, v4, vI w] [vI w, vI x0, vR 2, vL x2] I := runs_to (ins_of mI_38 (by rfl)) rfl rfl
theorem r38_169 : runs cal 38 169 [v0, v1, v2, v3, v4, v5] [vI x0, vI x1, vR 2, vL x3] I = (cal 8 [vR 2, vI x1, vI x0] I).bind (fun q => runs cal 38 172 [v0, v1, v2, v3, v4, v5] (pushR q.1 [vL x3]) q.2) := st_call (st := false) (ins_of mI_38 (by rfl)) mC_38 mr_0_76 (by decide) mS_8 mN_8 rfl (Nat.le_of_ble_eq_true rfl) rfl rfl (Or.inr ⟨_, _, rfl, rcv mC_8 rfl wid_38 (by decide +kernel)⟩) (Or.inl (wid_38.trans wid_8.symm))
theorem r38_172 : runs cal 38 172 [v0, v1, v2, v3, v4, v5] [vI x0, vL x1] I = runs cal 38 173 [v0, v1, v2, v3, v4, v5] [vL x0, vL x1] I := runs_to (ins_of mI_38 (by rfl)) rfl rfl
theorem r38_173 : runs cal 38 173 [v0, v1, v2, v3, v4, v5] [vL x0, vL x1] I = runs cal 38 174 [v0, v1, v2, v3, v4, v5] [vL (ladd x1 x0)] I := runs_to (ins_of mI_38 (by rfl)) rfl rfl
theorem r38_174 : runs cal 38 174 [v0, v1, v2, v3, v4, v5] [vL x0] I = runs cal 38 175 [v0, v1, kill v2, vL x0, vR 0, v5] [] I := runs_to (ins_of mI_38 (by rfl)) rfl rfl
theorem r38_175 : runs cal 38 175 [v0, v1, v2, v3, v4, vI w] [] I = runs cal 38 178 [v0, v1, v2, v3, kill v4, vI (iadd w (1))] [] I := runs_to (ins_of mI_38 (by rfl)) rfl rfl
theorem r38_178 : runs cal 38 178 [v0, v1, v2, v3, v4, v5] [] I = runs cal 38 103 [v0, v1, v2, v3, v4, v5] [] I := st_goto (ins_of mI_38 (by rfl)) (by decide)
theorem r38_181 : runs cal 38 181 [v0, v1, v2, vL w, v4, v5] [] I = runs cal 38 182 [v0, v1, v2, vL w, v4, v5] [vL w] I := runs_to (ins_of mI_38 (by rfl)) rfl rfl
theorem r38_182 : runs cal 38 182 [v0, v1, v2, v3, v4, v5] [vL x0] I = some (some (vL x0), I) := st_ret (q := some (vL x0)) (k := 1) (ins_of mI_38 (by rfl)) rfl (by decide) mR_38 rfl trivial
end PRINTED
