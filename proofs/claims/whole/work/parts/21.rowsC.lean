section PRINTED
variable {cal : Nat → List AV → MM → Option RES} {I : MM}
variable {v0 v1 v2 v3 v4 v5 v6 v7 v8 v9 v10 v11 v12 v13 v14 v15 v16 v17 v18 v19 v20 v21 v22 v23 v24 v25 v26 v27 v28 v29 v30 v31 v32 v33 v34 v35 v36 v37 v38 v39 v40 v41 v42 v43 v44 v45 v46 v47 v48 v49 v50 v51 v52 v53 v54 v55 v56 v57 v58 v59 : AV} {x0 x1 x2 x3 x4 x5 x6 x7 x8 x9 w u : Int} {a0 a1 a2 a3 a4 a5 a6 b0 : Nat}

theorem r83_0 : runs cal 83 0 [vR 27, v1] [] I = runs cal 83 1 [vR 27, v1] [vR 27] I := runs_to (ins_of mI_83 (by rfl)) rfl rfl
theorem r83_1 : runs cal 83 1 [v0, v1] [vR 27] I = runs cal 83 3 [v0, v1] [vI (-9), vR 27] I := runs_to (ins_of mI_83 (by rfl)) rfl rfl
theorem r83_3 : runs cal 83 3 [v0, v1] [vI x0, vR 27] I = runs cal 83 6 [v0, v1] [] (mset I 27 10 x0) := st_putI (ins_of mI_83 (by rfl)) mC_83 fr_6_27 cT_27 (wdc wid_83 wd_27) rfl
theorem r83_6 : runs cal 83 6 [v0, v1] [] I = runs cal 83 7 [v0, v1] [vI (0)] I := runs_to (ins_of mI_83 (by rfl)) rfl rfl
theorem r83_7 : runs cal 83 7 [vR b0, v1] [vI x0] I = runs cal 83 8 [vR b0, vI x0] [] I := runs_to (ins_of mI_83 (by rfl)) rfl rfl
theorem r83_8 : runs cal 83 8 [v0, vI w] [] I = runs cal 83 9 [v0, vI w] [vI w] I := runs_to (ins_of mI_83 (by rfl)) rfl rfl
theorem r83_9 : runs cal 83 9 [vR 27, v1] [vI x0] I = runs cal 83 10 [vR 27, v1] [vR 27, vI x0] I := runs_to (ins_of mI_83 (by rfl)) rfl rfl
theorem r83_10 : runs cal 83 10 [v0, v1] [vR 27, vI x1] I = runs cal 83 13 [v0, v1] [vR 32, vI x1] I := st_getR (ins_of mI_83 (by rfl)) mC_83 (by decide) fr_6_31 cT_27 (wdc wid_83 wd_27) rfl rfl
theorem r83_13 : runs cal 83 13 [v0, v1] [vR 32, vI x1] I = runs cal 83 14 [v0, v1] [vI 2, vI x1] I := st_alen (ins_of mI_83 (by rfl)) (alen_i wid_83 wd_32 cT_32 (by decide))
theorem r83_14 : runs cal 83 14 [v0, v1] [vI x0, vI x1] I = if x1 < x0 then runs cal 83 17 [v0, v1] [] I else runs cal 83 31 [v0, v1] [] I := st_cmp_ge (ins_of mI_83 (by rfl)) (by decide)
theorem r83_17 : runs cal 83 17 [vR 27, v1] [] I = runs cal 83 18 [vR 27, v1] [vR 27] I := runs_to (ins_of mI_83 (by rfl)) rfl rfl
theorem r83_18 : runs cal 83 18 [v0, v1] [vR 27] I = runs cal 83 21 [v0, v1] [vR 32] I := st_getR (ins_of mI_83 (by rfl)) mC_83 (by decide) fr_6_31 cT_27 (wdc wid_83 wd_27) rfl rfl
theorem r83_21 : runs cal 83 21 [v0, vI w] [vR 32] I = runs cal 83 22 [v0, vI w] [vI w, vR 32] I := runs_to (ins_of mI_83 (by rfl)) rfl rfl
theorem r83_22 : runs cal 83 22 [v0, v1] [vI x0, vR 32] I = runs cal 83 24 [v0, v1] [vI (-9), vI x0, vR 32] I := runs_to (ins_of mI_83 (by rfl)) rfl rfl
theorem r83_24 : runs cal 83 24 [v0, v1] [vI x0, vI x1, vR 32] I = if 0 ≤ x1 ∧ x1 < 2 then runs cal 83 25 [v0, v1] [] (mset I 32 x1 x0) else none := st_iast (ins_of mI_83 (by rfl)) cT_32 (wdc wid_83 wd_32)
theorem r83_25 : runs cal 83 25 [vR b0, vI w] [] I = runs cal 83 28 [vR b0, vI (iadd w (1))] [] I := runs_to (ins_of mI_83 (by rfl)) rfl rfl
theorem r83_28 : runs cal 83 28 [v0, v1] [] I = runs cal 83 8 [v0, v1] [] I := st_goto (ins_of mI_83 (by rfl)) (by decide)
theorem r83_31 : runs cal 83 31 [v0, v1] [] I = runs cal 83 32 [v0, v1] [vI (0)] I := runs_to (ins_of mI_83 (by rfl)) rfl rfl
theorem r83_32 : runs cal 83 32 [vR b0, v1] [vI x0] I = runs cal 83 33 [vR b0, vI x0] [] I := runs_to (ins_of mI_83 (by rfl)) rfl rfl
theorem r83_33 : runs cal 83 33 [v0, vI w] [] I = runs cal 83 34 [v0, vI w] [vI w] I := runs_to (ins_of mI_83 (by rfl)) rfl rfl
theorem r83_34 : runs cal 83 34 [vR 27, v1] [vI x0] I = runs cal 83 35 [vR 27, v1] [vR 27, vI x0] I := runs_to (ins_of mI_83 (by rfl)) rfl rfl
theorem r83_35 : runs cal 83 35 [v0, v1] [vR 27, vI x1] I = runs cal 83 38 [v0, v1] [vR 33, vI x1] I := st_getR (ins_of mI_83 (by rfl)) mC_83 (by decide) fr_6_34 cT_27 (wdc wid_83 wd_27) rfl rfl
theorem r83_38 : runs cal 83 38 [v0, v1] [vR 33, vI x1] I = runs cal 83 39 [v0, v1] [vI 3, vI x1] I := st_alen (ins_of mI_83 (by rfl)) (alen_i wid_83 wd_33 cT_33 (by decide))
theorem r83_39 : runs cal 83 39 [v0, v1] [vI x0, vI x1] I = if x1 < x0 then runs cal 83 42 [v0, v1] [] I else runs cal 83 56 [v0, v1] [] I := st_cmp_ge (ins_of mI_83 (by rfl)) (by decide)
theorem r83_42 : runs cal 83 42 [vR 27, v1] [] I = runs cal 83 43 [vR 27, v1] [vR 27] I := runs_to (ins_of mI_83 (by rfl)) rfl rfl
theorem r83_43 : runs cal 83 43 [v0, v1] [vR 27] I = runs cal 83 46 [v0, v1] [vR 33] I := st_getR (ins_of mI_83 (by rfl)) mC_83 (by decide) fr_6_34 cT_27 (wdc wid_83 wd_27) rfl rfl
theorem r83_46 : runs cal 83 46 [v0, vI w] [vR 33] I = runs cal 83 47 [v0, vI w] [vI w, vR 33] I := runs_to (ins_of mI_83 (by rfl)) rfl rfl
theorem r83_47 : runs cal 83 47 [v0, v1] [vI x0, vR 33] I = runs cal 83 49 [v0, v1] [vI (-9), vI x0, vR 33] I := runs_to (ins_of mI_83 (by rfl)) rfl rfl
theorem r83_49 : runs cal 83 49 [v0, v1] [vI x0, vI x1, vR 33] I = if 0 ≤ x1 ∧ x1 < 3 then runs cal 83 50 [v0, v1] [] (mset I 33 x1 x0) else none := st_iast (ins_of mI_83 (by rfl)) cT_33 (wdc wid_83 wd_33)
theorem r83_50 : runs cal 83 50 [vR b0, vI w] [] I = runs cal 83 53 [vR b0, vI (iadd w (1))] [] I := runs_to (ins_of mI_83 (by rfl)) rfl rfl
theorem r83_53 : runs cal 83 53 [v0, v1] [] I = runs cal 83 33 [v0, v1] [] I := st_goto (ins_of mI_83 (by rfl)) (by decide)
theorem r83_56 : runs cal 83 56 [v0, v1] [] I = some (none, I) := st_ret (q := none) (k := 3) (ins_of mI_83 (by rfl)) rfl (by decide) mR_83 rfl trivial
theorem r84_0 : runs cal 84 0 [vR 27, v1] [] I = runs cal 84 1 [vR 27, v1] [vR 27] I := runs_to (ins_of mI_84 (by rfl)) rfl rfl
theorem r84_1 : runs cal 84 1 [v0, v1] [vR 27] I = runs cal 84 4 [v0, v1] [vI (I 27 10)] I := st_getI (ins_of mI_84 (by rfl)) mC_84 (by decide) fr_6_27 cT_27 (wdc wid_84 wd_27) (Or.inl rfl)
theorem r84_4 : runs cal 84 4 [v0, v1] [vI x0] I = runs cal 84 6 [v0, v1] [vI (-9), vI x0] I := runs_to (ins_of mI_84 (by rfl)) rfl rfl
theorem r84_6 : runs cal 84 6 [v0, v1] [vI x0, vI x1] I = if x1 = x0 then runs cal 84 9 [v0, v1] [] I else runs cal 84 40 [v0, v1] [] I := st_cmp_ne (ins_of mI_84 (by rfl)) (by decide)
theorem r84_9 : runs cal 84 9 [vR 27, v1] [] I = runs cal 84 10 [vR 27, v1] [vR 27] I := runs_to (ins_of mI_84 (by rfl)) rfl rfl
theorem r84_10 : runs cal 84 10 [v0, v1] [vR 27] I = runs cal 84 11 [v0, v1] [vI (1), vR 27] I := runs_to (ins_of mI_84 (by rfl)) rfl rfl
theorem r84_11 : runs cal 84 11 [v0, v1] [vI x0, vR 27] I = if x0 = 0 ∨ x0 = 1 then runs cal 84 14 [v0, v1] [] (mset I 27 7 x0) else none := st_putZ (ins_of mI_84 (by rfl)) mC_84 fr_6_37 cT_27 (wdc wid_84 wd_27) rfl
theorem r84_14 : runs cal 84 14 [vR 27, v1] [] I = runs cal 84 15 [vR 27, v1] [vR 27] I := runs_to (ins_of mI_84 (by rfl)) rfl rfl
theorem r84_15 : runs cal 84 15 [vR 27, v1] [vR 27] I = runs cal 84 16 [vR 27, v1] [vR 27, vR 27] I := runs_to (ins_of mI_84 (by rfl)) rfl rfl
theorem r84_16 : runs cal 84 16 [v0, vR 2] [vR 27, vR 27] I = runs cal 84 17 [v0, vR 2] [vR 2, vR 27, vR 27] I := runs_to (ins_of mI_84 (by rfl)) rfl rfl
theorem r84_17 : runs cal 84 17 [v0, vR 2] [vR 2, vR 27, vR 27] I = runs cal 84 18 [v0, vR 2] [vR 2, vR 2, vR 27, vR 27] I := runs_to (ins_of mI_84 (by rfl)) rfl rfl
theorem r84_18 : runs cal 84 18 [v0, v1] [vR 2, vR 2, vR 27, vR 27] I = runs cal 84 21 [v0, v1] [vI (I 2 4), vR 2, vR 27, vR 27] I := st_getI (ins_of mI_84 (by rfl)) mC_84 (by decide) fr_6_41 cT_2 (wdc wid_84 wd_2) (Or.inl rfl)
theorem r84_21 : runs cal 84 21 [v0, v1] [vI x0, vR 2, vR 27, vR 27] I = (cal 89 [vR 27, vR 2, vI x0] I).bind (fun q => runs cal 84 24 [v0, v1] (pushR q.1 [vR 27]) q.2) := st_call (st := false) (ins_of mI_84 (by rfl)) mC_84 mr_6_44 (by decide) mS_89 mN_89 rfl (Nat.le_of_ble_eq_true rfl) rfl rfl (Or.inr ⟨_, _, rfl, rcv mC_89 rfl wid_84 (by decide +kernel)⟩) (Or.inl (wid_84.trans wid_89.symm))
theorem r84_24 : runs cal 84 24 [v0, v1] [vI x0, vR 27] I = runs cal 84 27 [v0, v1] [] (mset I 27 10 x0) := st_putI (ins_of mI_84 (by rfl)) mC_84 fr_6_27 cT_27 (wdc wid_84 wd_27) rfl
theorem r84_27 : runs cal 84 27 [vR 27, v1] [] I = runs cal 84 28 [vR 27, v1] [vR 27] I := runs_to (ins_of mI_84 (by rfl)) rfl rfl
theorem r84_28 : runs cal 84 28 [vR 27, v1] [vR 27] I = runs cal 84 29 [vR 27, v1] [vR 27, vR 27] I := runs_to (ins_of mI_84 (by rfl)) rfl rfl
theorem r84_29 : runs cal 84 29 [v0, v1] [vR 27, vR 27] I = runs cal 84 32 [v0, v1] [vI (I 27 8), vR 27] I := st_getI (ins_of mI_84 (by rfl)) mC_84 (by decide) fr_6_48 cT_27 (wdc wid_84 wd_27) (Or.inl rfl)
theorem r84_32 : runs cal 84 32 [v0, v1] [vI x0, vR 27] I = runs cal 84 35 [v0, v1] [] (mset I 27 9 x0) := st_putI (ins_of mI_84 (by rfl)) mC_84 fr_6_51 cT_27 (wdc wid_84 wd_27) rfl
theorem r84_35 : runs cal 84 35 [vR 27, v1] [] I = runs cal 84 36 [vR 27, v1] [vR 27] I := runs_to (ins_of mI_84 (by rfl)) rfl rfl
theorem r84_36 : runs cal 84 36 [v0, v1] [vR 27] I = runs cal 84 37 [v0, v1] [vI (0), vR 27] I := runs_to (ins_of mI_84 (by rfl)) rfl rfl
theorem r84_37 : runs cal 84 37 [v0, v1] [vI x0, vR 27] I = if x0 = 0 ∨ x0 = 1 then runs cal 84 40 [v0, v1] [] (mset I 27 7 x0) else none := st_putZ (ins_of mI_84 (by rfl)) mC_84 fr_6_37 cT_27 (wdc wid_84 wd_27) rfl
theorem r84_40 : runs cal 84 40 [vR 27, v1] [] I = runs cal 84 41 [vR 27, v1] [vR 27] I := runs_to (ins_of mI_84 (by rfl)) rfl rfl
theorem r84_41 : runs cal 84 41 [v0, v1] [vR 27] I = runs cal 84 44 [v0, v1] [vI (I 27 10)] I := st_getI (ins_of mI_84 (by rfl)) mC_84 (by decide) fr_6_27 cT_27 (wdc wid_84 wd_27) (Or.inl rfl)
theorem r84_44 : runs cal 84 44 [v0, v1] [vI x0] I = some (some (vI x0), I) := st_ret (q := some (vI x0)) (k := 0) (ins_of mI_84 (by rfl)) rfl (by decide) mR_84 rfl trivial
theorem r85_0 : runs cal 85 0 [vR 27, v1, v2, v3] [] I = runs cal 85 1 [vR 27, v1, v2, v3] [vR 27] I := runs_to (ins_of mI_85 (by rfl)) rfl rfl
theorem r85_1 : runs cal 85 1 [v0, v1, v2, v3] [vR 27] I = runs cal 85 4 [v0, v1, v2, v3] [vI (I 27 9)] I := st_getI (ins_of mI_85 (by rfl)) mC_85 (by decide) fr_6_51 cT_27 (wdc wid_85 wd_27) (Or.inl rfl)
theorem r85_4 : runs cal 85 4 [v0, vI u, v2, v3] [vI x0] I = runs cal 85 5 [v0, vI u, vI x0, v3] [] I := runs_to (ins_of mI_85 (by rfl)) rfl rfl
theorem r85_5 : runs cal 85 5 [vR 27, v1, v2, v3] [] I = runs cal 85 6 [vR 27, v1, v2, v3] [vR 27] I := runs_to (ins_of mI_85 (by rfl)) rfl rfl
theorem r85_6 : runs cal 85 6 [v0, v1, v2, v3] [vR 27] I = runs cal 85 9 [v0, v1, v2, v3] [vI (I 27 10)] I := st_getI (ins_of mI_85 (by rfl)) mC_85 (by decide) fr_6_27 cT_27 (wdc wid_85 wd_27) (Or.inl rfl)
theorem r85_9 : runs cal 85 9 [v0, v1, v2, v3] [vI x0] I = runs cal 85 10 [v0, v1, v2, v3] [vI (1), vI x0] I := runs_to (ins_of mI_85 (by rfl)) rfl rfl
theorem r85_10 : runs cal 85 10 [v0, v1, v2, v3] [vI x0, vI x1] I = runs cal 85 11 [v0, v1, v2, v3] [vI (isub x1 x0)] I := runs_to (ins_of mI_85 (by rfl)) rfl rfl
theorem r85_11 : runs cal 85 11 [v0, v1, vI u, v3] [vI x0] I = runs cal 85 12 [v0, v1, vI u, vI x0] [] I := runs_to (ins_of mI_85 (by rfl)) rfl rfl
theorem r85_12 : runs cal 85 12 [v0, v1, v2, vI w] [] I = runs cal 85 13 [v0, v1, v2, vI w] [vI w] I := runs_to (ins_of mI_85 (by rfl)) rfl rfl
theorem r85_13 : runs cal 85 13 [v0, vI w, v2, v3] [vI x0] I = runs cal 85 14 [v0, vI w, v2, v3] [vI w, vI x0] I := runs_to (ins_of mI_85 (by rfl)) rfl rfl
theorem r85_14 : runs cal 85 14 [v0, v1, v2, v3] [vI x0, vI x1] I = if x0 < x1 then runs cal 85 17 [v0, v1, v2, v3] [] I else runs cal 85 32 [v0, v1, v2, v3] [] I := st_cmp_le (ins_of mI_85 (by rfl)) (by decide)
theorem r85_17 : runs cal 85 17 [vR 27, v1, v2, v3] [] I = runs cal 85 18 [vR 27, v1, v2, v3] [vR 27] I := runs_to (ins_of mI_85 (by rfl)) rfl rfl
theorem r85_18 : runs cal 85 18 [v0, v1, vI w, v3] [vR 27] I = runs cal 85 19 [v0, v1, vI w, v3] [vI w, vR 27] I := runs_to (ins_of mI_85 (by rfl)) rfl rfl
theorem r85_19 : runs cal 85 19 [v0, v1, v2, v3] [vI x0, vR 27] I = (cal 86 [vR 27, vI x0] I).bind (fun q => runs cal 85 22 [v0, v1, v2, v3] (pushR q.1 []) q.2) := st_call (st := false) (ins_of mI_85 (by rfl)) mC_85 mr_6_54 (by decide) mS_86 mN_86 rfl (Nat.le_of_ble_eq_true rfl) rfl rfl (Or.inr ⟨_, _, rfl, rcv mC_86 rfl wid_85 (by decide +kernel)⟩) (Or.inl (wid_85.trans wid_86.symm))
theorem r85_22 : runs cal 85 22 [v0, v1, v2, v3] [vI x0] I = runs cal 85 24 [v0, v1, v2, v3] [vI (10), vI x0] I := runs_to (ins_of mI_85 (by rfl)) rfl rfl
theorem r85_24 : runs cal 85 24 [v0, v1, v2, v3] [vI x0, vI x1] I = runs cal 85 25 [v0, v1, v2, v3] [vI (ishr x1 x0)] I := runs_to (ins_of mI_85 (by rfl)) rfl rfl
theorem r85_25 : runs cal 85 25 [v0, vI u, v2, v3] [vI x0] I = runs cal 85 26 [v0, vI u, vI x0, v3] [] I := runs_to (ins_of mI_85 (by rfl)) rfl rfl
theorem r85_26 : runs cal 85 26 [v0, v1, vI u, vI w] [] I = runs cal 85 29 [v0, v1, vI u, vI (iadd w (-1))] [] I := runs_to (ins_of mI_85 (by rfl)) rfl rfl
theorem r85_29 : runs cal 85 29 [v0, v1, v2, v3] [] I = runs cal 85 12 [v0, v1, v2, v3] [] I := st_goto (ins_of mI_85 (by rfl)) (by decide)
theorem r85_32 : runs cal 85 32 [vR 27, v1, v2, v3] [] I = runs cal 85 33 [vR 27, v1, v2, v3] [vR 27] I := runs_to (ins_of mI_85 (by rfl)) rfl rfl
theorem r85_33 : runs cal 85 33 [v0, v1, vI w, v3] [vR 27] I = runs cal 85 34 [v0, v1, vI w, v3] [vI w, vR 27] I := runs_to (ins_of mI_85 (by rfl)) rfl rfl
theorem r85_34 : runs cal 85 34 [v0, v1, v2, v3] [vI x0, vR 27] I = (cal 86 [vR 27, vI x0] I).bind (fun q => runs cal 85 37 [v0, v1, v2, v3] (pushR q.1 []) q.2) := st_call (st := false) (ins_of mI_85 (by rfl)) mC_85 mr_6_54 (by decide) mS_86 mN_86 rfl (Nat.le_of_ble_eq_true rfl) rfl rfl (Or.inr ⟨_, _, rfl, rcv mC_86 rfl wid_85 (by decide +kernel)⟩) (Or.inl (wid_85.trans wid_86.symm))
theorem r85_37 : runs cal 85 37 [v0, v1, v2, v3] [vI x0] I = runs cal 85 40 [v0, v1, v2, v3] [vI (1023), vI x0] I := runs_to (ins_of mI_85 (by rfl)) rfl rfl
theorem r85_40 : runs cal 85 40 [v0, v1, v2, v3] [vI x0, vI x1] I = runs cal 85 41 [v0, v1, v2, v3] [vI (iand x1 x0)] I := runs_to (ins_of mI_85 (by rfl)) rfl rfl
theorem r85_41 : runs cal 85 41 [v0, v1, v2, v3] [vI x0] I = some (some (vI x0), I) := st_ret (q := some (vI x0)) (k := 0) (ins_of mI_85 (by rfl)) rfl (by decide) mR_85 rfl trivial
theorem r86_0 : runs cal 86 0 [v0, vI w] [] I = runs cal 86 1 [v0, vI w] [vI w] I := runs_to (ins_of mI_86 (by rfl)) rfl rfl
theorem r86_1 : runs cal 86 1 [v0, v1] [vI x0] I = if x0 < 0 then runs cal 86 22 [v0, v1] [] I else runs cal 86 4 [v0, v1] [] I := st_if_lt (ins_of mI_86 (by rfl)) (by decide)
theorem r86_4 : runs cal 86 4 [v0, vI w] [] I = runs cal 86 5 [v0, vI w] [vI w] I := runs_to (ins_of mI_86 (by rfl)) rfl rfl
theorem r86_5 : runs cal 86 5 [vR 27, v1] [vI x0] I = runs cal 86 6 [vR 27, v1] [vR 27, vI x0] I := runs_to (ins_of mI_86 (by rfl)) rfl rfl
theorem r86_6 : runs cal 86 6 [v0, v1] [vR 27, vI x1] I = runs cal 86 9 [v0, v1] [vR 30, vI x1] I := st_getR (ins_of mI_86 (by rfl)) mC_86 (by decide) fr_6_21 cT_27 (wdc wid_86 wd_27) rfl rfl
theorem r86_9 : runs cal 86 9 [v0, v1] [vR 30, vI x1] I = runs cal 86 10 [v0, v1] [vI 131072, vI x1] I := st_alen (ins_of mI_86 (by rfl)) (alen_i wid_86 wd_30 cT_30 (by decide))
theorem r86_10 : runs cal 86 10 [v0, v1] [vI x0, vI x1] I = if x1 < x0 then runs cal 86 13 [v0, v1] [] I else runs cal 86 22 [v0, v1] [] I := st_cmp_ge (ins_of mI_86 (by rfl)) (by decide)
theorem r86_13 : runs cal 86 13 [vR 27, v1] [] I = runs cal 86 14 [vR 27, v1] [vR 27] I := runs_to (ins_of mI_86 (by rfl)) rfl rfl
theorem r86_14 : runs cal 86 14 [v0, v1] [vR 27] I = runs cal 86 17 [v0, v1] [vR 30] I := st_getR (ins_of mI_86 (by rfl)) mC_86 (by decide) fr_6_21 cT_27 (wdc wid_86 wd_27) rfl rfl
theorem r86_17 : runs cal 86 17 [v0, vI w] [vR 30] I = runs cal 86 18 [v0, vI w] [vI w, vR 30] I := runs_to (ins_of mI_86 (by rfl)) rfl rfl
theorem r86_18 : runs cal 86 18 [v0, v1] [vI x0, vR 30] I = if 0 ≤ x0 ∧ x0 < 131072 then runs cal 86 19 [v0, v1] [vI (I 30 x0)] I else none := st_iald (ins_of mI_86 (by rfl)) cT_30 (wdc wid_86 wd_30)
theorem r86_19 : runs cal 86 19 [v0, v1] [vI x0] I = runs cal 86 23 [v0, v1] [vI x0] I := st_goto (ins_of mI_86 (by rfl)) (by decide)
theorem r86_22 : runs cal 86 22 [v0, v1] [] I = runs cal 86 23 [v0, v1] [vI (0)] I := runs_to (ins_of mI_86 (by rfl)) rfl rfl
theorem r86_23 : runs cal 86 23 [v0, v1] [vI x0] I = some (some (vI x0), I) := st_ret (q := some (vI x0)) (k := 0) (ins_of mI_86 (by rfl)) rfl (by decide) mR_86 rfl trivial
theorem r87_0 : runs cal 87 0 [v0, v1, vI w, v3] [] I = runs cal 87 1 [v0, v1, vI w, v3] [vI w] I := runs_to (ins_of mI_87 (by rfl)) rfl rfl
theorem r87_1 : runs cal 87 1 [v0, v1, v2, v3] [vI x0] I = if x0 < 0 then runs cal 87 13 [v0, v1, v2, v3] [] I else runs cal 87 4 [v0, v1, v2, v3] [] I := st_if_lt (ins_of mI_87 (by rfl)) (by decide)
theorem r87_4 : runs cal 87 4 [v0, v1, vI w, v3] [] I = runs cal 87 5 [v0, v1, vI w, v3] [vI w] I := runs_to (ins_of mI_87 (by rfl)) rfl rfl
theorem r87_5 : runs cal 87 5 [vR 27, v1, v2, v3] [vI x0] I = runs cal 87 6 [vR 27, v1, v2, v3] [vR 27, vI x0] I := runs_to (ins_of mI_87 (by rfl)) rfl rfl
theorem r87_6 : runs cal 87 6 [v0, v1, v2, v3] [vR 27, vI x1] I = runs cal 87 9 [v0, v1, v2, v3] [vR 32, vI x1] I := st_getR (ins_of mI_87 (by rfl)) mC_87 (by decide) fr_6_31 cT_27 (wdc wid_87 wd_27) rfl rfl
theorem r87_9 : runs cal 87 9 [v0, v1, v2, v3] [vR 32, vI x1] I = runs cal 87 10 [v0, v1, v2, v3] [vI 2, vI x1] I := st_alen (ins_of mI_87 (by rfl)) (alen_i wid_87 wd_32 cT_32 (by decide))
theorem r87_10 : runs cal 87 10 [v0, v1, v2, v3] [vI x0, vI x1] I = if x1 < x0 then runs cal 87 15 [v0, v1, v2, v3] [] I else runs cal 87 13 [v0, v1, v2, v3] [] I := st_cmp_lt (ins_of mI_87 (by rfl)) (by decide)
theorem r87_13 : runs cal 87 13 [v0, v1, v2, v3] [] I = runs cal 87 14 [v0, v1, v2, v3] [vI (-1)] I := runs_to (ins_of mI_87 (by rfl)) rfl rfl
theorem r87_14 : runs cal 87 14 [v0, v1, v2, v3] [vI x0] I = some (some (vI x0), I) := st_ret (q := some (vI x0)) (k := 0) (ins_of mI_87 (by rfl)) rfl (by decide) mR_87 rfl trivial
theorem r87_15 : runs cal 87 15 [vR 27, v1, v2, v3] [] I = runs cal 87 16 [vR 27, v1, v2, v3] [vR 27] I := runs_to (ins_of mI_87 (by rfl)) rfl rfl
theorem r87_16 : runs cal 87 16 [v0, v1, v2, v3] [vR 27] I = runs cal 87 19 [v0, v1, v2, v3] [vR 32] I := st_getR (ins_of mI_87 (by rfl)) mC_87 (by decide) fr_6_31 cT_27 (wdc wid_87 wd_27) rfl rfl
theorem r87_19 : runs cal 87 19 [v0, v1, vI w, v3] [vR 32] I = runs cal 87 20 [v0, v1, vI w, v3] [vI w, vR 32] I := runs_to (ins_of mI_87 (by rfl)) rfl rfl
theorem r87_20 : runs cal 87 20 [v0, v1, v2, v3] [vI x0, vR 32] I = if 0 ≤ x0 ∧ x0 < 2 then runs cal 87 21 [v0, v1, v2, v3] [vI (I 32 x0)] I else none := st_iald (ins_of mI_87 (by rfl)) cT_32 (wdc wid_87 wd_32)
theorem r87_21 : runs cal 87 21 [v0, v1, v2, v3] [vI x0] I = runs cal 87 23 [v0, v1, v2, v3] [vI (-9), vI x0] I := runs_to (ins_of mI_87 (by rfl)) rfl rfl
theorem r87_23 : runs cal 87 23 [v0, v1, v2, v3] [vI x0, vI x1] I = if x1 = x0 then runs cal 87 26 [v0, v1, v2, v3] [] I else runs cal 87 74 [v0, v1, v2, v3] [] I := st_cmp_ne (ins_of mI_87 (by rfl)) (by decide)
theorem r87_26 : runs cal 87 26 [v0, vR 2, v2, v3] [] I = runs cal 87 27 [v0, vR 2, v2, v3] [vR 2] I := runs_to (ins_of mI_87 (by rfl)) rfl rfl
theorem r87_27 : runs cal 87 27 [v0, vR 2, v2, v3] [vR 2] I = runs cal 87 28 [v0, vR 2, v2, v3] [vR 2, vR 2] I := runs_to (ins_of mI_87 (by rfl)) rfl rfl
theorem r87_28 : runs cal 87 28 [v0, v1, v2, v3] [vR 2, vR 2] I = runs cal 87 31 [v0, v1, v2, v3] [vI (I 2 4), vR 2] I := st_getI (ins_of mI_87 (by rfl)) mC_87 (by decide) fr_6_41 cT_2 (wdc wid_87 wd_2) (Or.inl rfl)
theorem r87_31 : runs cal 87 31 [v0, v1, vI w, v3] [vI x0, vR 2] I = runs cal 87 32 [v0, v1, vI w, v3] [vI w, vI x0, vR 2] I := runs_to (ins_of mI_87 (by rfl)) rfl rfl
theorem r87_32 : runs cal 87 32 [v0, v1, v2, v3] [vI x0, vI x1, vR 2] I = (cal 28 [vR 2, vI x1, vI x0] I).bind (fun q => runs cal 87 35 [v0, v1, v2, v3] (pushR q.1 []) q.2) := st_call (st := false) (ins_of mI_87 (by rfl)) mC_87 mr_6_58 (by decide) mS_28 mN_28 rfl (Nat.le_of_ble_eq_true rfl) rfl rfl (Or.inr ⟨_, _, rfl, rcv mC_28 rfl wid_87 (by decide +kernel)⟩) (Or.inl (wid_87.trans wid_28.symm))
theorem r87_35 : runs cal 87 35 [v0, v1, v2, v3] [vI x0] I = if 0 < x0 then runs cal 87 38 [v0, v1, v2, v3] [] I else runs cal 87 42 [v0, v1, v2, v3] [] I := st_if_le (ins_of mI_87 (by rfl)) (by decide)
theorem r87_38 : runs cal 87 38 [v0, v1, v2, v3] [] I = runs cal 87 39 [v0, v1, v2, v3] [vI (1)] I := runs_to (ins_of mI_87 (by rfl)) rfl rfl
theorem r87_39 : runs cal 87 39 [v0, v1, v2, v3] [vI x0] I = runs cal 87 43 [v0, v1, v2, v3] [vI x0] I := st_goto (ins_of mI_87 (by rfl)) (by decide)
theorem r87_42 : runs cal 87 42 [v0, v1, v2, v3] [] I = runs cal 87 43 [v0, v1, v2, v3] [vI (0)] I := runs_to (ins_of mI_87 (by rfl)) rfl rfl
theorem r87_43 : runs cal 87 43 [v0, v1, vI u, v3] [vI x0] I = runs cal 87 44 [v0, v1, vI u, vI x0] [] I := runs_to (ins_of mI_87 (by rfl)) rfl rfl
theorem r87_44 : runs cal 87 44 [vR 27, v1, v2, v3] [] I = runs cal 87 45 [vR 27, v1, v2, v3] [vR 27] I := runs_to (ins_of mI_87 (by rfl)) rfl rfl
theorem r87_45 : runs cal 87 45 [v0, v1, v2, v3] [vR 27] I = runs cal 87 48 [v0, v1, v2, v3] [vR 32] I := st_getR (ins_of mI_87 (by rfl)) mC_87 (by decide) fr_6_31 cT_27 (wdc wid_87 wd_27) rfl rfl
theorem r87_48 : runs cal 87 48 [v0, v1, vI w, v3] [vR 32] I = runs cal 87 49 [v0, v1, vI w, v3] [vI w, vR 32] I := runs_to (ins_of mI_87 (by rfl)) rfl rfl
theorem r87_49 : runs cal 87 49 [v0, v1, v2, vI w] [vI x0, vR 32] I = runs cal 87 50 [v0, v1, v2, vI w] [vI w, vI x0, vR 32] I := runs_to (ins_of mI_87 (by rfl)) rfl rfl
theorem r87_50 : runs cal 87 50 [v0, v1, v2, v3] [vI x0, vI x1, vR 32] I = if x0 = 0 then runs cal 87 57 [v0, v1, v2, v3] [vI x1, vR 32] I else runs cal 87 53 [v0, v1, v2, v3] [vI x1, vR 32] I := st_if_eq (ins_of mI_87 (by rfl)) (by decide)
theorem r87_53 : runs cal 87 53 [v0, v1, v2, v3] [vI x0, vR 32] I = runs cal 87 54 [v0, v1, v2, v3] [vI (-1), vI x0, vR 32] I := runs_to (ins_of mI_87 (by rfl)) rfl rfl
theorem r87_54 : runs cal 87 54 [v0, v1, v2, v3] [vI x0, vI x1, vR 32] I = runs cal 87 73 [v0, v1, v2, v3] [vI x0, vI x1, vR 32] I := st_goto (ins_of mI_87 (by rfl)) (by decide)
theorem r87_57 : runs cal 87 57 [vR 27, v1, v2, v3] [vI x0, vR 32] I = runs cal 87 58 [vR 27, v1, v2, v3] [vR 27, vI x0, vR 32] I := runs_to (ins_of mI_87 (by rfl)) rfl rfl
theorem r87_58 : runs cal 87 58 [v0, vR 2, v2, v3] [vR 27, vI x1, vR 32] I = runs cal 87 59 [v0, vR 2, v2, v3] [vR 2, vR 27, vI x1, vR 32] I := runs_to (ins_of mI_87 (by rfl)) rfl rfl
theorem r87_59 : runs cal 87 59 [v0, vR 2, v2, v3] [vR 2, vR 27, vI x2, vR 32] I = runs cal 87 60 [v0, vR 2, v2, v3] [vR 2, vR 2, vR 27, vI x2, vR 32] I := runs_to (ins_of mI_87 (by rfl)) rfl rfl
theorem r87_60 : runs cal 87 60 [v0, vR 2, v2, v3] [vR 2, vR 2, vR 27, vI x3, vR 32] I = runs cal 87 61 [v0, vR 2, v2, v3] [vR 2, vR 2, vR 2, vR 27, vI x3, vR 32] I := runs_to (ins_of mI_87 (by rfl)) rfl rfl
theorem r87_61 : runs cal 87 61 [v0, v1, v2, v3] [vR 2, vR 2, vR 2, vR 27, vI x4, vR 32] I = runs cal 87 64 [v0, v1, v2, v3] [vI (I 2 4), vR 2, vR 2, vR 27, vI x4, vR 32] I := st_getI (ins_of mI_87 (by rfl)) mC_87 (by decide) fr_6_41 cT_2 (wdc wid_87 wd_2) (Or.inl rfl)
theorem r87_64 : runs cal 87 64 [v0, v1, vI w, v3] [vI x0, vR 2, vR 2, vR 27, vI x4, vR 32] I = runs cal 87 65 [v0, v1, vI w, v3] [vI w, vI x0, vR 2, vR 2, vR 27, vI x4, vR 32] I := runs_to (ins_of mI_87 (by rfl)) rfl rfl
theorem r87_65 : runs cal 87 65 [v0, v1, v2, v3] [vI x0, vI x1, vR 2, vR 2, vR 27, vI x5, vR 32] I = runs cal 87 67 [v0, v1, v2, v3] [vI (15), vI x0, vI x1, vR 2, vR 2, vR 27, vI x5, vR 32] I := runs_to (ins_of mI_87 (by rfl)) rfl rfl
theorem r87_67 : runs cal 87 67 [v0, v1, v2, v3] [vI x0, vI x1, vI x2, vR 2, vR 2, vR 27, vI x6, vR 32] I = (cal 11 [vR 2, vI x2, vI x1, vI x0] I).bind (fun q => runs cal 87 70 [v0, v1, v2, v3] (pushR q.1 [vR 2, vR 27, vI x6, vR 32]) q.2) := st_call (st := false) (ins_of mI_87 (by rfl)) mC_87 mr_6_62 (by decide) mS_11 mN_11 rfl (Nat.le_of_ble_eq_true rfl) rfl rfl (Or.inr ⟨_, _, rfl, rcv mC_11 rfl wid_87 (by decide +kernel)⟩) (Or.inl (wid_87.trans wid_11.symm))
theorem r87_70 : runs cal 87 70 [v0, v1, v2, v3] [vI x0, vR 2, vR 27, vI x3, vR 32] I = (cal 89 [vR 27, vR 2, vI x0] I).bind (fun q => runs cal 87 73 [v0, v1, v2, v3] (pushR q.1 [vI x3, vR 32]) q.2) := st_call (st := false) (ins_of mI_87 (by rfl)) mC_87 mr_6_44 (by decide) mS_89 mN_89 rfl (Nat.le_of_ble_eq_true rfl) rfl rfl (Or.inr ⟨_, _, rfl, rcv mC_89 rfl wid_87 (by decide +kernel)⟩) (Or.inl (wid_87.trans wid_89.symm))
theorem r87_73 : runs cal 87 73 [v0, v1, v2, v3] [vI x0, vI x1, vR 32] I = if 0 ≤ x1 ∧ x1 < 2 then runs cal 87 74 [v0, v1, v2, v3] [] (mset I 32 x1 x0) else none := st_iast (ins_of mI_87 (by rfl)) cT_32 (wdc wid_87 wd_32)
theorem r87_74 : runs cal 87 74 [vR 27, v1, v2, v3] [] I = runs cal 87 75 [vR 27, v1, v2, v3] [vR 27] I := runs_to (ins_of mI_87 (by rfl)) rfl rfl
theorem r87_75 : runs cal 87 75 [v0, v1, v2, v3] [vR 27] I = runs cal 87 78 [v0, v1, v2, v3] [vR 32] I := st_getR (ins_of mI_87 (by rfl)) mC_87 (by decide) fr_6_31 cT_27 (wdc wid_87 wd_27) rfl rfl
theorem r87_78 : runs cal 87 78 [v0, v1, vI w, v3] [vR 32] I = runs cal 87 79 [v0, v1, vI w, v3] [vI w, vR 32] I := runs_to (ins_of mI_87 (by rfl)) rfl rfl
theorem r87_79 : runs cal 87 79 [v0, v1, v2, v3] [vI x0, vR 32] I = if 0 ≤ x0 ∧ x0 < 2 then runs cal 87 80 [v0, v1, v2, v3] [vI (I 32 x0)] I else none := st_iald (ins_of mI_87 (by rfl)) cT_32 (wdc wid_87 wd_32)
theorem r87_80 : runs cal 87 80 [v0, v1, v2, v3] [vI x0] I = some (some (vI x0), I) := st_ret (q := some (vI x0)) (k := 0) (ins_of mI_87 (by rfl)) rfl (by decide) mR_87 rfl trivial
theorem r88_0 : runs cal 88 0 [v0, v1, vI w, v3, v4, v5] [] I = runs cal 88 1 [v0, v1, vI w, v3, v4, v5] [vI w] I := runs_to (ins_of mI_88 (by rfl)) rfl rfl
theorem r88_1 : runs cal 88 1 [v0, v1, v2, v3, v4, v5] [vI x0] I = runs cal 88 2 [v0, v1, v2, v3, v4, v5] [vI (1), vI x0] I := runs_to (ins_of mI_88 (by rfl)) rfl rfl
theorem r88_2 : runs cal 88 2 [v0, v1, v2, v3, v4, v5] [vI x0, vI x1] I = runs cal 88 3 [v0, v1, v2, v3, v4, v5] [vI (iadd x1 x0)] I := runs_to (ins_of mI_88 (by rfl)) rfl rfl
theorem r88_3 : runs cal 88 3 [v0, v1, vI u, v3, v4, v5] [vI x0] I = runs cal 88 4 [v0, v1, vI u, vI x0, v4, v5] [] I := runs_to (ins_of mI_88 (by rfl)) rfl rfl
theorem r88_4 : runs cal 88 4 [v0, v1, v2, vI w, v4, v5] [] I = runs cal 88 5 [v0, v1, v2, vI w, v4, v5] [vI w] I := runs_to (ins_of mI_88 (by rfl)) rfl rfl
theorem r88_5 : runs cal 88 5 [v0, v1, v2, v3, v4, v5] [vI x0] I = if x0 < 0 then runs cal 88 17 [v0, v1, v2, v3, v4, v5] [] I else runs cal 88 8 [v0, v1, v2, v3, v4, v5] [] I := st_if_lt (ins_of mI_88 (by rfl)) (by decide)
theorem r88_8 : runs cal 88 8 [v0, v1, v2, vI w, v4, v5] [] I = runs cal 88 9 [v0, v1, v2, vI w, v4, v5] [vI w] I := runs_to (ins_of mI_88 (by rfl)) rfl rfl
theorem r88_9 : runs cal 88 9 [vR 27, v1, v2, v3, v4, v5] [vI x0] I = runs cal 88 10 [vR 27, v1, v2, v3, v4, v5] [vR 27, vI x0] I := runs_to (ins_of mI_88 (by rfl)) rfl rfl
theorem r88_10 : runs cal 88 10 [v0, v1, v2, v3, v4, v5] [vR 27, vI x1] I = runs cal 88 13 [v0, v1, v2, v3, v4, v5] [vR 33, vI x1] I := st_getR (ins_of mI_88 (by rfl)) mC_88 (by decide) fr_6_34 cT_27 (wdc wid_88 wd_27) rfl rfl
theorem r88_13 : runs cal 88 13 [v0, v1, v2, v3, v4, v5] [vR 33, vI x1] I = runs cal 88 14 [v0, v1, v2, v3, v4, v5] [vI 3, vI x1] I := st_alen (ins_of mI_88 (by rfl)) (alen_i wid_88 wd_33 cT_33 (by decide))
theorem r88_14 : runs cal 88 14 [v0, v1, v2, v3, v4, v5] [vI x0, vI x1] I = if x1 < x0 then runs cal 88 19 [v0, v1, v2, v3, v4, v5] [] I else runs cal 88 17 [v0, v1, v2, v3, v4, v5] [] I := st_cmp_lt (ins_of mI_88 (by rfl)) (by decide)
theorem r88_17 : runs cal 88 17 [v0, v1, v2, v3, v4, v5] [] I = runs cal 88 18 [v0, v1, v2, v3, v4, v5] [vI (-1)] I := runs_to (ins_of mI_88 (by rfl)) rfl rfl
theorem r88_18 : runs cal 88 18 [v0, v1, v2, v3, v4, v5] [vI x0] I = some (some (vI x0), I) := st_ret (q := some (vI x0)) (k := 0) (ins_of mI_88 (by rfl)) rfl (by decide) mR_88 rfl trivial
theorem r88_19 : runs cal 88 19 [vR 27, v1, v2, v3, v4, v5] [] I = runs cal 88 20 [vR 27, v1, v2, v3, v4, v5] [vR 27] I := runs_to (ins_of mI_88 (by rfl)) rfl rfl
theorem r88_20 : runs cal 88 20 [v0, v1, v2, v3, v4, v5] [vR 27] I = runs cal 88 23 [v0, v1, v2, v3, v4, v5] [vR 33] I := st_getR (ins_of mI_88 (by rfl)) mC_88 (by decide) fr_6_34 cT_27 (wdc wid_88 wd_27) rfl rfl
theorem r88_23 : runs cal 88 23 [v0, v1, v2, vI w, v4, v5] [vR 33] I = runs cal 88 24 [v0, v1, v2, vI w, v4, v5] [vI w, vR 33] I := runs_to (ins_of mI_88 (by rfl)) rfl rfl
theorem r88_24 : runs cal 88 24 [v0, v1, v2, v3, v4, v5] [vI x0, vR 33] I = if 0 ≤ x0 ∧ x0 < 3 then runs cal 88 25 [v0, v1, v2, v3, v4, v5] [vI (I 33 x0)] I else none := st_iald (ins_of mI_88 (by rfl)) cT_33 (wdc wid_88 wd_33)
theorem r88_25 : runs cal 88 25 [v0, v1, v2, v3, v4, v5] [vI x0] I = runs cal 88 27 [v0, v1, v2, v3, v4, v5] [vI (-9), vI x0] I := runs_to (ins_of mI_88 (by rfl)) rfl rfl
theorem r88_27 : runs cal 88 27 [v0, v1, v2, v3, v4, v5] [vI x0, vI x1] I = if x1 = x0 then runs cal 88 30 [v0, v1, v2, v3, v4, v5] [] I else runs cal 88 101 [v0, v1, v2, v3, v4, v5] [] I := st_cmp_ne (ins_of mI_88 (by rfl)) (by decide)
theorem r88_30 : runs cal 88 30 [v0, v1, vI w, v3, v4, v5] [] I = runs cal 88 31 [v0, v1, vI w, v3, v4, v5] [vI w] I := runs_to (ins_of mI_88 (by rfl)) rfl rfl
theorem r88_31 : runs cal 88 31 [v0, v1, v2, v3, v4, v5] [vI x0] I = runs cal 88 32 [v0, v1, v2, v3, v4, v5] [vI (-1), vI x0] I := runs_to (ins_of mI_88 (by rfl)) rfl rfl
theorem r88_32 : runs cal 88 32 [v0, v1, v2, v3, v4, v5] [vI x0, vI x1] I = if x1 = x0 then runs cal 88 51 [v0, v1, v2, v3, v4, v5] [] I else runs cal 88 35 [v0, v1, v2, v3, v4, v5] [] I := st_cmp_eq (ins_of mI_88 (by rfl)) (by decide)
theorem r88_35 : runs cal 88 35 [v0, vR 2, v2, v3, v4, v5] [] I = runs cal 88 36 [v0, vR 2, v2, v3, v4, v5] [vR 2] I := runs_to (ins_of mI_88 (by rfl)) rfl rfl
theorem r88_36 : runs cal 88 36 [v0, vR 2, v2, v3, v4, v5] [vR 2] I = runs cal 88 37 [v0, vR 2, v2, v3, v4, v5] [vR 2, vR 2] I := runs_to (ins_of mI_88 (by rfl)) rfl rfl
theorem r88_37 : runs cal 88 37 [v0, v1, v2, v3, v4, v5] [vR 2, vR 2] I = runs cal 88 40 [v0, v1, v2, v3, v4, v5] [vI (I 2 4), vR 2] I := st_getI (ins_of mI_88 (by rfl)) mC_88 (by decide) fr_6_41 cT_2 (wdc wid_88 wd_2) (Or.inl rfl)
theorem r88_40 : runs cal 88 40 [v0, v1, vI w, v3, v4, v5] [vI x0, vR 2] I = runs cal 88 41 [v0, v1, vI w, v3, v4, v5] [vI w, vI x0, vR 2] I := runs_to (ins_of mI_88 (by rfl)) rfl rfl
theorem r88_41 : runs cal 88 41 [v0, v1, v2, v3, v4, v5] [vI x0, vI x1, vR 2] I = (cal 28 [vR 2, vI x1, vI x0] I).bind (fun q => runs cal 88 44 [v0, v1, v2, v3, v4, v5] (pushR q.1 []) q.2) := st_call (st := false) (ins_of mI_88 (by rfl)) mC_88 mr_6_58 (by decide) mS_28 mN_28 rfl (Nat.le_of_ble_eq_true rfl) rfl rfl (Or.inr ⟨_, _, rfl, rcv mC_28 rfl wid_88 (by decide +kernel)⟩) (Or.inl (wid_88.trans wid_28.symm))
theorem r88_44 : runs cal 88 44 [v0, v1, v2, v3, v4, v5] [vI x0] I = if 0 < x0 then runs cal 88 47 [v0, v1, v2, v3, v4, v5] [] I else runs cal 88 51 [v0, v1, v2, v3, v4, v5] [] I := st_if_le (ins_of mI_88 (by rfl)) (by decide)
theorem r88_47 : runs cal 88 47 [v0, v1, v2, v3, v4, v5] [] I = runs cal 88 48 [v0, v1, v2, v3, v4, v5] [vI (1)] I := runs_to (ins_of mI_88 (by rfl)) rfl rfl
theorem r88_48 : runs cal 88 48 [v0, v1, v2, v3, v4, v5] [vI x0] I = runs cal 88 52 [v0, v1, v2, v3, v4, v5] [vI x0] I := st_goto (ins_of mI_88 (by rfl)) (by decide)
theorem r88_51 : runs cal 88 51 [v0, v1, v2, v3, v4, v5] [] I = runs cal 88 52 [v0, v1, v2, v3, v4, v5] [vI (0)] I := runs_to (ins_of mI_88 (by rfl)) rfl rfl
theorem r88_52 : runs cal 88 52 [v0, v1, v2, vI u, v4, v5] [vI x0] I = runs cal 88 54 [v0, v1, v2, vI u, vI x0, v5] [] I := runs_to (ins_of mI_88 (by rfl)) rfl rfl
theorem r88_54 : runs cal 88 54 [v0, v1, vI w, v3, v4, v5] [] I = runs cal 88 55 [v0, v1, vI w, v3, v4, v5] [vI w] I := runs_to (ins_of mI_88 (by rfl)) rfl rfl
theorem r88_55 : runs cal 88 55 [v0, v1, v2, v3, v4, v5] [vI x0] I = runs cal 88 56 [v0, v1, v2, v3, v4, v5] [vI (-1), vI x0] I := runs_to (ins_of mI_88 (by rfl)) rfl rfl
theorem r88_56 : runs cal 88 56 [v0, v1, v2, v3, v4, v5] [vI x0, vI x1] I = if x1 = x0 then runs cal 88 59 [v0, v1, v2, v3, v4, v5] [] I else runs cal 88 66 [v0, v1, v2, v3, v4, v5] [] I := st_cmp_ne (ins_of mI_88 (by rfl)) (by decide)
theorem r88_59 : runs cal 88 59 [v0, vR 2, v2, v3, v4, v5] [] I = runs cal 88 60 [v0, vR 2, v2, v3, v4, v5] [vR 2] I := runs_to (ins_of mI_88 (by rfl)) rfl rfl
theorem r88_60 : runs cal 88 60 [v0, v1, v2, v3, v4, v5] [vR 2] I = runs cal 88 63 [v0, v1, v2, v3, v4, v5] [vI (I 2 4)] I := st_getI (ins_of mI_88 (by rfl)) mC_88 (by decide) fr_6_41 cT_2 (wdc wid_88 wd_2) (Or.inl rfl)
theorem r88_63 : runs cal 88 63 [v0, v1, v2, v3, v4, v5] [vI x0] I = runs cal 88 77 [v0, v1, v2, v3, v4, v5] [vI x0] I := st_goto (ins_of mI_88 (by rfl)) (by decide)
theorem r88_66 : runs cal 88 66 [v0, vR 2, v2, v3, v4, v5] [] I = runs cal 88 67 [v0, vR 2, v2, v3, v4, v5] [vR 2] I := runs_to (ins_of mI_88 (by rfl)) rfl rfl
theorem r88_67 : runs cal 88 67 [v0, vR 2, v2, v3, v4, v5] [vR 2] I = runs cal 88 68 [v0, vR 2, v2, v3, v4, v5] [vR 2, vR 2] I := runs_to (ins_of mI_88 (by rfl)) rfl rfl
theorem r88_68 : runs cal 88 68 [v0, v1, v2, v3, v4, v5] [vR 2, vR 2] I = runs cal 88 71 [v0, v1, v2, v3, v4, v5] [vI (I 2 4), vR 2] I := st_getI (ins_of mI_88 (by rfl)) mC_88 (by decide) fr_6_41 cT_2 (wdc wid_88 wd_2) (Or.inl rfl)
theorem r88_71 : runs cal 88 71 [v0, v1, vI w, v3, v4, v5] [vI x0, vR 2] I = runs cal 88 72 [v0, v1, vI w, v3, v4, v5] [vI w, vI x0, vR 2] I := runs_to (ins_of mI_88 (by rfl)) rfl rfl
theorem r88_72 : runs cal 88 72 [v0, v1, v2, v3, v4, v5] [vI x0, vI x1, vR 2] I = runs cal 88 74 [v0, v1, v2, v3, v4, v5] [vI (15), vI x0, vI x1, vR 2] I := runs_to (ins_of mI_88 (by rfl)) rfl rfl
theorem r88_74 : runs cal 88 74 [v0, v1, v2, v3, v4, v5] [vI x0, vI x1, vI x2, vR 2] I = (cal 11 [vR 2, vI x2, vI x1, vI x0] I).bind (fun q => runs cal 88 77 [v0, v1, v2, v3, v4, v5] (pushR q.1 []) q.2) := st_call (st := false) (ins_of mI_88 (by rfl)) mC_88 mr_6_62 (by decide) mS_11 mN_11 rfl (Nat.le_of_ble_eq_true rfl) rfl rfl (Or.inr ⟨_, _, rfl, rcv mC_11 rfl wid_88 (by decide +kernel)⟩) (Or.inl (wid_88.trans wid_11.symm))
theorem r88_77 : runs cal 88 77 [v0, v1, v2, v3, vI u, v5] [vI x0] I = runs cal 88 79 [v0, v1, v2, v3, vI u, vI x0] [] I := runs_to (ins_of mI_88 (by rfl)) rfl rfl
theorem r88_79 : runs cal 88 79 [vR 27, v1, v2, v3, v4, v5] [] I = runs cal 88 80 [vR 27, v1, v2, v3, v4, v5] [vR 27] I := runs_to (ins_of mI_88 (by rfl)) rfl rfl
theorem r88_80 : runs cal 88 80 [v0, v1, v2, v3, v4, v5] [vR 27] I = runs cal 88 83 [v0, v1, v2, v3, v4, v5] [vR 33] I := st_getR (ins_of mI_88 (by rfl)) mC_88 (by decide) fr_6_34 cT_27 (wdc wid_88 wd_27) rfl rfl
theorem r88_83 : runs cal 88 83 [v0, v1, v2, vI w, v4, v5] [vR 33] I = runs cal 88 84 [v0, v1, v2, vI w, v4, v5] [vI w, vR 33] I := runs_to (ins_of mI_88 (by rfl)) rfl rfl
theorem r88_84 : runs cal 88 84 [v0, v1, v2, v3, vI w, v5] [vI x0, vR 33] I = runs cal 88 86 [v0, v1, v2, v3, vI w, v5] [vI w, vI x0, vR 33] I := runs_to (ins_of mI_88 (by rfl)) rfl rfl
theorem r88_86 : runs cal 88 86 [v0, v1, v2, v3, v4, v5] [vI x0, vI x1, vR 33] I = if x0 = 0 then runs cal 88 93 [v0, v1, v2, v3, v4, v5] [vI x1, vR 33] I else runs cal 88 89 [v0, v1, v2, v3, v4, v5] [vI x1, vR 33] I := st_if_eq (ins_of mI_88 (by rfl)) (by decide)
theorem r88_89 : runs cal 88 89 [v0, v1, v2, v3, v4, v5] [vI x0, vR 33] I = runs cal 88 90 [v0, v1, v2, v3, v4, v5] [vI (-1), vI x0, vR 33] I := runs_to (ins_of mI_88 (by rfl)) rfl rfl
theorem r88_90 : runs cal 88 90 [v0, v1, v2, v3, v4, v5] [vI x0, vI x1, vR 33] I = runs cal 88 100 [v0, v1, v2, v3, v4, v5] [vI x0, vI x1, vR 33] I := st_goto (ins_of mI_88 (by rfl)) (by decide)
theorem r88_93 : runs cal 88 93 [vR 27, v1, v2, v3, v4, v5] [vI x0, vR 33] I = runs cal 88 94 [vR 27, v1, v2, v3, v4, v5] [vR 27, vI x0, vR 33] I := runs_to (ins_of mI_88 (by rfl)) rfl rfl
theorem r88_94 : runs cal 88 94 [v0, vR 2, v2, v3, v4, v5] [vR 27, vI x1, vR 33] I = runs cal 88 95 [v0, vR 2, v2, v3, v4, v5] [vR 2, vR 27, vI x1, vR 33] I := runs_to (ins_of mI_88 (by rfl)) rfl rfl
theorem r88_95 : runs cal 88 95 [v0, v1, v2, v3, v4, vI w] [vR 2, vR 27, vI x2, vR 33] I = runs cal 88 97 [v0, v1, v2, v3, v4, vI w] [vI w, vR 2, vR 27, vI x2, vR 33] I := runs_to (ins_of mI_88 (by rfl)) rfl rfl
theorem r88_97 : runs cal 88 97 [v0, v1, v2, v3, v4, v5] [vI x0, vR 2, vR 27, vI x3, vR 33] I = (cal 90 [vR 27, vR 2, vI x0] I).bind (fun q => runs cal 88 100 [v0, v1, v2, v3, v4, v5] (pushR q.1 [vI x3, vR 33]) q.2) := st_call (st := false) (ins_of mI_88 (by rfl)) mC_88 mr_6_66 (by decide) mS_90 mN_90 rfl (Nat.le_of_ble_eq_true rfl) rfl rfl (Or.inr ⟨_, _, rfl, rcv mC_90 rfl wid_88 (by decide +kernel)⟩) (Or.inl (wid_88.trans wid_90.symm))
theorem r88_100 : runs cal 88 100 [v0, v1, v2, v3, v4, v5] [vI x0, vI x1, vR 33] I = if 0 ≤ x1 ∧ x1 < 3 then runs cal 88 101 [v0, v1, v2, v3, v4, v5] [] (mset I 33 x1 x0) else none := st_iast (ins_of mI_88 (by rfl)) cT_33 (wdc wid_88 wd_33)
theorem r88_101 : runs cal 88 101 [vR 27, v1, v2, v3, v4, v5] [] I = runs cal 88 102 [vR 27, v1, v2, v3, v4, v5] [vR 27] I := runs_to (ins_of mI_88 (by rfl)) rfl rfl
theorem r88_102 : runs cal 88 102 [v0, v1, v2, v3, v4, v5] [vR 27] I = runs cal 88 105 [v0, v1, v2, v3, v4, v5] [vR 33] I := st_getR (ins_of mI_88 (by rfl)) mC_88 (by decide) fr_6_34 cT_27 (wdc wid_88 wd_27) rfl rfl
theorem r88_105 : runs cal 88 105 [v0, v1, v2, vI w, v4, v5] [vR 33] I = runs cal 88 106 [v0, v1, v2, vI w, v4, v5] [vI w, vR 33] I := runs_to (ins_of mI_88 (by rfl)) rfl rfl
theorem r88_106 : runs cal 88 106 [v0, v1, v2, v3, v4, v5] [vI x0, vR 33] I = if 0 ≤ x0 ∧ x0 < 3 then runs cal 88 107 [v0, v1, v2, v3, v4, v5] [vI (I 33 x0)] I else none := st_iald (ins_of mI_88 (by rfl)) cT_33 (wdc wid_88 wd_33)
theorem r88_107 : runs cal 88 107 [v0, v1, v2, v3, v4, v5] [vI x0] I = some (some (vI x0), I) := st_ret (q := some (vI x0)) (k := 0) (ins_of mI_88 (by rfl)) rfl (by decide) mR_88 rfl trivial
theorem r89_0 : runs cal 89 0 [vR 27, v1, v2, v3, v4, v5] [] I = runs cal 89 1 [vR 27, v1, v2, v3, v4, v5] [vR 27] I := runs_to (ins_of mI_89 (by rfl)) rfl rfl
theorem r89_1 : runs cal 89 1 [v0, v1, vI w, v3, v4, v5] [vR 27] I = runs cal 89 2 [v0, v1, vI w, v3, v4, v5] [vI w, vR 27] I := runs_to (ins_of mI_89 (by rfl)) rfl rfl
theorem r89_2 : runs cal 89 2 [v0, v1, v2, v3, v4, v5] [vI x0, vR 27] I = (cal 91 [vR 27, vI x0] I).bind (fun q => runs cal 89 5 [v0, v1, v2, v3, v4, v5] (pushR q.1 []) q.2) := st_call (st := false) (ins_of mI_89 (by rfl)) mC_89 mr_6_69 (by decide) mS_91 mN_91 rfl (Nat.le_of_ble_eq_true rfl) rfl rfl (Or.inr ⟨_, _, rfl, rcv mC_91 rfl wid_89 (by decide +kernel)⟩) (Or.inl (wid_89.trans wid_91.symm))
theorem r89_5 : runs cal 89 5 [v0, vR 2, v2, v3, v4, v5] [] I = runs cal 89 6 [v0, vR 2, v2, v3, v4, v5] [vR 2] I := runs_to (ins_of mI_89 (by rfl)) rfl rfl
theorem r89_6 : runs cal 89 6 [v0, v1, vI w, v3, v4, v5] [vR 2] I = runs cal 89 7 [v0, v1, vI w, v3, v4, v5] [vI w, vR 2] I := runs_to (ins_of mI_89 (by rfl)) rfl rfl
theorem r89_7 : runs cal 89 7 [v0, v1, v2, v3, v4, v5] [vI x0, vR 2] I = (cal 15 [vR 2, vI x0] I).bind (fun q => runs cal 89 10 [v0, v1, v2, v3, v4, v5] (pushR q.1 []) q.2) := st_call (st := false) (ins_of mI_89 (by rfl)) mC_89 mr_6_73 (by decide) mS_15 mN_15 rfl (Nat.le_of_ble_eq_true rfl) rfl rfl (Or.inr ⟨_, _, rfl, rcv mC_15 rfl wid_89 (by decide +kernel)⟩) (Or.inl (wid_89.trans wid_15.symm))
theorem r89_10 : runs cal 89 10 [v0, v1, v2, v3, v4, v5] [vI x0] I = if x0 = 0 then runs cal 89 15 [v0, v1, v2, v3, v4, v5] [] I else runs cal 89 13 [v0, v1, v2, v3, v4, v5] [] I := st_if_eq (ins_of mI_89 (by rfl)) (by decide)
theorem r89_13 : runs cal 89 13 [v0, v1, v2, v3, v4, v5] [] I = runs cal 89 14 [v0, v1, v2, v3, v4, v5] [vI (0)] I := runs_to (ins_of mI_89 (by rfl)) rfl rfl
theorem r89_14 : runs cal 89 14 [v0, v1, v2, v3, v4, v5] [vI x0] I = some (some (vI x0), I) := st_ret (q := some (vI x0)) (k := 0) (ins_of mI_89 (by rfl)) rfl (by decide) mR_89 rfl trivial
theorem r89_15 : runs cal 89 15 [vR 27, v1, v2, v3, v4, v5] [] I = runs cal 89 16 [vR 27, v1, v2, v3, v4, v5] [vR 27] I := runs_to (ins_of mI_89 (by rfl)) rfl rfl
theorem r89_16 : runs cal 89 16 [v0, vR 2, v2, v3, v4, v5] [vR 27] I = runs cal 89 17 [v0, vR 2, v2, v3, v4, v5] [vR 2, vR 27] I := runs_to (ins_of mI_89 (by rfl)) rfl rfl
theorem r89_17 : runs cal 89 17 [v0, v1, v2, v3, v4, v5] [vR 2, vR 27] I = runs cal 89 18 [v0, v1, v2, v3, v4, v5] [vI (0), vR 2, vR 27] I := runs_to (ins_of mI_89 (by rfl)) rfl rfl
theorem r89_18 : runs cal 89 18 [v0, v1, v2, v3, v4, v5] [vI x0, vR 2, vR 27] I = runs cal 89 21 [v0, v1, v2, v3, v4, v5] [vI (1024), vI x0, vR 2, vR 27] I := runs_to (ins_of mI_89 (by rfl)) rfl rfl
theorem r89_21 : runs cal 89 21 [v0, v1, v2, v3, v4, v5] [vI x0, vI x1, vR 2, vR 27] I = (cal 92 [vR 27, vR 2, vI x1, vI x0] I).bind (fun q => runs cal 89 24 [v0, v1, v2, v3, v4, v5] (pushR q.1 []) q.2) := st_call (st := false) (ins_of mI_89 (by rfl)) mC_89 mr_6_77 (by decide) mS_92 mN_92 rfl (Nat.le_of_ble_eq_true rfl) rfl rfl (Or.inr ⟨_, _, rfl, rcv mC_92 rfl wid_89 (by decide +kernel)⟩) (Or.inl (wid_89.trans wid_92.symm))
theorem r89_24 : runs cal 89 24 [v0, v1, v2, v3, v4, v5] [] I = runs cal 89 25 [v0, v1, v2, v3, v4, v5] [vI (0)] I := runs_to (ins_of mI_89 (by rfl)) rfl rfl
theorem r89_25 : runs cal 89 25 [v0, v1, vI u, v3, v4, v5] [vI x0] I = runs cal 89 26 [v0, v1, vI u, vI x0, v4, v5] [] I := runs_to (ins_of mI_89 (by rfl)) rfl rfl
theorem r89_26 : runs cal 89 26 [v0, v1, v2, v3, v4, v5] [] I = runs cal 89 27 [v0, v1, v2, v3, v4, v5] [vI (0)] I := runs_to (ins_of mI_89 (by rfl)) rfl rfl
theorem r89_27 : runs cal 89 27 [v0, v1, v2, vI u, v4, v5] [vI x0] I = runs cal 89 29 [v0, v1, v2, vI u, vI x0, v5] [] I := runs_to (ins_of mI_89 (by rfl)) rfl rfl
theorem r89_29 : runs cal 89 29 [v0, v1, v2, v3, v4, v5] [] I = runs cal 89 30 [v0, v1, v2, v3, v4, v5] [vI (0)] I := runs_to (ins_of mI_89 (by rfl)) rfl rfl
theorem r89_30 : runs cal 89 30 [v0, v1, v2, v3, vI u, v5] [vI x0] I = runs cal 89 32 [v0, v1, v2, v3, vI u, vI x0] [] I := runs_to (ins_of mI_89 (by rfl)) rfl rfl
theorem r89_32 : runs cal 89 32 [v0, v1, v2, v3, v4, vI w] [] I = runs cal 89 34 [v0, v1, v2, v3, v4, vI w] [vI w] I := runs_to (ins_of mI_89 (by rfl)) rfl rfl
theorem r89_34 : runs cal 89 34 [vR 27, v1, v2, v3, v4, v5] [vI x0] I = runs cal 89 35 [vR 27, v1, v2, v3, v4, v5] [vR 27, vI x0] I := runs_to (ins_of mI_89 (by rfl)) rfl rfl
theorem r89_35 : runs cal 89 35 [v0, v1, v2, v3, v4, v5] [vR 27, vI x1] I = runs cal 89 38 [v0, v1, v2, v3, v4, v5] [vI (I 27 6), vI x1] I := st_getI (ins_of mI_89 (by rfl)) mC_89 (by decide) fr_6_81 cT_27 (wdc wid_89 wd_27) (Or.inl rfl)
theorem r89_38 : runs cal 89 38 [v0, v1, v2, v3, v4, v5] [vI x0, vI x1] I = if x1 < x0 then runs cal 89 41 [v0, v1, v2, v3, v4, v5] [] I else runs cal 89 90 [v0, v1, v2, v3, v4, v5] [] I := st_cmp_ge (ins_of mI_89 (by rfl)) (by decide)
theorem r89_41 : runs cal 89 41 [v0, v1, v2, v3, v4, vI w] [] I = runs cal 89 43 [v0, v1, v2, v3, v4, vI w] [vI w] I := runs_to (ins_of mI_89 (by rfl)) rfl rfl
theorem r89_43 : runs cal 89 43 [vR 27, v1, v2, v3, v4, v5] [vI x0] I = runs cal 89 44 [vR 27, v1, v2, v3, v4, v5] [vR 27, vI x0] I := runs_to (ins_of mI_89 (by rfl)) rfl rfl
theorem r89_44 : runs cal 89 44 [v0, v1, v2, v3, v4, v5] [vR 27, vI x1] I = runs cal 89 47 [v0, v1, v2, v3, v4, v5] [vR 29, vI x1] I := st_getR (ins_of mI_89 (by rfl)) mC_89 (by decide) fr_6_18 cT_27 (wdc wid_89 wd_27) rfl rfl
theorem r89_47 : runs cal 89 47 [v0, v1, v2, v3, v4, v5] [vR 29, vI x1] I = runs cal 89 48 [v0, v1, v2, v3, v4, v5] [vI 131072, vI x1] I := st_alen (ins_of mI_89 (by rfl)) (alen_i wid_89 wd_29 cT_29 (by decide))
theorem r89_48 : runs cal 89 48 [v0, v1, v2, v3, v4, v5] [vI x0, vI x1] I = if x1 < x0 then runs cal 89 51 [v0, v1, v2, v3, v4, v5] [] I else runs cal 89 90 [v0, v1, v2, v3, v4, v5] [] I := st_cmp_ge (ins_of mI_89 (by rfl)) (by decide)
theorem r89_51 : runs cal 89 51 [v0, v1, v2, v3, v4, vI w] [] I = runs cal 89 53 [v0, v1, v2, v3, v4, vI w] [vI w] I := runs_to (ins_of mI_89 (by rfl)) rfl rfl
theorem r89_53 : runs cal 89 53 [v0, v1, v2, v3, vI w, v5] [vI x0] I = runs cal 89 55 [v0, v1, v2, v3, vI w, v5] [vI w, vI x0] I := runs_to (ins_of mI_89 (by rfl)) rfl rfl
theorem r89_55 : runs cal 89 55 [v0, v1, v2, v3, v4, v5] [vI x0, vI x1] I = if x1 = x0 then runs cal 89 58 [v0, v1, v2, v3, v4, v5] [] I else runs cal 89 67 [v0, v1, v2, v3, v4, v5] [] I := st_cmp_ne (ins_of mI_89 (by rfl)) (by decide)
theorem r89_58 : runs cal 89 58 [v0, v1, vI u, vI w, v4, v5] [] I = runs cal 89 61 [v0, v1, vI u, vI (iadd w (1)), v4, v5] [] I := runs_to (ins_of mI_89 (by rfl)) rfl rfl
theorem r89_61 : runs cal 89 61 [vR 27, v1, v2, v3, v4, v5] [] I = runs cal 89 62 [vR 27, v1, v2, v3, v4, v5] [vR 27] I := runs_to (ins_of mI_89 (by rfl)) rfl rfl
theorem r89_62 : runs cal 89 62 [v0, v1, v2, v3, v4, v5] [vR 27] I = runs cal 89 65 [v0, v1, v2, v3, v4, v5] [vI (I 27 6)] I := st_getI (ins_of mI_89 (by rfl)) mC_89 (by decide) fr_6_81 cT_27 (wdc wid_89 wd_27) (Or.inl rfl)
theorem r89_65 : runs cal 89 65 [v0, v1, v2, vI u, v4, v5] [vI x0] I = runs cal 89 67 [v0, v1, v2, vI u, vI x0, v5] [] I := runs_to (ins_of mI_89 (by rfl)) rfl rfl
theorem r89_67 : runs cal 89 67 [vR 27, v1, v2, v3, v4, v5] [] I = runs cal 89 68 [vR 27, v1, v2, v3, v4, v5] [vR 27] I := runs_to (ins_of mI_89 (by rfl)) rfl rfl
theorem r89_68 : runs cal 89 68 [v0, vR 2, v2, v3, v4, v5] [vR 27] I = runs cal 89 69 [v0, vR 2, v2, v3, v4, v5] [vR 2, vR 27] I := runs_to (ins_of mI_89 (by rfl)) rfl rfl
theorem r89_69 : runs cal 89 69 [vR 27, v1, v2, v3, v4, v5] [vR 2, vR 27] I = runs cal 89 70 [vR 27, v1, v2, v3, v4, v5] [vR 27, vR 2, vR 27] I := runs_to (ins_of mI_89 (by rfl)) rfl rfl
theorem r89_70 : runs cal 89 70 [v0, v1, v2, v3, v4, v5] [vR 27, vR 2, vR 27] I = runs cal 89 73 [v0, v1, v2, v3, v4, v5] [vR 29, vR 2, vR 27] I := st_getR (ins_of mI_89 (by rfl)) mC_89 (by decide) fr_6_18 cT_27 (wdc wid_89 wd_27) rfl rfl
theorem r89_73 : runs cal 89 73 [v0, v1, v2, v3, v4, vI w] [vR 29, vR 2, vR 27] I = runs cal 89 75 [v0, v1, v2, v3, v4, vI w] [vI w, vR 29, vR 2, vR 27] I := runs_to (ins_of mI_89 (by rfl)) rfl rfl
theorem r89_75 : runs cal 89 75 [v0, v1, v2, v3, v4, v5] [vI x0, vR 29, vR 2, vR 27] I = if 0 ≤ x0 ∧ x0 < 131072 then runs cal 89 76 [v0, v1, v2, v3, v4, v5] [vI (I 29 x0), vR 2, vR 27] I else none := st_iald (ins_of mI_89 (by rfl)) cT_29 (wdc wid_89 wd_29)
theorem r89_76 : runs cal 89 76 [v0, v1, v2, v3, v4, v5] [vI x0, vR 2, vR 27] I = (cal 93 [vR 27, vR 2, vI x0] I).bind (fun q => runs cal 89 79 [v0, v1, v2, v3, v4, v5] (pushR q.1 []) q.2) := st_call (st := false) (ins_of mI_89 (by rfl)) mC_89 mr_6_84 (by decide) mS_93 mN_93 rfl (Nat.le_of_ble_eq_true rfl) rfl rfl (Or.inr ⟨_, _, rfl, rcv mC_93 rfl wid_89 (by decide +kernel)⟩) (Or.inl (wid_89.trans wid_93.symm))
theorem r89_79 : runs cal 89 79 [v0, v1, v2, v3, v4, v5] [vI x0] I = if x0 = 0 then runs cal 89 84 [v0, v1, v2, v3, v4, v5] [] I else runs cal 89 82 [v0, v1, v2, v3, v4, v5] [] I := st_if_eq (ins_of mI_89 (by rfl)) (by decide)
theorem r89_82 : runs cal 89 82 [v0, v1, v2, vI w, v4, v5] [] I = runs cal 89 83 [v0, v1, v2, vI w, v4, v5] [vI w] I := runs_to (ins_of mI_89 (by rfl)) rfl rfl
theorem r89_83 : runs cal 89 83 [v0, v1, v2, v3, v4, v5] [vI x0] I = some (some (vI x0), I) := st_ret (q := some (vI x0)) (k := 0) (ins_of mI_89 (by rfl)) rfl (by decide) mR_89 rfl trivial
theorem r89_84 : runs cal 89 84 [v0, v1, v2, v3, vI u, vI w] [] I = runs cal 89 87 [v0, v1, v2, v3, vI u, vI (iadd w (1))] [] I := runs_to (ins_of mI_89 (by rfl)) rfl rfl
theorem r89_87 : runs cal 89 87 [v0, v1, v2, v3, v4, v5] [] I = runs cal 89 32 [v0, v1, v2, v3, v4, v5] [] I := st_goto (ins_of mI_89 (by rfl)) (by decide)
theorem r89_90 : runs cal 89 90 [v0, v1, v2, v3, v4, v5] [] I = runs cal 89 91 [v0, v1, v2, v3, v4, v5] [vI (-1)] I := runs_to (ins_of mI_89 (by rfl)) rfl rfl
theorem r89_91 : runs cal 89 91 [v0, v1, v2, v3, v4, v5] [vI x0] I = some (some (vI x0), I) := st_ret (q := some (vI x0)) (k := 0) (ins_of mI_89 (by rfl)) rfl (by decide) mR_89 rfl trivial
theorem r90_0 : runs cal 90 0 [vR 27, v1, v2, v3, v4, v5, v6] [] I = runs cal 90 1 [vR 27, v1, v2, v3, v4, v5, v6] [vR 27] I := runs_to (ins_of mI_90 (by rfl)) rfl rfl
theorem r90_1 : runs cal 90 1 [v0, v1, vI w, v3, v4, v5, v6] [vR 27] I = runs cal 90 2 [v0, v1, vI w, v3, v4, v5, v6] [vI w, vR 27] I := runs_to (ins_of mI_90 (by rfl)) rfl rfl
theorem r90_2 : runs cal 90 2 [v0, v1, v2, v3, v4, v5, v6] [vI x0, vR 27] I = (cal 91 [vR 27, vI x0] I).bind (fun q => runs cal 90 5 [v0, v1, v2, v3, v4, v5, v6] (pushR q.1 []) q.2) := st_call (st := false) (ins_of mI_90 (by rfl)) mC_90 mr_6_69 (by decide) mS_91 mN_91 rfl (Nat.le_of_ble_eq_true rfl) rfl rfl (Or.inr ⟨_, _, rfl, rcv mC_91 rfl wid_90 (by decide +kernel)⟩) (Or.inl (wid_90.trans wid_91.symm))
theorem r90_5 : runs cal 90 5 [v0, vR 2, v2, v3, v4, v5, v6] [] I = runs cal 90 6 [v0, vR 2, v2, v3, v4, v5, v6] [vR 2] I := runs_to (ins_of mI_90 (by rfl)) rfl rfl
theorem r90_6 : runs cal 90 6 [v0, v1, vI w, v3, v4, v5, v6] [vR 2] I = runs cal 90 7 [v0, v1, vI w, v3, v4, v5, v6] [vI w, vR 2] I := runs_to (ins_of mI_90 (by rfl)) rfl rfl
theorem r90_7 : runs cal 90 7 [v0, v1, v2, v3, v4, v5, v6] [vI x0, vR 2] I = (cal 15 [vR 2, vI x0] I).bind (fun q => runs cal 90 10 [v0, v1, v2, v3, v4, v5, v6] (pushR q.1 []) q.2) := st_call (st := false) (ins_of mI_90 (by rfl)) mC_90 mr_6_73 (by decide) mS_15 mN_15 rfl (Nat.le_of_ble_eq_true rfl) rfl rfl (Or.inr ⟨_, _, rfl, rcv mC_15 rfl wid_90 (by decide +kernel)⟩) (Or.inl (wid_90.trans wid_15.symm))
theorem r90_10 : runs cal 90 10 [v0, v1, v2, v3, v4, v5, v6] [vI x0] I = if x0 = 0 then runs cal 90 15 [v0, v1, v2, v3, v4, v5, v6] [] I else runs cal 90 13 [v0, v1, v2, v3, v4, v5, v6] [] I := st_if_eq (ins_of mI_90 (by rfl)) (by decide)
theorem r90_13 : runs cal 90 13 [v0, v1, v2, v3, v4, v5, v6] [] I = runs cal 90 14 [v0, v1, v2, v3, v4, v5, v6] [vI (0)] I := runs_to (ins_of mI_90 (by rfl)) rfl rfl
theorem r90_14 : runs cal 90 14 [v0, v1, v2, v3, v4, v5, v6] [vI x0] I = some (some (vI x0), I) := st_ret (q := some (vI x0)) (k := 0) (ins_of mI_90 (by rfl)) rfl (by decide) mR_90 rfl trivial
theorem r90_15 : runs cal 90 15 [v0, v1, v2, v3, v4, v5, v6] [] I = runs cal 90 16 [v0, v1, v2, v3, v4, v5, v6] [vI (0)] I := runs_to (ins_of mI_90 (by rfl)) rfl rfl
theorem r90_16 : runs cal 90 16 [v0, v1, vI u, v3, v4, v5, v6] [vI x0] I = runs cal 90 17 [v0, v1, vI u, vI x0, v4, v5, v6] [] I := runs_to (ins_of mI_90 (by rfl)) rfl rfl
theorem r90_17 : runs cal 90 17 [v0, v1, v2, v3, v4, v5, v6] [] I = runs cal 90 18 [v0, v1, v2, v3, v4, v5, v6] [vI (0)] I := runs_to (ins_of mI_90 (by rfl)) rfl rfl
theorem r90_18 : runs cal 90 18 [v0, v1, v2, vI u, v4, v5, v6] [vI x0] I = runs cal 90 20 [v0, v1, v2, vI u, vI x0, v5, v6] [] I := runs_to (ins_of mI_90 (by rfl)) rfl rfl
theorem r90_20 : runs cal 90 20 [v0, v1, v2, v3, vI w, v5, v6] [] I = runs cal 90 22 [v0, v1, v2, v3, vI w, v5, v6] [vI w] I := runs_to (ins_of mI_90 (by rfl)) rfl rfl
theorem r90_22 : runs cal 90 22 [v0, v1, v2, v3, v4, v5, v6] [vI x0] I = runs cal 90 23 [v0, v1, v2, v3, v4, v5, v6] [vI (3), vI x0] I := runs_to (ins_of mI_90 (by rfl)) rfl rfl
theorem r90_23 : runs cal 90 23 [v0, v1, v2, v3, v4, v5, v6] [vI x0, vI x1] I = if x0 < x1 then runs cal 90 163 [v0, v1, v2, v3, v4, v5, v6] [] I else runs cal 90 26 [v0, v1, v2, v3, v4, v5, v6] [] I := st_cmp_gt (ins_of mI_90 (by rfl)) (by decide)
theorem r90_26 : runs cal 90 26 [vR 27, v1, v2, v3, v4, v5, v6] [] I = runs cal 90 27 [vR 27, v1, v2, v3, v4, v5, v6] [vR 27] I := runs_to (ins_of mI_90 (by rfl)) rfl rfl
theorem r90_27 : runs cal 90 27 [v0, vR 2, v2, v3, v4, v5, v6] [vR 27] I = runs cal 90 28 [v0, vR 2, v2, v3, v4, v5, v6] [vR 2, vR 27] I := runs_to (ins_of mI_90 (by rfl)) rfl rfl
theorem r90_28 : runs cal 90 28 [v0, v1, v2, v3, v4, v5, v6] [vR 2, vR 27] I = runs cal 90 29 [v0, v1, v2, v3, v4, v5, v6] [vI (0), vR 2, vR 27] I := runs_to (ins_of mI_90 (by rfl)) rfl rfl
theorem r90_29 : runs cal 90 29 [v0, v1, v2, v3, v4, v5, v6] [vI x0, vR 2, vR 27] I = runs cal 90 32 [v0, v1, v2, v3, v4, v5, v6] [vI (1024), vI x0, vR 2, vR 27] I := runs_to (ins_of mI_90 (by rfl)) rfl rfl
theorem r90_32 : runs cal 90 32 [v0, v1, v2, v3, v4, v5, v6] [vI x0, vI x1, vR 2, vR 27] I = (cal 92 [vR 27, vR 2, vI x1, vI x0] I).bind (fun q => runs cal 90 35 [v0, v1, v2, v3, v4, v5, v6] (pushR q.1 []) q.2) := st_call (st := false) (ins_of mI_90 (by rfl)) mC_90 mr_6_77 (by decide) mS_92 mN_92 rfl (Nat.le_of_ble_eq_true rfl) rfl rfl (Or.inr ⟨_, _, rfl, rcv mC_92 rfl wid_90 (by decide +kernel)⟩) (Or.inl (wid_90.trans wid_92.symm))
theorem r90_35 : runs cal 90 35 [v0, v1, v2, vI w, v4, v5, v6] [] I = runs cal 90 36 [v0, v1, v2, vI w, v4, v5, v6] [vI w] I := runs_to (ins_of mI_90 (by rfl)) rfl rfl
theorem r90_36 : runs cal 90 36 [v0, v1, v2, v3, vI u, v5, v6] [vI x0] I = runs cal 90 38 [v0, v1, v2, v3, vI u, vI x0, v6] [] I := runs_to (ins_of mI_90 (by rfl)) rfl rfl
theorem r90_38 : runs cal 90 38 [v0, v1, v2, v3, v4, vI w, v6] [] I = runs cal 90 40 [v0, v1, v2, v3, v4, vI w, v6] [vI w] I := runs_to (ins_of mI_90 (by rfl)) rfl rfl
theorem r90_40 : runs cal 90 40 [vR 27, v1, v2, v3, v4, v5, v6] [vI x0] I = runs cal 90 41 [vR 27, v1, v2, v3, v4, v5, v6] [vR 27, vI x0] I := runs_to (ins_of mI_90 (by rfl)) rfl rfl
theorem r90_41 : runs cal 90 41 [v0, v1, v2, v3, v4, v5, v6] [vR 27, vI x1] I = runs cal 90 44 [v0, v1, v2, v3, v4, v5, v6] [vI (I 27 6), vI x1] I := st_getI (ins_of mI_90 (by rfl)) mC_90 (by decide) fr_6_81 cT_27 (wdc wid_90 wd_27) (Or.inl rfl)
theorem r90_44 : runs cal 90 44 [v0, v1, v2, v3, v4, v5, v6] [vI x0, vI x1] I = if x1 < x0 then runs cal 90 47 [v0, v1, v2, v3, v4, v5, v6] [] I else runs cal 90 81 [v0, v1, v2, v3, v4, v5, v6] [] I := st_cmp_ge (ins_of mI_90 (by rfl)) (by decide)
theorem r90_47 : runs cal 90 47 [v0, v1, v2, v3, v4, vI w, v6] [] I = runs cal 90 49 [v0, v1, v2, v3, v4, vI w, v6] [vI w] I := runs_to (ins_of mI_90 (by rfl)) rfl rfl
theorem r90_49 : runs cal 90 49 [vR 27, v1, v2, v3, v4, v5, v6] [vI x0] I = runs cal 90 50 [vR 27, v1, v2, v3, v4, v5, v6] [vR 27, vI x0] I := runs_to (ins_of mI_90 (by rfl)) rfl rfl
theorem r90_50 : runs cal 90 50 [v0, v1, v2, v3, v4, v5, v6] [vR 27, vI x1] I = runs cal 90 53 [v0, v1, v2, v3, v4, v5, v6] [vR 29, vI x1] I := st_getR (ins_of mI_90 (by rfl)) mC_90 (by decide) fr_6_18 cT_27 (wdc wid_90 wd_27) rfl rfl
theorem r90_53 : runs cal 90 53 [v0, v1, v2, v3, v4, v5, v6] [vR 29, vI x1] I = runs cal 90 54 [v0, v1, v2, v3, v4, v5, v6] [vI 131072, vI x1] I := st_alen (ins_of mI_90 (by rfl)) (alen_i wid_90 wd_29 cT_29 (by decide))
theorem r90_54 : runs cal 90 54 [v0, v1, v2, v3, v4, v5, v6] [vI x0, vI x1] I = if x1 < x0 then runs cal 90 57 [v0, v1, v2, v3, v4, v5, v6] [] I else runs cal 90 81 [v0, v1, v2, v3, v4, v5, v6] [] I := st_cmp_ge (ins_of mI_90 (by rfl)) (by decide)
theorem r90_57 : runs cal 90 57 [vR 27, v1, v2, v3, v4, v5, v6] [] I = runs cal 90 58 [vR 27, v1, v2, v3, v4, v5, v6] [vR 27] I := runs_to (ins_of mI_90 (by rfl)) rfl rfl
theorem r90_58 : runs cal 90 58 [v0, vR 2, v2, v3, v4, v5, v6] [vR 27] I = runs cal 90 59 [v0, vR 2, v2, v3, v4, v5, v6] [vR 2, vR 27] I := runs_to (ins_of mI_90 (by rfl)) rfl rfl
theorem r90_59 : runs cal 90 59 [vR 27, v1, v2, v3, v4, v5, v6] [vR 2, vR 27] I = runs cal 90 60 [vR 27, v1, v2, v3, v4, v5, v6] [vR 27, vR 2, vR 27] I := runs_to (ins_of mI_90 (by rfl)) rfl rfl
theorem r90_60 : runs cal 90 60 [v0, v1, v2, v3, v4, v5, v6] [vR 27, vR 2, vR 27] I = runs cal 90 63 [v0, v1, v2, v3, v4, v5, v6] [vR 29, vR 2, vR 27] I := st_getR (ins_of mI_90 (by rfl)) mC_90 (by decide) fr_6_18 cT_27 (wdc wid_90 wd_27) rfl rfl
theorem r90_63 : runs cal 90 63 [v0, v1, v2, v3, v4, vI w, v6] [vR 29, vR 2, vR 27] I = runs cal 90 65 [v0, v1, v2, v3, v4, vI w, v6] [vI w, vR 29, vR 2, vR 27] I := runs_to (ins_of mI_90 (by rfl)) rfl rfl
theorem r90_65 : runs cal 90 65 [v0, v1, v2, v3, v4, v5, v6] [vI x0, vR 29, vR 2, vR 27] I = if 0 ≤ x0 ∧ x0 < 131072 then runs cal 90 66 [v0, v1, v2, v3, v4, v5, v6] [vI (I 29 x0), vR 2, vR 27] I else none := st_iald (ins_of mI_90 (by rfl)) cT_29 (wdc wid_90 wd_29)
theorem r90_66 : runs cal 90 66 [v0, v1, v2, v3, v4, v5, v6] [vI x0, vR 2, vR 27] I = (cal 93 [vR 27, vR 2, vI x0] I).bind (fun q => runs cal 90 69 [v0, v1, v2, v3, v4, v5, v6] (pushR q.1 []) q.2) := st_call (st := false) (ins_of mI_90 (by rfl)) mC_90 mr_6_84 (by decide) mS_93 mN_93 rfl (Nat.le_of_ble_eq_true rfl) rfl rfl (Or.inr ⟨_, _, rfl, rcv mC_93 rfl wid_90 (by decide +kernel)⟩) (Or.inl (wid_90.trans wid_93.symm))
theorem r90_69 : runs cal 90 69 [v0, v1, v2, v3, v4, v5, v6] [vI x0] I = if x0 = 0 then runs cal 90 75 [v0, v1, v2, v3, v4, v5, v6] [] I else runs cal 90 72 [v0, v1, v2, v3, v4, v5, v6] [] I := st_if_eq (ins_of mI_90 (by rfl)) (by decide)
theorem r90_72 : runs cal 90 72 [v0, v1, v2, v3, vI w, v5, v6] [] I = runs cal 90 74 [v0, v1, v2, v3, vI w, v5, v6] [vI w] I := runs_to (ins_of mI_90 (by rfl)) rfl rfl
theorem r90_74 : runs cal 90 74 [v0, v1, v2, v3, v4, v5, v6] [vI x0] I = some (some (vI x0), I) := st_ret (q := some (vI x0)) (k := 0) (ins_of mI_90 (by rfl)) rfl (by decide) mR_90 rfl trivial
theorem r90_75 : runs cal 90 75 [v0, v1, v2, v3, vI u, vI w, v6] [] I = runs cal 90 78 [v0, v1, v2, v3, vI u, vI (iadd w (1)), v6] [] I := runs_to (ins_of mI_90 (by rfl)) rfl rfl
theorem r90_78 : runs cal 90 78 [v0, v1, v2, v3, v4, v5, v6] [] I = runs cal 90 38 [v0, v1, v2, v3, v4, v5, v6] [] I := st_goto (ins_of mI_90 (by rfl)) (by decide)
theorem r90_81 : runs cal 90 81 [v0, v1, v2, v3, vI w, v5, v6] [] I = runs cal 90 83 [v0, v1, v2, v3, vI w, v5, v6] [vI w] I := runs_to (ins_of mI_90 (by rfl)) rfl rfl
theorem r90_83 : runs cal 90 83 [v0, v1, v2, v3, v4, v5, v6] [vI x0] I = runs cal 90 84 [v0, v1, v2, v3, v4, v5, v6] [vI (3), vI x0] I := runs_to (ins_of mI_90 (by rfl)) rfl rfl
theorem r90_84 : runs cal 90 84 [v0, v1, v2, v3, v4, v5, v6] [vI x0, vI x1] I = if x1 < x0 then runs cal 90 87 [v0, v1, v2, v3, v4, v5, v6] [] I else runs cal 90 94 [v0, v1, v2, v3, v4, v5, v6] [] I := st_cmp_ge (ins_of mI_90 (by rfl)) (by decide)
theorem r90_87 : runs cal 90 87 [vR 27, v1, v2, v3, v4, v5, v6] [] I = runs cal 90 88 [vR 27, v1, v2, v3, v4, v5, v6] [vR 27] I := runs_to (ins_of mI_90 (by rfl)) rfl rfl
theorem r90_88 : runs cal 90 88 [v0, v1, v2, v3, v4, v5, v6] [vR 27] I = runs cal 90 91 [v0, v1, v2, v3, v4, v5, v6] [vI (I 27 6)] I := st_getI (ins_of mI_90 (by rfl)) mC_90 (by decide) fr_6_81 cT_27 (wdc wid_90 wd_27) (Or.inl rfl)
theorem r90_91 : runs cal 90 91 [v0, v1, v2, v3, v4, v5, v6] [vI x0] I = runs cal 90 95 [v0, v1, v2, v3, v4, v5, v6] [vI x0] I := st_goto (ins_of mI_90 (by rfl)) (by decide)
theorem r90_94 : runs cal 90 94 [v0, v1, v2, vI w, v4, v5, v6] [] I = runs cal 90 95 [v0, v1, v2, vI w, v4, v5, v6] [vI w] I := runs_to (ins_of mI_90 (by rfl)) rfl rfl
theorem r90_95 : runs cal 90 95 [v0, v1, v2, v3, vI u, v5, v6] [vI x0] I = runs cal 90 97 [v0, v1, v2, v3, vI u, vI x0, v6] [] I := runs_to (ins_of mI_90 (by rfl)) rfl rfl
theorem r90_97 : runs cal 90 97 [vR 27, v1, v2, v3, v4, v5, v6] [] I = runs cal 90 98 [vR 27, v1, v2, v3, v4, v5, v6] [vR 27] I := runs_to (ins_of mI_90 (by rfl)) rfl rfl
theorem r90_98 : runs cal 90 98 [v0, vR 2, v2, v3, v4, v5, v6] [vR 27] I = runs cal 90 99 [v0, vR 2, v2, v3, v4, v5, v6] [vR 2, vR 27] I := runs_to (ins_of mI_90 (by rfl)) rfl rfl
theorem r90_99 : runs cal 90 99 [v0, v1, v2, v3, v4, v5, v6] [vR 2, vR 27] I = runs cal 90 102 [v0, v1, v2, v3, v4, v5, v6] [vI (1024), vR 2, vR 27] I := runs_to (ins_of mI_90 (by rfl)) rfl rfl
theorem r90_102 : runs cal 90 102 [v0, v1, v2, v3, v4, v5, v6] [vI x0, vR 2, vR 27] I = runs cal 90 105 [v0, v1, v2, v3, v4, v5, v6] [vI (1280), vI x0, vR 2, vR 27] I := runs_to (ins_of mI_90 (by rfl)) rfl rfl
theorem r90_105 : runs cal 90 105 [v0, v1, v2, v3, v4, v5, v6] [vI x0, vI x1, vR 2, vR 27] I = (cal 92 [vR 27, vR 2, vI x1, vI x0] I).bind (fun q => runs cal 90 108 [v0, v1, v2, v3, v4, v5, v6] (pushR q.1 []) q.2) := st_call (st := false) (ins_of mI_90 (by rfl)) mC_90 mr_6_77 (by decide) mS_92 mN_92 rfl (Nat.le_of_ble_eq_true rfl) rfl rfl (Or.inr ⟨_, _, rfl, rcv mC_92 rfl wid_90 (by decide +kernel)⟩) (Or.inl (wid_90.trans wid_92.symm))
theorem r90_108 : runs cal 90 108 [v0, v1, v2, vI w, v4, v5, v6] [] I = runs cal 90 109 [v0, v1, v2, vI w, v4, v5, v6] [vI w] I := runs_to (ins_of mI_90 (by rfl)) rfl rfl
theorem r90_109 : runs cal 90 109 [v0, v1, v2, v3, v4, vI u, v6] [vI x0] I = runs cal 90 111 [v0, v1, v2, v3, v4, vI u, vI x0] [] I := runs_to (ins_of mI_90 (by rfl)) rfl rfl
theorem r90_111 : runs cal 90 111 [v0, v1, v2, v3, v4, v5, vI w] [] I = runs cal 90 113 [v0, v1, v2, v3, v4, v5, vI w] [vI w] I := runs_to (ins_of mI_90 (by rfl)) rfl rfl
theorem r90_113 : runs cal 90 113 [v0, v1, v2, v3, v4, vI w, v6] [vI x0] I = runs cal 90 115 [v0, v1, v2, v3, v4, vI w, v6] [vI w, vI x0] I := runs_to (ins_of mI_90 (by rfl)) rfl rfl
theorem r90_115 : runs cal 90 115 [v0, v1, v2, v3, v4, v5, v6] [vI x0, vI x1] I = if x1 < x0 then runs cal 90 118 [v0, v1, v2, v3, v4, v5, v6] [] I else runs cal 90 154 [v0, v1, v2, v3, v4, v5, v6] [] I := st_cmp_ge (ins_of mI_90 (by rfl)) (by decide)
theorem r90_118 : runs cal 90 118 [v0, v1, v2, v3, v4, v5, vI w] [] I = runs cal 90 120 [v0, v1, v2, v3, v4, v5, vI w] [vI w] I := runs_to (ins_of mI_90 (by rfl)) rfl rfl
theorem r90_120 : runs cal 90 120 [vR 27, v1, v2, v3, v4, v5, v6] [vI x0] I = runs cal 90 121 [vR 27, v1, v2, v3, v4, v5, v6] [vR 27, vI x0] I := runs_to (ins_of mI_90 (by rfl)) rfl rfl
theorem r90_121 : runs cal 90 121 [v0, v1, v2, v3, v4, v5, v6] [vR 27, vI x1] I = runs cal 90 124 [v0, v1, v2, v3, v4, v5, v6] [vR 29, vI x1] I := st_getR (ins_of mI_90 (by rfl)) mC_90 (by decide) fr_6_18 cT_27 (wdc wid_90 wd_27) rfl rfl
theorem r90_124 : runs cal 90 124 [v0, v1, v2, v3, v4, v5, v6] [vR 29, vI x1] I = runs cal 90 125 [v0, v1, v2, v3, v4, v5, v6] [vI 131072, vI x1] I := st_alen (ins_of mI_90 (by rfl)) (alen_i wid_90 wd_29 cT_29 (by decide))
theorem r90_125 : runs cal 90 125 [v0, v1, v2, v3, v4, v5, v6] [vI x0, vI x1] I = if x1 < x0 then runs cal 90 128 [v0, v1, v2, v3, v4, v5, v6] [] I else runs cal 90 154 [v0, v1, v2, v3, v4, v5, v6] [] I := st_cmp_ge (ins_of mI_90 (by rfl)) (by decide)
theorem r90_128 : runs cal 90 128 [vR 27, v1, v2, v3, v4, v5, v6] [] I = runs cal 90 129 [vR 27, v1, v2, v3, v4, v5, v6] [vR 27] I := runs_to (ins_of mI_90 (by rfl)) rfl rfl
theorem r90_129 : runs cal 90 129 [v0, vR 2, v2, v3, v4, v5, v6] [vR 27] I = runs cal 90 130 [v0, vR 2, v2, v3, v4, v5, v6] [vR 2, vR 27] I := runs_to (ins_of mI_90 (by rfl)) rfl rfl
theorem r90_130 : runs cal 90 130 [vR 27, v1, v2, v3, v4, v5, v6] [vR 2, vR 27] I = runs cal 90 131 [vR 27, v1, v2, v3, v4, v5, v6] [vR 27, vR 2, vR 27] I := runs_to (ins_of mI_90 (by rfl)) rfl rfl
theorem r90_131 : runs cal 90 131 [v0, v1, v2, v3, v4, v5, v6] [vR 27, vR 2, vR 27] I = runs cal 90 134 [v0, v1, v2, v3, v4, v5, v6] [vR 29, vR 2, vR 27] I := st_getR (ins_of mI_90 (by rfl)) mC_90 (by decide) fr_6_18 cT_27 (wdc wid_90 wd_27) rfl rfl
theorem r90_134 : runs cal 90 134 [v0, v1, v2, v3, v4, v5, vI w] [vR 29, vR 2, vR 27] I = runs cal 90 136 [v0, v1, v2, v3, v4, v5, vI w] [vI w, vR 29, vR 2, vR 27] I := runs_to (ins_of mI_90 (by rfl)) rfl rfl
theorem r90_136 : runs cal 90 136 [v0, v1, v2, v3, v4, v5, v6] [vI x0, vR 29, vR 2, vR 27] I = if 0 ≤ x0 ∧ x0 < 131072 then runs cal 90 137 [v0, v1, v2, v3, v4, v5, v6] [vI (I 29 x0), vR 2, vR 27] I else none := st_iald (ins_of mI_90 (by rfl)) cT_29 (wdc wid_90 wd_29)
theorem r90_137 : runs cal 90 137 [v0, v1, v2, v3, v4, v5, v6] [vI x0, vR 2, vR 27] I = (cal 93 [vR 27, vR 2, vI x0] I).bind (fun q => runs cal 90 140 [v0, v1, v2, v3, v4, v5, v6] (pushR q.1 []) q.2) := st_call (st := false) (ins_of mI_90 (by rfl)) mC_90 mr_6_84 (by decide) mS_93 mN_93 rfl (Nat.le_of_ble_eq_true rfl) rfl rfl (Or.inr ⟨_, _, rfl, rcv mC_93 rfl wid_90 (by decide +kernel)⟩) (Or.inl (wid_90.trans wid_93.symm))
theorem r90_140 : runs cal 90 140 [v0, v1, v2, v3, v4, v5, v6] [vI x0] I = if x0 = 0 then runs cal 90 148 [v0, v1, v2, v3, v4, v5, v6] [] I else runs cal 90 143 [v0, v1, v2, v3, v4, v5, v6] [] I := st_if_eq (ins_of mI_90 (by rfl)) (by decide)
theorem r90_143 : runs cal 90 143 [v0, v1, v2, v3, vI w, v5, v6] [] I = runs cal 90 145 [v0, v1, v2, v3, vI w, v5, v6] [vI w] I := runs_to (ins_of mI_90 (by rfl)) rfl rfl
theorem r90_145 : runs cal 90 145 [v0, v1, v2, v3, v4, v5, v6] [vI x0] I = runs cal 90 146 [v0, v1, v2, v3, v4, v5, v6] [vI (1), vI x0] I := runs_to (ins_of mI_90 (by rfl)) rfl rfl
theorem r90_146 : runs cal 90 146 [v0, v1, v2, v3, v4, v5, v6] [vI x0, vI x1] I = runs cal 90 147 [v0, v1, v2, v3, v4, v5, v6] [vI (iadd x1 x0)] I := runs_to (ins_of mI_90 (by rfl)) rfl rfl
theorem r90_147 : runs cal 90 147 [v0, v1, v2, v3, v4, v5, v6] [vI x0] I = some (some (vI x0), I) := st_ret (q := some (vI x0)) (k := 0) (ins_of mI_90 (by rfl)) rfl (by decide) mR_90 rfl trivial
theorem r90_148 : runs cal 90 148 [v0, v1, v2, v3, v4, vI u, vI w] [] I = runs cal 90 151 [v0, v1, v2, v3, v4, vI u, vI (iadd w (1))] [] I := runs_to (ins_of mI_90 (by rfl)) rfl rfl
theorem r90_151 : runs cal 90 151 [v0, v1, v2, v3, v4, v5, v6] [] I = runs cal 90 111 [v0, v1, v2, v3, v4, v5, v6] [] I := st_goto (ins_of mI_90 (by rfl)) (by decide)
theorem r90_154 : runs cal 90 154 [v0, v1, v2, v3, v4, vI w, v6] [] I = runs cal 90 156 [v0, v1, v2, v3, v4, vI w, v6] [vI w] I := runs_to (ins_of mI_90 (by rfl)) rfl rfl
theorem r90_156 : runs cal 90 156 [v0, v1, vI u, v3, v4, v5, v6] [vI x0] I = runs cal 90 157 [v0, v1, vI u, vI x0, v4, v5, v6] [] I := runs_to (ins_of mI_90 (by rfl)) rfl rfl
theorem r90_157 : runs cal 90 157 [v0, v1, v2, vI u, vI w, v5, v6] [] I = runs cal 90 160 [v0, v1, v2, vI u, vI (iadd w (1)), v5, v6] [] I := runs_to (ins_of mI_90 (by rfl)) rfl rfl
theorem r90_160 : runs cal 90 160 [v0, v1, v2, v3, v4, v5, v6] [] I = runs cal 90 20 [v0, v1, v2, v3, v4, v5, v6] [] I := st_goto (ins_of mI_90 (by rfl)) (by decide)
theorem r90_163 : runs cal 90 163 [v0, v1, v2, v3, v4, v5, v6] [] I = runs cal 90 164 [v0, v1, v2, v3, v4, v5, v6] [vI (-1)] I := runs_to (ins_of mI_90 (by rfl)) rfl rfl
theorem r90_164 : runs cal 90 164 [v0, v1, v2, v3, v4, v5, v6] [vI x0] I = some (some (vI x0), I) := st_ret (q := some (vI x0)) (k := 0) (ins_of mI_90 (by rfl)) rfl (by decide) mR_90 rfl trivial
theorem r91_0 : runs cal 91 0 [vR 27, v1] [] I = runs cal 91 1 [vR 27, v1] [vR 27] I := runs_to (ins_of mI_91 (by rfl)) rfl rfl
theorem r91_1 : runs cal 91 1 [v0, v1] [vR 27] I = runs cal 91 2 [v0, v1] [vR 27, vR 27] I := runs_to (ins_of mI_91 (by rfl)) rfl rfl
theorem r91_2 : runs cal 91 2 [v0, v1] [vR 27, vR 27] I = runs cal 91 5 [v0, v1] [vI (I 27 5), vR 27] I := st_getI (ins_of mI_91 (by rfl)) mC_91 (by decide) fr_6_88 cT_27 (wdc wid_91 wd_27) (Or.inl rfl)
theorem r91_5 : runs cal 91 5 [v0, v1] [vI x0, vR 27] I = runs cal 91 6 [v0, v1] [vI (1), vI x0, vR 27] I := runs_to (ins_of mI_91 (by rfl)) rfl rfl
theorem r91_6 : runs cal 91 6 [v0, v1] [vI x0, vI x1, vR 27] I = runs cal 91 7 [v0, v1] [vI (iadd x1 x0), vR 27] I := runs_to (ins_of mI_91 (by rfl)) rfl rfl
theorem r91_7 : runs cal 91 7 [v0, v1] [vI x0, vR 27] I = runs cal 91 10 [v0, v1] [] (mset I 27 5 x0) := st_putI (ins_of mI_91 (by rfl)) mC_91 fr_6_88 cT_27 (wdc wid_91 wd_27) rfl
theorem r91_10 : runs cal 91 10 [vR 27, v1] [] I = runs cal 91 11 [vR 27, v1] [vR 27] I := runs_to (ins_of mI_91 (by rfl)) rfl rfl
theorem r91_11 : runs cal 91 11 [v0, v1] [vR 27] I = runs cal 91 12 [v0, v1] [vI (0), vR 27] I := runs_to (ins_of mI_91 (by rfl)) rfl rfl
theorem r91_12 : runs cal 91 12 [v0, v1] [vI x0, vR 27] I = runs cal 91 15 [v0, v1] [] (mset I 27 6 x0) := st_putI (ins_of mI_91 (by rfl)) mC_91 fr_6_81 cT_27 (wdc wid_91 wd_27) rfl
theorem r91_15 : runs cal 91 15 [vR 27, v1] [] I = runs cal 91 16 [vR 27, v1] [vR 27] I := runs_to (ins_of mI_91 (by rfl)) rfl rfl
theorem r91_16 : runs cal 91 16 [v0, vI w] [vR 27] I = runs cal 91 17 [v0, vI w] [vI w, vR 27] I := runs_to (ins_of mI_91 (by rfl)) rfl rfl
theorem r91_17 : runs cal 91 17 [v0, v1] [vI x0, vR 27] I = runs cal 91 20 [v0, v1] [] (mset I 27 8 x0) := st_putI (ins_of mI_91 (by rfl)) mC_91 fr_6_48 cT_27 (wdc wid_91 wd_27) rfl
theorem r91_20 : runs cal 91 20 [vR 27, v1] [] I = runs cal 91 21 [vR 27, v1] [vR 27] I := runs_to (ins_of mI_91 (by rfl)) rfl rfl
theorem r91_21 : runs cal 91 21 [v0, vI w] [vR 27] I = runs cal 91 22 [v0, vI w] [vI w, vR 27] I := runs_to (ins_of mI_91 (by rfl)) rfl rfl
theorem r91_22 : runs cal 91 22 [v0, v1] [vI x0, vR 27] I = (cal 94 [vR 27, vI x0] I).bind (fun q => runs cal 91 25 [v0, v1] (pushR q.1 []) q.2) := st_call (st := false) (ins_of mI_91 (by rfl)) mC_91 mr_6_91 (by decide) mS_94 mN_94 rfl (Nat.le_of_ble_eq_true rfl) rfl rfl (Or.inr ⟨_, _, rfl, rcv mC_94 rfl wid_91 (by decide +kernel)⟩) (Or.inl (wid_91.trans wid_94.symm))
theorem r91_25 : runs cal 91 25 [v0, v1] [vI x0] I = runs cal 91 26 [v0, v1] [] I := runs_to (ins_of mI_91 (by rfl)) rfl rfl
theorem r91_26 : runs cal 91 26 [v0, v1] [] I = some (none, I) := st_ret (q := none) (k := 3) (ins_of mI_91 (by rfl)) rfl (by decide) mR_91 rfl trivial
theorem r92_0 : runs cal 92 0 [vR 27, v1, v2, v3, v4] [] I = runs cal 92 1 [vR 27, v1, v2, v3, v4] [vR 27] I := runs_to (ins_of mI_92 (by rfl)) rfl rfl
theorem r92_1 : runs cal 92 1 [v0, v1, v2, v3, v4] [vR 27] I = runs cal 92 2 [v0, v1, v2, v3, v4] [vI (0), vR 27] I := runs_to (ins_of mI_92 (by rfl)) rfl rfl
theorem r92_2 : runs cal 92 2 [v0, v1, v2, v3, v4] [vI x0, vR 27] I = runs cal 92 5 [v0, v1, v2, v3, v4] [] (mset I 27 4 x0) := st_putI (ins_of mI_92 (by rfl)) mC_92 fr_6_94 cT_27 (wdc wid_92 wd_27) rfl
theorem r92_5 : runs cal 92 5 [v0, v1, vI w, v3, v4] [] I = runs cal 92 6 [v0, v1, vI w, v3, v4] [vI w] I := runs_to (ins_of mI_92 (by rfl)) rfl rfl
theorem r92_6 : runs cal 92 6 [v0, v1, v2, vI u, v4] [vI x0] I = runs cal 92 8 [v0, v1, v2, vI u, vI x0] [] I := runs_to (ins_of mI_92 (by rfl)) rfl rfl
theorem r92_8 : runs cal 92 8 [v0, v1, v2, v3, vI w] [] I = runs cal 92 10 [v0, v1, v2, v3, vI w] [vI w] I := runs_to (ins_of mI_92 (by rfl)) rfl rfl
theorem r92_10 : runs cal 92 10 [v0, v1, v2, vI w, v4] [vI x0] I = runs cal 92 11 [v0, v1, v2, vI w, v4] [vI w, vI x0] I := runs_to (ins_of mI_92 (by rfl)) rfl rfl
theorem r92_11 : runs cal 92 11 [v0, v1, v2, v3, v4] [vI x0, vI x1] I = if x1 < x0 then runs cal 92 14 [v0, v1, v2, v3, v4] [] I else runs cal 92 59 [v0, v1, v2, v3, v4] [] I := st_cmp_ge (ins_of mI_92 (by rfl)) (by decide)
theorem r92_14 : runs cal 92 14 [v0, vR 2, v2, v3, v4] [] I = runs cal 92 15 [v0, vR 2, v2, v3, v4] [vR 2] I := runs_to (ins_of mI_92 (by rfl)) rfl rfl
theorem r92_15 : runs cal 92 15 [v0, v1, v2, v3, vI w] [vR 2] I = runs cal 92 17 [v0, v1, v2, v3, vI w] [vI w, vR 2] I := runs_to (ins_of mI_92 (by rfl)) rfl rfl
theorem r92_17 : runs cal 92 17 [v0, v1, v2, v3, v4] [vI x0, vR 2] I = (cal 31 [vR 2, vI x0] I).bind (fun q => runs cal 92 20 [v0, v1, v2, v3, v4] (pushR q.1 []) q.2) := st_call (st := false) (ins_of mI_92 (by rfl)) mC_92 mr_6_97 (by decide) mS_31 mN_31 rfl (Nat.le_of_ble_eq_true rfl) rfl rfl (Or.inr ⟨_, _, rfl, rcv mC_31 rfl wid_92 (by decide +kernel)⟩) (Or.inl (wid_92.trans wid_31.symm))
theorem r92_20 : runs cal 92 20 [v0, v1, v2, v3, v4] [vI x0] I = if x0 = 0 then runs cal 92 53 [v0, v1, v2, v3, v4] [] I else runs cal 92 23 [v0, v1, v2, v3, v4] [] I := st_if_eq (ins_of mI_92 (by rfl)) (by decide)
theorem r92_23 : runs cal 92 23 [vR 27, v1, v2, v3, v4] [] I = runs cal 92 24 [vR 27, v1, v2, v3, v4] [vR 27] I := runs_to (ins_of mI_92 (by rfl)) rfl rfl
theorem r92_24 : runs cal 92 24 [v0, v1, v2, v3, v4] [vR 27] I = runs cal 92 27 [v0, v1, v2, v3, v4] [vI (I 27 4)] I := st_getI (ins_of mI_92 (by rfl)) mC_92 (by decide) fr_6_94 cT_27 (wdc wid_92 wd_27) (Or.inl rfl)
theorem r92_27 : runs cal 92 27 [v0, v1, v2, v3, v4] [vI x0] I = runs cal 92 29 [v0, v1, v2, v3, v4] [vI (64), vI x0] I := runs_to (ins_of mI_92 (by rfl)) rfl rfl
theorem r92_29 : runs cal 92 29 [v0, v1, v2, v3, v4] [vI x0, vI x1] I = if x1 < x0 then runs cal 92 32 [v0, v1, v2, v3, v4] [] I else runs cal 92 53 [v0, v1, v2, v3, v4] [] I := st_cmp_ge (ins_of mI_92 (by rfl)) (by decide)
theorem r92_32 : runs cal 92 32 [vR 27, v1, v2, v3, v4] [] I = runs cal 92 33 [vR 27, v1, v2, v3, v4] [vR 27] I := runs_to (ins_of mI_92 (by rfl)) rfl rfl
theorem r92_33 : runs cal 92 33 [v0, v1, v2, v3, v4] [vR 27] I = runs cal 92 36 [v0, v1, v2, v3, v4] [vR 31] I := st_getR (ins_of mI_92 (by rfl)) mC_92 (by decide) fr_6_24 cT_27 (wdc wid_92 wd_27) rfl rfl
theorem r92_36 : runs cal 92 36 [vR 27, v1, v2, v3, v4] [vR 31] I = runs cal 92 37 [vR 27, v1, v2, v3, v4] [vR 27, vR 31] I := runs_to (ins_of mI_92 (by rfl)) rfl rfl
theorem r92_37 : runs cal 92 37 [v0, v1, v2, v3, v4] [vR 27, vR 31] I = runs cal 92 40 [v0, v1, v2, v3, v4] [vI (I 27 4), vR 31] I := st_getI (ins_of mI_92 (by rfl)) mC_92 (by decide) fr_6_94 cT_27 (wdc wid_92 wd_27) (Or.inl rfl)
theorem r92_40 : runs cal 92 40 [v0, v1, v2, v3, vI w] [vI x0, vR 31] I = runs cal 92 42 [v0, v1, v2, v3, vI w] [vI w, vI x0, vR 31] I := runs_to (ins_of mI_92 (by rfl)) rfl rfl
theorem r92_42 : runs cal 92 42 [v0, v1, v2, v3, v4] [vI x0, vI x1, vR 31] I = if 0 ≤ x1 ∧ x1 < 64 then runs cal 92 43 [v0, v1, v2, v3, v4] [] (mset I 31 x1 x0) else none := st_iast (ins_of mI_92 (by rfl)) cT_31 (wdc wid_92 wd_31)
theorem r92_43 : runs cal 92 43 [vR 27, v1, v2, v3, v4] [] I = runs cal 92 44 [vR 27, v1, v2, v3, v4] [vR 27] I := runs_to (ins_of mI_92 (by rfl)) rfl rfl
theorem r92_44 : runs cal 92 44 [v0, v1, v2, v3, v4] [vR 27] I = runs cal 92 45 [v0, v1, v2, v3, v4] [vR 27, vR 27] I := runs_to (ins_of mI_92 (by rfl)) rfl rfl
theorem r92_45 : runs cal 92 45 [v0, v1, v2, v3, v4] [vR 27, vR 27] I = runs cal 92 48 [v0, v1, v2, v3, v4] [vI (I 27 4), vR 27] I := st_getI (ins_of mI_92 (by rfl)) mC_92 (by decide) fr_6_94 cT_27 (wdc wid_92 wd_27) (Or.inl rfl)
theorem r92_48 : runs cal 92 48 [v0, v1, v2, v3, v4] [vI x0, vR 27] I = runs cal 92 49 [v0, v1, v2, v3, v4] [vI (1), vI x0, vR 27] I := runs_to (ins_of mI_92 (by rfl)) rfl rfl
theorem r92_49 : runs cal 92 49 [v0, v1, v2, v3, v4] [vI x0, vI x1, vR 27] I = runs cal 92 50 [v0, v1, v2, v3, v4] [vI (iadd x1 x0), vR 27] I := runs_to (ins_of mI_92 (by rfl)) rfl rfl
theorem r92_50 : runs cal 92 50 [v0, v1, v2, v3, v4] [vI x0, vR 27] I = runs cal 92 53 [v0, v1, v2, v3, v4] [] (mset I 27 4 x0) := st_putI (ins_of mI_92 (by rfl)) mC_92 fr_6_94 cT_27 (wdc wid_92 wd_27) rfl
theorem r92_53 : runs cal 92 53 [v0, v1, v2, vI u, vI w] [] I = runs cal 92 56 [v0, v1, v2, vI u, vI (iadd w (1))] [] I := runs_to (ins_of mI_92 (by rfl)) rfl rfl
theorem r92_56 : runs cal 92 56 [v0, v1, v2, v3, v4] [] I = runs cal 92 8 [v0, v1, v2, v3, v4] [] I := st_goto (ins_of mI_92 (by rfl)) (by decide)
theorem r92_59 : runs cal 92 59 [v0, v1, v2, v3, v4] [] I = some (none, I) := st_ret (q := none) (k := 3) (ins_of mI_92 (by rfl)) rfl (by decide) mR_92 rfl trivial
theorem r93_0 : runs cal 93 0 [v0, v1, v2, v3, v4] [] I = runs cal 93 1 [v0, v1, v2, v3, v4] [vI (0)] I := runs_to (ins_of mI_93 (by rfl)) rfl rfl
theorem r93_1 : runs cal 93 1 [v0, v1, vI u, v3, v4] [vI x0] I = runs cal 93 2 [v0, v1, vI u, vI x0, v4] [] I := runs_to (ins_of mI_93 (by rfl)) rfl rfl
theorem r93_2 : runs cal 93 2 [v0, v1, v2, vI w, v4] [] I = runs cal 93 3 [v0, v1, v2, vI w, v4] [vI w] I := runs_to (ins_of mI_93 (by rfl)) rfl rfl
theorem r93_3 : runs cal 93 3 [vR 27, v1, v2, v3, v4] [vI x0] I = runs cal 93 4 [vR 27, v1, v2, v3, v4] [vR 27, vI x0] I := runs_to (ins_of mI_93 (by rfl)) rfl rfl
theorem r93_4 : runs cal 93 4 [v0, v1, v2, v3, v4] [vR 27, vI x1] I = runs cal 93 7 [v0, v1, v2, v3, v4] [vI (I 27 4), vI x1] I := st_getI (ins_of mI_93 (by rfl)) mC_93 (by decide) fr_6_94 cT_27 (wdc wid_93 wd_27) (Or.inl rfl)
theorem r93_7 : runs cal 93 7 [v0, v1, v2, v3, v4] [vI x0, vI x1] I = if x1 < x0 then runs cal 93 10 [v0, v1, v2, v3, v4] [] I else runs cal 93 91 [v0, v1, v2, v3, v4] [] I := st_cmp_ge (ins_of mI_93 (by rfl)) (by decide)
theorem r93_10 : runs cal 93 10 [v0, v1, v2, vI w, v4] [] I = runs cal 93 11 [v0, v1, v2, vI w, v4] [vI w] I := runs_to (ins_of mI_93 (by rfl)) rfl rfl
theorem r93_11 : runs cal 93 11 [v0, v1, v2, v3, v4] [vI x0] I = runs cal 93 13 [v0, v1, v2, v3, v4] [vI (64), vI x0] I := runs_to (ins_of mI_93 (by rfl)) rfl rfl
theorem r93_13 : runs cal 93 13 [v0, v1, v2, v3, v4] [vI x0, vI x1] I = if x1 < x0 then runs cal 93 16 [v0, v1, v2, v3, v4] [] I else runs cal 93 91 [v0, v1, v2, v3, v4] [] I := st_cmp_ge (ins_of mI_93 (by rfl)) (by decide)
theorem r93_16 : runs cal 93 16 [v0, vR 2, v2, v3, v4] [] I = runs cal 93 17 [v0, vR 2, v2, v3, v4] [vR 2] I := runs_to (ins_of mI_93 (by rfl)) rfl rfl
theorem r93_17 : runs cal 93 17 [v0, v1, vI w, v3, v4] [vR 2] I = runs cal 93 18 [v0, v1, vI w, v3, v4] [vI w, vR 2] I := runs_to (ins_of mI_93 (by rfl)) rfl rfl
theorem r93_18 : runs cal 93 18 [vR 27, v1, v2, v3, v4] [vI x0, vR 2] I = runs cal 93 19 [vR 27, v1, v2, v3, v4] [vR 27, vI x0, vR 2] I := runs_to (ins_of mI_93 (by rfl)) rfl rfl
theorem r93_19 : runs cal 93 19 [v0, v1, v2, v3, v4] [vR 27, vI x1, vR 2] I = runs cal 93 22 [v0, v1, v2, v3, v4] [vR 31, vI x1, vR 2] I := st_getR (ins_of mI_93 (by rfl)) mC_93 (by decide) fr_6_24 cT_27 (wdc wid_93 wd_27) rfl rfl
theorem r93_22 : runs cal 93 22 [v0, v1, v2, vI w, v4] [vR 31, vI x1, vR 2] I = runs cal 93 23 [v0, v1, v2, vI w, v4] [vI w, vR 31, vI x1, vR 2] I := runs_to (ins_of mI_93 (by rfl)) rfl rfl
theorem r93_23 : runs cal 93 23 [v0, v1, v2, v3, v4] [vI x0, vR 31, vI x2, vR 2] I = if 0 ≤ x0 ∧ x0 < 64 then runs cal 93 24 [v0, v1, v2, v3, v4] [vI (I 31 x0), vI x2, vR 2] I else none := st_iald (ins_of mI_93 (by rfl)) cT_31 (wdc wid_93 wd_31)
theorem r93_24 : runs cal 93 24 [v0, v1, v2, v3, v4] [vI x0, vI x1, vR 2] I = (cal 32 [vR 2, vI x1, vI x0] I).bind (fun q => runs cal 93 27 [v0, v1, v2, v3, v4] (pushR q.1 []) q.2) := st_call (st := false) (ins_of mI_93 (by rfl)) mC_93 mr_6_100 (by decide) mS_32 mN_32 rfl (Nat.le_of_ble_eq_true rfl) rfl rfl (Or.inr ⟨_, _, rfl, rcv mC_32 rfl wid_93 (by decide +kernel)⟩) (Or.inl (wid_93.trans wid_32.symm))
theorem r93_27 : runs cal 93 27 [v0, v1, v2, vI u, v4] [vI x0] I = runs cal 93 29 [v0, v1, v2, vI u, vI x0] [] I := runs_to (ins_of mI_93 (by rfl)) rfl rfl
theorem r93_29 : runs cal 93 29 [v0, v1, v2, v3, vI w] [] I = runs cal 93 31 [v0, v1, v2, v3, vI w] [vI w] I := runs_to (ins_of mI_93 (by rfl)) rfl rfl
theorem r93_31 : runs cal 93 31 [v0, v1, v2, v3, v4] [vI x0] I = if x0 < 0 then runs cal 93 85 [v0, v1, v2, v3, v4] [] I else runs cal 93 34 [v0, v1, v2, v3, v4] [] I := st_if_lt (ins_of mI_93 (by rfl)) (by decide)
theorem r93_34 : runs cal 93 34 [vR 27, v1, v2, v3, v4] [] I = runs cal 93 35 [vR 27, v1, v2, v3, v4] [vR 27] I := runs_to (ins_of mI_93 (by rfl)) rfl rfl
theorem r93_35 : runs cal 93 35 [v0, v1, v2, v3, vI w] [vR 27] I = runs cal 93 37 [v0, v1, v2, v3, vI w] [vI w, vR 27] I := runs_to (ins_of mI_93 (by rfl)) rfl rfl
theorem r93_37 : runs cal 93 37 [v0, v1, v2, v3, v4] [vI x0, vR 27] I = (cal 94 [vR 27, vI x0] I).bind (fun q => runs cal 93 40 [v0, v1, v2, v3, v4] (pushR q.1 []) q.2) := st_call (st := false) (ins_of mI_93 (by rfl)) mC_93 mr_6_91 (by decide) mS_94 mN_94 rfl (Nat.le_of_ble_eq_true rfl) rfl rfl (Or.inr ⟨_, _, rfl, rcv mC_94 rfl wid_93 (by decide +kernel)⟩) (Or.inl (wid_93.trans wid_94.symm))
theorem r93_40 : runs cal 93 40 [v0, v1, v2, v3, v4] [vI x0] I = if x0 = 0 then runs cal 93 85 [v0, v1, v2, v3, v4] [] I else runs cal 93 43 [v0, v1, v2, v3, v4] [] I := st_if_eq (ins_of mI_93 (by rfl)) (by decide)
theorem r93_43 : runs cal 93 43 [vR 27, v1, v2, v3, v4] [] I = runs cal 93 44 [vR 27, v1, v2, v3, v4] [vR 27] I := runs_to (ins_of mI_93 (by rfl)) rfl rfl
theorem r93_44 : runs cal 93 44 [v0, v1, v2, v3, v4] [vR 27] I = runs cal 93 47 [v0, v1, v2, v3, v4] [vI (I 27 7)] I := st_getI (ins_of mI_93 (by rfl)) mC_93 (by decide) fr_6_37 cT_27 (wdc wid_93 wd_27) (Or.inr rfl)
theorem r93_47 : runs cal 93 47 [v0, v1, v2, v3, v4] [vI x0] I = if x0 = 0 then runs cal 93 68 [v0, v1, v2, v3, v4] [] I else runs cal 93 50 [v0, v1, v2, v3, v4] [] I := st_if_eq (ins_of mI_93 (by rfl)) (by decide)
theorem r93_50 : runs cal 93 50 [vR 27, v1, v2, v3, v4] [] I = runs cal 93 51 [vR 27, v1, v2, v3, v4] [vR 27] I := runs_to (ins_of mI_93 (by rfl)) rfl rfl
theorem r93_51 : runs cal 93 51 [v0, v1, v2, v3, v4] [vR 27] I = runs cal 93 54 [v0, v1, v2, v3, v4] [vR 30] I := st_getR (ins_of mI_93 (by rfl)) mC_93 (by decide) fr_6_21 cT_27 (wdc wid_93 wd_27) rfl rfl
theorem r93_54 : runs cal 93 54 [v0, v1, v2, v3, vI w] [vR 30] I = runs cal 93 56 [v0, v1, v2, v3, vI w] [vI w, vR 30] I := runs_to (ins_of mI_93 (by rfl)) rfl rfl
theorem r93_56 : runs cal 93 56 [v0, v1, vI w, v3, v4] [vI x0, vR 30] I = runs cal 93 57 [v0, v1, vI w, v3, v4] [vI w, vI x0, vR 30] I := runs_to (ins_of mI_93 (by rfl)) rfl rfl
theorem r93_57 : runs cal 93 57 [v0, v1, v2, v3, v4] [vI x0, vI x1, vR 30] I = runs cal 93 59 [v0, v1, v2, v3, v4] [vI (10), vI x0, vI x1, vR 30] I := runs_to (ins_of mI_93 (by rfl)) rfl rfl
theorem r93_59 : runs cal 93 59 [v0, v1, v2, v3, v4] [vI x0, vI x1, vI x2, vR 30] I = runs cal 93 60 [v0, v1, v2, v3, v4] [vI (ishl x1 x0), vI x2, vR 30] I := runs_to (ins_of mI_93 (by rfl)) rfl rfl
theorem r93_60 : runs cal 93 60 [vR 27, v1, v2, v3, v4] [vI x0, vI x1, vR 30] I = runs cal 93 61 [vR 27, v1, v2, v3, v4] [vR 27, vI x0, vI x1, vR 30] I := runs_to (ins_of mI_93 (by rfl)) rfl rfl
theorem r93_61 : runs cal 93 61 [v0, v1, v2, v3, v4] [vR 27, vI x1, vI x2, vR 30] I = runs cal 93 64 [v0, v1, v2, v3, v4] [vR 31, vI x1, vI x2, vR 30] I := st_getR (ins_of mI_93 (by rfl)) mC_93 (by decide) fr_6_24 cT_27 (wdc wid_93 wd_27) rfl rfl
theorem r93_64 : runs cal 93 64 [v0, v1, v2, vI w, v4] [vR 31, vI x1, vI x2, vR 30] I = runs cal 93 65 [v0, v1, v2, vI w, v4] [vI w, vR 31, vI x1, vI x2, vR 30] I := runs_to (ins_of mI_93 (by rfl)) rfl rfl
theorem r93_65 : runs cal 93 65 [v0, v1, v2, v3, v4] [vI x0, vR 31, vI x2, vI x3, vR 30] I = if 0 ≤ x0 ∧ x0 < 64 then runs cal 93 66 [v0, v1, v2, v3, v4] [vI (I 31 x0), vI x2, vI x3, vR 30] I else none := st_iald (ins_of mI_93 (by rfl)) cT_31 (wdc wid_93 wd_31)
theorem r93_66 : runs cal 93 66 [v0, v1, v2, v3, v4] [vI x0, vI x1, vI x2, vR 30] I = runs cal 93 67 [v0, v1, v2, v3, v4] [vI (ior x1 x0), vI x2, vR 30] I := runs_to (ins_of mI_93 (by rfl)) rfl rfl
theorem r93_67 : runs cal 93 67 [v0, v1, v2, v3, v4] [vI x0, vI x1, vR 30] I = if 0 ≤ x1 ∧ x1 < 131072 then runs cal 93 68 [v0, v1, v2, v3, v4] [] (mset I 30 x1 x0) else none := st_iast (ins_of mI_93 (by rfl)) cT_30 (wdc wid_93 wd_30)
theorem r93_68 : runs cal 93 68 [v0, vR 2, v2, v3, v4] [] I = runs cal 93 69 [v0, vR 2, v2, v3, v4] [vR 2] I := runs_to (ins_of mI_93 (by rfl)) rfl rfl
theorem r93_69 : runs cal 93 69 [v0, v1, v2, v3, vI w] [vR 2] I = runs cal 93 71 [v0, v1, v2, v3, vI w] [vI w, vR 2] I := runs_to (ins_of mI_93 (by rfl)) rfl rfl
theorem r93_71 : runs cal 93 71 [v0, v1, v2, v3, v4] [vI x0, vR 2] I = (cal 15 [vR 2, vI x0] I).bind (fun q => runs cal 93 74 [v0, v1, v2, v3, v4] (pushR q.1 []) q.2) := st_call (st := false) (ins_of mI_93 (by rfl)) mC_93 mr_6_73 (by decide) mS_15 mN_15 rfl (Nat.le_of_ble_eq_true rfl) rfl rfl (Or.inr ⟨_, _, rfl, rcv mC_15 rfl wid_93 (by decide +kernel)⟩) (Or.inl (wid_93.trans wid_15.symm))
theorem r93_74 : runs cal 93 74 [v0, v1, v2, v3, v4] [vI x0] I = if x0 = 0 then runs cal 93 85 [v0, v1, v2, v3, v4] [] I else runs cal 93 77 [v0, v1, v2, v3, v4] [] I := st_if_eq (ins_of mI_93 (by rfl)) (by decide)
theorem r93_77 : runs cal 93 77 [vR 27, v1, v2, v3, v4] [] I = runs cal 93 78 [vR 27, v1, v2, v3, v4] [vR 27] I := runs_to (ins_of mI_93 (by rfl)) rfl rfl
theorem r93_78 : runs cal 93 78 [v0, v1, v2, v3, vI w] [vR 27] I = runs cal 93 80 [v0, v1, v2, v3, vI w] [vI w, vR 27] I := runs_to (ins_of mI_93 (by rfl)) rfl rfl
theorem r93_80 : runs cal 93 80 [v0, v1, v2, v3, v4] [vI x0, vR 27] I = runs cal 93 83 [v0, v1, v2, v3, v4] [] (mset I 27 8 x0) := st_putI (ins_of mI_93 (by rfl)) mC_93 fr_6_48 cT_27 (wdc wid_93 wd_27) rfl
theorem r93_83 : runs cal 93 83 [v0, v1, v2, v3, v4] [] I = runs cal 93 84 [v0, v1, v2, v3, v4] [vI (1)] I := runs_to (ins_of mI_93 (by rfl)) rfl rfl
theorem r93_84 : runs cal 93 84 [v0, v1, v2, v3, v4] [vI x0] I = if x0 = 0 ∨ x0 = 1 then some (some (vI x0), I) else none := st_retZ (ins_of mI_93 (by rfl)) mR_93 (Or.inl rfl)
theorem r93_85 : runs cal 93 85 [v0, v1, vI u, vI w, v4] [] I = runs cal 93 88 [v0, v1, vI u, vI (iadd w (1)), v4] [] I := runs_to (ins_of mI_93 (by rfl)) rfl rfl
theorem r93_88 : runs cal 93 88 [v0, v1, v2, v3, v4] [] I = runs cal 93 2 [v0, v1, v2, v3, v4] [] I := st_goto (ins_of mI_93 (by rfl)) (by decide)
theorem r93_91 : runs cal 93 91 [v0, v1, v2, v3, v4] [] I = runs cal 93 92 [v0, v1, v2, v3, v4] [vI (0)] I := runs_to (ins_of mI_93 (by rfl)) rfl rfl
theorem r93_92 : runs cal 93 92 [v0, v1, v2, v3, v4] [vI x0] I = if x0 = 0 ∨ x0 = 1 then some (some (vI x0), I) else none := st_retZ (ins_of mI_93 (by rfl)) mR_93 (Or.inl rfl)
theorem r94_0 : runs cal 94 0 [v0, vI w] [] I = runs cal 94 1 [v0, vI w] [vI w] I := runs_to (ins_of mI_94 (by rfl)) rfl rfl
theorem r94_1 : runs cal 94 1 [v0, v1] [vI x0] I = if x0 < 0 then runs cal 94 32 [v0, v1] [] I else runs cal 94 4 [v0, v1] [] I := st_if_lt (ins_of mI_94 (by rfl)) (by decide)
theorem r94_4 : runs cal 94 4 [v0, vI w] [] I = runs cal 94 5 [v0, vI w] [vI w] I := runs_to (ins_of mI_94 (by rfl)) rfl rfl
theorem r94_5 : runs cal 94 5 [v0, v1] [vI x0] I = runs cal 94 7 [v0, v1] [vI (131072), vI x0] I := runs_to (ins_of mI_94 (by rfl)) rfl (by simp only [stepI, ldk, mC_94]; rfl)
theorem r94_7 : runs cal 94 7 [v0, v1] [vI x0, vI x1] I = if x1 < x0 then runs cal 94 10 [v0, v1] [] I else runs cal 94 32 [v0, v1] [] I := st_cmp_ge (ins_of mI_94 (by rfl)) (by decide)
theorem r94_10 : runs cal 94 10 [vR 27, v1] [] I = runs cal 94 11 [vR 27, v1] [vR 27] I := runs_to (ins_of mI_94 (by rfl)) rfl rfl
theorem r94_11 : runs cal 94 11 [v0, v1] [vR 27] I = runs cal 94 14 [v0, v1] [vI (I 27 6)] I := st_getI (ins_of mI_94 (by rfl)) mC_94 (by decide) fr_6_81 cT_27 (wdc wid_94 wd_27) (Or.inl rfl)
theorem r94_14 : runs cal 94 14 [v0, v1] [vI x0] I = runs cal 94 16 [v0, v1] [vI (131072), vI x0] I := runs_to (ins_of mI_94 (by rfl)) rfl (by simp only [stepI, ldk, mC_94]; rfl)
theorem r94_16 : runs cal 94 16 [v0, v1] [vI x0, vI x1] I = if x1 < x0 then runs cal 94 19 [v0, v1] [] I else runs cal 94 32 [v0, v1] [] I := st_cmp_ge (ins_of mI_94 (by rfl)) (by decide)
theorem r94_19 : runs cal 94 19 [vR 27, v1] [] I = runs cal 94 20 [vR 27, v1] [vR 27] I := runs_to (ins_of mI_94 (by rfl)) rfl rfl
theorem r94_20 : runs cal 94 20 [v0, v1] [vR 27] I = runs cal 94 23 [v0, v1] [vR 28] I := st_getR (ins_of mI_94 (by rfl)) mC_94 (by decide) fr_6_12 cT_27 (wdc wid_94 wd_27) rfl rfl
theorem r94_23 : runs cal 94 23 [v0, vI w] [vR 28] I = runs cal 94 24 [v0, vI w] [vI w, vR 28] I := runs_to (ins_of mI_94 (by rfl)) rfl rfl
theorem r94_24 : runs cal 94 24 [v0, v1] [vI x0, vR 28] I = if 0 ≤ x0 ∧ x0 < 131072 then runs cal 94 25 [v0, v1] [vI (I 28 x0)] I else none := st_iald (ins_of mI_94 (by rfl)) cT_28 (wdc wid_94 wd_28)
theorem r94_25 : runs cal 94 25 [vR 27, v1] [vI x0] I = runs cal 94 26 [vR 27, v1] [vR 27, vI x0] I := runs_to (ins_of mI_94 (by rfl)) rfl rfl
theorem r94_26 : runs cal 94 26 [v0, v1] [vR 27, vI x1] I = runs cal 94 29 [v0, v1] [vI (I 27 5), vI x1] I := st_getI (ins_of mI_94 (by rfl)) mC_94 (by decide) fr_6_88 cT_27 (wdc wid_94 wd_27) (Or.inl rfl)
theorem r94_29 : runs cal 94 29 [v0, v1] [vI x0, vI x1] I = if x1 = x0 then runs cal 94 32 [v0, v1] [] I else runs cal 94 34 [v0, v1] [] I := st_cmp_ne (ins_of mI_94 (by rfl)) (by decide)
theorem r94_32 : runs cal 94 32 [v0, v1] [] I = runs cal 94 33 [v0, v1] [vI (0)] I := runs_to (ins_of mI_94 (by rfl)) rfl rfl
theorem r94_33 : runs cal 94 33 [v0, v1] [vI x0] I = if x0 = 0 ∨ x0 = 1 then some (some (vI x0), I) else none := st_retZ (ins_of mI_94 (by rfl)) mR_94 (Or.inl rfl)
theorem r94_34 : runs cal 94 34 [vR 27, v1] [] I = runs cal 94 35 [vR 27, v1] [vR 27] I := runs_to (ins_of mI_94 (by rfl)) rfl rfl
theorem r94_35 : runs cal 94 35 [v0, v1] [vR 27] I = runs cal 94 38 [v0, v1] [vR 28] I := st_getR (ins_of mI_94 (by rfl)) mC_94 (by decide) fr_6_12 cT_27 (wdc wid_94 wd_27) rfl rfl
theorem r94_38 : runs cal 94 38 [v0, vI w] [vR 28] I = runs cal 94 39 [v0, vI w] [vI w, vR 28] I := runs_to (ins_of mI_94 (by rfl)) rfl rfl
theorem r94_39 : runs cal 94 39 [vR 27, v1] [vI x0, vR 28] I = runs cal 94 40 [vR 27, v1] [vR 27, vI x0, vR 28] I := runs_to (ins_of mI_94 (by rfl)) rfl rfl
theorem r94_40 : runs cal 94 40 [v0, v1] [vR 27, vI x1, vR 28] I = runs cal 94 43 [v0, v1] [vI (I 27 5), vI x1, vR 28] I := st_getI (ins_of mI_94 (by rfl)) mC_94 (by decide) fr_6_88 cT_27 (wdc wid_94 wd_27) (Or.inl rfl)
theorem r94_43 : runs cal 94 43 [v0, v1] [vI x0, vI x1, vR 28] I = if 0 ≤ x1 ∧ x1 < 131072 then runs cal 94 44 [v0, v1] [] (mset I 28 x1 x0) else none := st_iast (ins_of mI_94 (by rfl)) cT_28 (wdc wid_94 wd_28)
theorem r94_44 : runs cal 94 44 [vR 27, v1] [] I = runs cal 94 45 [vR 27, v1] [vR 27] I := runs_to (ins_of mI_94 (by rfl)) rfl rfl
theorem r94_45 : runs cal 94 45 [v0, v1] [vR 27] I = runs cal 94 48 [v0, v1] [vR 29] I := st_getR (ins_of mI_94 (by rfl)) mC_94 (by decide) fr_6_18 cT_27 (wdc wid_94 wd_27) rfl rfl
theorem r94_48 : runs cal 94 48 [vR 27, v1] [vR 29] I = runs cal 94 49 [vR 27, v1] [vR 27, vR 29] I := runs_to (ins_of mI_94 (by rfl)) rfl rfl
theorem r94_49 : runs cal 94 49 [v0, v1] [vR 27, vR 29] I = runs cal 94 52 [v0, v1] [vI (I 27 6), vR 29] I := st_getI (ins_of mI_94 (by rfl)) mC_94 (by decide) fr_6_81 cT_27 (wdc wid_94 wd_27) (Or.inl rfl)
theorem r94_52 : runs cal 94 52 [v0, vI w] [vI x0, vR 29] I = runs cal 94 53 [v0, vI w] [vI w, vI x0, vR 29] I := runs_to (ins_of mI_94 (by rfl)) rfl rfl
theorem r94_53 : runs cal 94 53 [v0, v1] [vI x0, vI x1, vR 29] I = if 0 ≤ x1 ∧ x1 < 131072 then runs cal 94 54 [v0, v1] [] (mset I 29 x1 x0) else none := st_iast (ins_of mI_94 (by rfl)) cT_29 (wdc wid_94 wd_29)
theorem r94_54 : runs cal 94 54 [vR 27, v1] [] I = runs cal 94 55 [vR 27, v1] [vR 27] I := runs_to (ins_of mI_94 (by rfl)) rfl rfl
theorem r94_55 : runs cal 94 55 [v0, v1] [vR 27] I = runs cal 94 56 [v0, v1] [vR 27, vR 27] I := runs_to (ins_of mI_94 (by rfl)) rfl rfl
theorem r94_56 : runs cal 94 56 [v0, v1] [vR 27, vR 27] I = runs cal 94 59 [v0, v1] [vI (I 27 6), vR 27] I := st_getI (ins_of mI_94 (by rfl)) mC_94 (by decide) fr_6_81 cT_27 (wdc wid_94 wd_27) (Or.inl rfl)
theorem r94_59 : runs cal 94 59 [v0, v1] [vI x0, vR 27] I = runs cal 94 60 [v0, v1] [vI (1), vI x0, vR 27] I := runs_to (ins_of mI_94 (by rfl)) rfl rfl
theorem r94_60 : runs cal 94 60 [v0, v1] [vI x0, vI x1, vR 27] I = runs cal 94 61 [v0, v1] [vI (iadd x1 x0), vR 27] I := runs_to (ins_of mI_94 (by rfl)) rfl rfl
theorem r94_61 : runs cal 94 61 [v0, v1] [vI x0, vR 27] I = runs cal 94 64 [v0, v1] [] (mset I 27 6 x0) := st_putI (ins_of mI_94 (by rfl)) mC_94 fr_6_81 cT_27 (wdc wid_94 wd_27) rfl
theorem r94_64 : runs cal 94 64 [v0, v1] [] I = runs cal 94 65 [v0, v1] [vI (1)] I := runs_to (ins_of mI_94 (by rfl)) rfl rfl
theorem r94_65 : runs cal 94 65 [v0, v1] [vI x0] I = if x0 = 0 ∨ x0 = 1 then some (some (vI x0), I) else none := st_retZ (ins_of mI_94 (by rfl)) mR_94 (Or.inl rfl)
theorem r95_0 : runs cal 95 0 [v0, vI w] [] I = runs cal 95 1 [v0, vI w] [vI w] I := runs_to (ins_of mI_95 (by rfl)) rfl rfl
theorem r95_1 : runs cal 95 1 [v0, v1] [vI (97)] I = runs cal 95 72 [v0, v1] [] I := st_sw (off := 71) (ins_of mI_95 (by rfl)) rfl rfl (by decide)
theorem r95_1a : runs cal 95 1 [v0, v1] [vI (98)] I = runs cal 95 87 [v0, v1] [] I := st_sw (off := 86) (ins_of mI_95 (by rfl)) rfl rfl (by decide)
theorem r95_1b : runs cal 95 1 [v0, v1] [vI (99)] I = runs cal 95 82 [v0, v1] [] I := st_sw (off := 81) (ins_of mI_95 (by rfl)) rfl rfl (by decide)
theorem r95_1c : runs cal 95 1 [v0, v1] [vI (100)] I = runs cal 95 97 [v0, v1] [] I := st_sw (off := 96) (ins_of mI_95 (by rfl)) rfl rfl (by decide)
theorem r95_1d : runs cal 95 1 [v0, v1] [vI (101)] I = runs cal 95 97 [v0, v1] [] I := st_sw (off := 96) (ins_of mI_95 (by rfl)) rfl rfl (by decide)
theorem r95_1e : runs cal 95 1 [v0, v1] [vI (102)] I = runs cal 95 97 [v0, v1] [] I := st_sw (off := 96) (ins_of mI_95 (by rfl)) rfl rfl (by decide)
theorem r95_1f : runs cal 95 1 [v0, v1] [vI (103)] I = runs cal 95 97 [v0, v1] [] I := st_sw (off := 96) (ins_of mI_95 (by rfl)) rfl rfl (by decide)
theorem r95_1g : runs cal 95 1 [v0, v1] [vI (104)] I = runs cal 95 97 [v0, v1] [] I := st_sw (off := 96) (ins_of mI_95 (by rfl)) rfl rfl (by decide)
theorem r95_1h : runs cal 95 1 [v0, v1] [vI (105)] I = runs cal 95 97 [v0, v1] [] I := st_sw (off := 96) (ins_of mI_95 (by rfl)) rfl rfl (by decide)
theorem r95_1i : runs cal 95 1 [v0, v1] [vI (106)] I = runs cal 95 97 [v0, v1] [] I := st_sw (off := 96) (ins_of mI_95 (by rfl)) rfl rfl (by decide)
theorem r95_1j : runs cal 95 1 [v0, v1] [vI (107)] I = runs cal 95 92 [v0, v1] [] I := st_sw (off := 91) (ins_of mI_95 (by rfl)) rfl rfl (by decide)
theorem r95_1k : runs cal 95 1 [v0, v1] [vI (108)] I = runs cal 95 97 [v0, v1] [] I := st_sw (off := 96) (ins_of mI_95 (by rfl)) rfl rfl (by decide)
theorem r95_1l : runs cal 95 1 [v0, v1] [vI (109)] I = runs cal 95 97 [v0, v1] [] I := st_sw (off := 96) (ins_of mI_95 (by rfl)) rfl rfl (by decide)
theorem r95_1m : runs cal 95 1 [v0, v1] [vI (110)] I = runs cal 95 77 [v0, v1] [] I := st_sw (off := 76) (ins_of mI_95 (by rfl)) rfl rfl (by decide)
theorem r95_1n (hd : x0 < 97 ∨ 110 < x0) : runs cal 95 1 [v0, v1] [vI x0] I = runs cal 95 97 [v0, v1] [] I := st_tswD (ins_of mI_95 (by rfl)) (by decide) hd (by decide)
theorem r95_72 : runs cal 95 72 [vR 35, v1] [] I = runs cal 95 73 [vR 35, v1] [vR 35] I := runs_to (ins_of mI_95 (by rfl)) rfl rfl
theorem r95_73 : runs cal 95 73 [v0, v1] [vR 35] I = runs cal 95 76 [v0, v1] [vI (I 35 0)] I := st_getI (ins_of mI_95 (by rfl)) mC_95 (by decide) fr_7_7 cT_35 (wdc wid_95 wd_35) (Or.inl rfl)
theorem r95_76 : runs cal 95 76 [v0, v1] [vI x0] I = some (some (vI x0), I) := st_ret (q := some (vI x0)) (k := 0) (ins_of mI_95 (by rfl)) rfl (by decide) mR_95 rfl trivial
theorem r95_77 : runs cal 95 77 [vR 35, v1] [] I = runs cal 95 78 [vR 35, v1] [vR 35] I := runs_to (ins_of mI_95 (by rfl)) rfl rfl
theorem r95_78 : runs cal 95 78 [v0, v1] [vR 35] I = runs cal 95 81 [v0, v1] [vI (I 35 1)] I := st_getI (ins_of mI_95 (by rfl)) mC_95 (by decide) fr_7_13 cT_35 (wdc wid_95 wd_35) (Or.inl rfl)
theorem r95_81 : runs cal 95 81 [v0, v1] [vI x0] I = some (some (vI x0), I) := st_ret (q := some (vI x0)) (k := 0) (ins_of mI_95 (by rfl)) rfl (by decide) mR_95 rfl trivial
theorem r95_82 : runs cal 95 82 [vR 35, v1] [] I = runs cal 95 83 [vR 35, v1] [vR 35] I := runs_to (ins_of mI_95 (by rfl)) rfl rfl
theorem r95_83 : runs cal 95 83 [v0, v1] [vR 35] I = runs cal 95 86 [v0, v1] [vI (I 35 2)] I := st_getI (ins_of mI_95 (by rfl)) mC_95 (by decide) fr_7_16 cT_35 (wdc wid_95 wd_35) (Or.inl rfl)
theorem r95_86 : runs cal 95 86 [v0, v1] [vI x0] I = some (some (vI x0), I) := st_ret (q := some (vI x0)) (k := 0) (ins_of mI_95 (by rfl)) rfl (by decide) mR_95 rfl trivial
theorem r95_87 : runs cal 95 87 [vR 35, v1] [] I = runs cal 95 88 [vR 35, v1] [vR 35] I := runs_to (ins_of mI_95 (by rfl)) rfl rfl
theorem r95_88 : runs cal 95 88 [v0, v1] [vR 35] I = runs cal 95 91 [v0, v1] [vI (I 35 3)] I := st_getI (ins_of mI_95 (by rfl)) mC_95 (by decide) fr_7_19 cT_35 (wdc wid_95 wd_35) (Or.inl rfl)
theorem r95_91 : runs cal 95 91 [v0, v1] [vI x0] I = some (some (vI x0), I) := st_ret (q := some (vI x0)) (k := 0) (ins_of mI_95 (by rfl)) rfl (by decide) mR_95 rfl trivial
theorem r95_92 : runs cal 95 92 [vR 35, v1] [] I = runs cal 95 93 [vR 35, v1] [vR 35] I := runs_to (ins_of mI_95 (by rfl)) rfl rfl
theorem r95_93 : runs cal 95 93 [v0, v1] [vR 35] I = runs cal 95 96 [v0, v1] [vI (I 35 4)] I := st_getI (ins_of mI_95 (by rfl)) mC_95 (by decide) fr_7_22 cT_35 (wdc wid_95 wd_35) (Or.inl rfl)
theorem r95_96 : runs cal 95 96 [v0, v1] [vI x0] I = some (some (vI x0), I) := st_ret (q := some (vI x0)) (k := 0) (ins_of mI_95 (by rfl)) rfl (by decide) mR_95 rfl trivial
theorem r95_97 : runs cal 95 97 [vR 35, v1] [] I = runs cal 95 98 [vR 35, v1] [vR 35] I := runs_to (ins_of mI_95 (by rfl)) rfl rfl
theorem r95_98 : runs cal 95 98 [v0, v1] [vR 35] I = runs cal 95 101 [v0, v1] [vI (I 35 5)] I := st_getI (ins_of mI_95 (by rfl)) mC_95 (by decide) fr_7_25 cT_35 (wdc wid_95 wd_35) (Or.inl rfl)
theorem r95_101 : runs cal 95 101 [v0, v1] [vI x0] I = some (some (vI x0), I) := st_ret (q := some (vI x0)) (k := 0) (ins_of mI_95 (by rfl)) rfl (by decide) mR_95 rfl trivial
theorem r96_0 : runs cal 96 0 [vR 18, v1] [] I = runs cal 96 1 [vR 18, v1] [vR 18] I := runs_to (ins_of mI_96 (by rfl)) rfl rfl
theorem r96_1 : runs cal 96 1 [v0, v1] [vR 18] I = runs cal 96 4 [v0, v1] [vI (I 18 1)] I := st_getI (ins_of mI_96 (by rfl)) mC_96 (by decide) fr_8_15 cT_18 (wdc wid_96 wd_18) (Or.inl rfl)
theorem r96_4 : runs cal 96 4 [v0, v1] [vI x0] I = runs cal 96 7 [v0, v1] [vI (200), vI x0] I := runs_to (ins_of mI_96 (by rfl)) rfl rfl
theorem r96_7 : runs cal 96 7 [v0, v1] [vI x0, vI x1] I = if x1 < x0 then runs cal 96 10 [v0, v1] [] I else runs cal 96 30 [v0, v1] [] I := st_cmp_ge (ins_of mI_96 (by rfl)) (by decide)
theorem r96_10 : runs cal 96 10 [vR 18, v1] [] I = runs cal 96 11 [vR 18, v1] [vR 18] I := runs_to (ins_of mI_96 (by rfl)) rfl rfl
theorem r96_11 : runs cal 96 11 [v0, v1] [vR 18] I = runs cal 96 14 [v0, v1] [vR 19] I := st_getR (ins_of mI_96 (by rfl)) mC_96 (by decide) fr_8_11 cT_18 (wdc wid_96 wd_18) rfl rfl
theorem r96_14 : runs cal 96 14 [vR 18, v1] [vR 19] I = runs cal 96 15 [vR 18, v1] [vR 18, vR 19] I := runs_to (ins_of mI_96 (by rfl)) rfl rfl
theorem r96_15 : runs cal 96 15 [v0, v1] [vR 18, vR 19] I = runs cal 96 18 [v0, v1] [vI (I 18 1), vR 19] I := st_getI (ins_of mI_96 (by rfl)) mC_96 (by decide) fr_8_15 cT_18 (wdc wid_96 wd_18) (Or.inl rfl)
theorem r96_18 : runs cal 96 18 [v0, vI w] [vI x0, vR 19] I = runs cal 96 19 [v0, vI w] [vI w, vI x0, vR 19] I := runs_to (ins_of mI_96 (by rfl)) rfl rfl
theorem r96_19 : runs cal 96 19 [v0, v1] [vI x0, vI x1, vR 19] I = if 0 ≤ x1 ∧ x1 < 200 then runs cal 96 20 [v0, v1] [] (mset I 19 x1 x0) else none := st_iast (ins_of mI_96 (by rfl)) cT_19 (wdc wid_96 wd_19)
theorem r96_20 : runs cal 96 20 [vR 18, v1] [] I = runs cal 96 21 [vR 18, v1] [vR 18] I := runs_to (ins_of mI_96 (by rfl)) rfl rfl
theorem r96_21 : runs cal 96 21 [v0, v1] [vR 18] I = runs cal 96 22 [v0, v1] [vR 18, vR 18] I := runs_to (ins_of mI_96 (by rfl)) rfl rfl
theorem r96_22 : runs cal 96 22 [v0, v1] [vR 18, vR 18] I = runs cal 96 25 [v0, v1] [vI (I 18 1), vR 18] I := st_getI (ins_of mI_96 (by rfl)) mC_96 (by decide) fr_8_15 cT_18 (wdc wid_96 wd_18) (Or.inl rfl)
theorem r96_25 : runs cal 96 25 [v0, v1] [vI x0, vR 18] I = runs cal 96 26 [v0, v1] [vI (1), vI x0, vR 18] I := runs_to (ins_of mI_96 (by rfl)) rfl rfl
theorem r96_26 : runs cal 96 26 [v0, v1] [vI x0, vI x1, vR 18] I = runs cal 96 27 [v0, v1] [vI (iadd x1 x0), vR 18] I := runs_to (ins_of mI_96 (by rfl)) rfl rfl
theorem r96_27 : runs cal 96 27 [v0, v1] [vI x0, vR 18] I = runs cal 96 30 [v0, v1] [] (mset I 18 1 x0) := st_putI (ins_of mI_96 (by rfl)) mC_96 fr_8_15 cT_18 (wdc wid_96 wd_18) rfl
theorem r96_30 : runs cal 96 30 [v0, v1] [] I = some (none, I) := st_ret (q := none) (k := 3) (ins_of mI_96 (by rfl)) rfl (by decide) mR_96 rfl trivial
theorem r97_0 : runs cal 97 0 [v0, vI w] [] I = runs cal 97 1 [v0, vI w] [vI w] I := runs_to (ins_of mI_97 (by rfl)) rfl rfl
theorem r97_1 : runs cal 97 1 [v0, v1] [vI x0] I = if x0 < 0 then runs cal 97 28 [v0, v1] [] I else runs cal 97 4 [v0, v1] [] I := st_if_lt (ins_of mI_97 (by rfl)) (by decide)
theorem r97_4 : runs cal 97 4 [v0, vI w] [] I = runs cal 97 5 [v0, vI w] [vI w] I := runs_to (ins_of mI_97 (by rfl)) rfl rfl
theorem r97_5 : runs cal 97 5 [vR 18, v1] [vI x0] I = runs cal 97 6 [vR 18, v1] [vR 18, vI x0] I := runs_to (ins_of mI_97 (by rfl)) rfl rfl
theorem r97_6 : runs cal 97 6 [v0, v1] [vR 18, vI x1] I = runs cal 97 9 [v0, v1] [vI (I 18 1), vI x1] I := st_getI (ins_of mI_97 (by rfl)) mC_97 (by decide) fr_8_15 cT_18 (wdc wid_97 wd_18) (Or.inl rfl)
theorem r97_9 : runs cal 97 9 [v0, v1] [vI x0, vI x1] I = if x1 < x0 then runs cal 97 12 [v0, v1] [] I else runs cal 97 28 [v0, v1] [] I := st_cmp_ge (ins_of mI_97 (by rfl)) (by decide)
theorem r97_12 : runs cal 97 12 [v0, vI w] [] I = runs cal 97 13 [v0, vI w] [vI w] I := runs_to (ins_of mI_97 (by rfl)) rfl rfl
theorem r97_13 : runs cal 97 13 [v0, v1] [vI x0] I = runs cal 97 16 [v0, v1] [vI (200), vI x0] I := runs_to (ins_of mI_97 (by rfl)) rfl rfl
theorem r97_16 : runs cal 97 16 [v0, v1] [vI x0, vI x1] I = if x1 < x0 then runs cal 97 19 [v0, v1] [] I else runs cal 97 28 [v0, v1] [] I := st_cmp_ge (ins_of mI_97 (by rfl)) (by decide)
theorem r97_19 : runs cal 97 19 [vR 18, v1] [] I = runs cal 97 20 [vR 18, v1] [vR 18] I := runs_to (ins_of mI_97 (by rfl)) rfl rfl
theorem r97_20 : runs cal 97 20 [v0, v1] [vR 18] I = runs cal 97 23 [v0, v1] [vR 19] I := st_getR (ins_of mI_97 (by rfl)) mC_97 (by decide) fr_8_11 cT_18 (wdc wid_97 wd_18) rfl rfl
theorem r97_23 : runs cal 97 23 [v0, vI w] [vR 19] I = runs cal 97 24 [v0, vI w] [vI w, vR 19] I := runs_to (ins_of mI_97 (by rfl)) rfl rfl
theorem r97_24 : runs cal 97 24 [v0, v1] [vI x0, vR 19] I = if 0 ≤ x0 ∧ x0 < 200 then runs cal 97 25 [v0, v1] [vI (I 19 x0)] I else none := st_iald (ins_of mI_97 (by rfl)) cT_19 (wdc wid_97 wd_19)
theorem r97_25 : runs cal 97 25 [v0, v1] [vI x0] I = runs cal 97 29 [v0, v1] [vI x0] I := st_goto (ins_of mI_97 (by rfl)) (by decide)
theorem r97_28 : runs cal 97 28 [v0, v1] [] I = runs cal 97 29 [v0, v1] [vI (-1)] I := runs_to (ins_of mI_97 (by rfl)) rfl rfl
theorem r97_29 : runs cal 97 29 [v0, v1] [vI x0] I = some (some (vI x0), I) := st_ret (q := some (vI x0)) (k := 0) (ins_of mI_97 (by rfl)) rfl (by decide) mR_97 rfl trivial
theorem r98_0 : runs cal 98 0 [vR 20, v1, v2] [] I = runs cal 98 1 [vR 20, v1, v2] [vR 20] I := runs_to (ins_of mI_98 (by rfl)) rfl rfl
theorem r98_1 : runs cal 98 1 [v0, v1, v2] [vR 20] I = runs cal 98 2 [v0, v1, v2] [vI (0), vR 20] I := runs_to (ins_of mI_98 (by rfl)) rfl rfl
theorem r98_2 : runs cal 98 2 [v0, v1, v2] [vI x0, vR 20] I = runs cal 98 5 [v0, v1, v2] [] (mset I 20 1 x0) := st_putI (ins_of mI_98 (by rfl)) mC_98 fr_9_15 cT_20 (wdc wid_98 wd_20) rfl
theorem r98_5 : runs cal 98 5 [vR 20, v1, v2] [] I = runs cal 98 6 [vR 20, v1, v2] [vR 20] I := runs_to (ins_of mI_98 (by rfl)) rfl rfl
theorem r98_6 : runs cal 98 6 [v0, v1, v2] [vR 20] I = runs cal 98 7 [v0, v1, v2] [vI (-1), vR 20] I := runs_to (ins_of mI_98 (by rfl)) rfl rfl
theorem r98_7 : runs cal 98 7 [v0, v1, v2] [vI x0, vR 20] I = runs cal 98 10 [v0, v1, v2] [] (mset I 20 5 x0) := st_putI (ins_of mI_98 (by rfl)) mC_98 fr_9_19 cT_20 (wdc wid_98 wd_20) rfl
theorem r98_10 : runs cal 98 10 [v0, vR 10, v2] [] I = runs cal 98 11 [v0, vR 10, v2] [vR 10] I := runs_to (ins_of mI_98 (by rfl)) rfl rfl
theorem r98_11 : runs cal 98 11 [v0, v1, v2] [vR 10] I = runs cal 98 13 [v0, v1, v2] [vI (7), vR 10] I := runs_to (ins_of mI_98 (by rfl)) rfl rfl
theorem r98_13 : runs cal 98 13 [v0, v1, v2] [vI x0, vR 10] I = (cal 0 [vR 10, vI x0] I).bind (fun q => runs cal 98 16 [v0, v1, v2] (pushR q.1 []) q.2) := st_call (st := false) (ins_of mI_98 (by rfl)) mC_98 mr_9_24 (by decide) mS_0 mN_0 rfl (Nat.le_of_ble_eq_true rfl) rfl rfl (Or.inr ⟨_, _, rfl, rcv mC_0 rfl wid_98 (by decide +kernel)⟩) (Or.inl (wid_98.trans wid_0.symm))
theorem r98_16 : runs cal 98 16 [v0, v1, v2] [] I = runs cal 98 17 [v0, v1, v2] [vI (0)] I := runs_to (ins_of mI_98 (by rfl)) rfl rfl
theorem r98_17 : runs cal 98 17 [v0, vR b0, v2] [vI x0] I = runs cal 98 18 [v0, vR b0, vI x0] [] I := runs_to (ins_of mI_98 (by rfl)) rfl rfl
theorem r98_18 : runs cal 98 18 [v0, v1, vI w] [] I = runs cal 98 19 [v0, v1, vI w] [vI w] I := runs_to (ins_of mI_98 (by rfl)) rfl rfl
theorem r98_19 : runs cal 98 19 [v0, v1, v2] [vI x0] I = runs cal 98 22 [v0, v1, v2] [vI (200), vI x0] I := runs_to (ins_of mI_98 (by rfl)) rfl rfl
theorem r98_22 : runs cal 98 22 [v0, v1, v2] [vI x0, vI x1] I = if x0 < x1 then runs cal 98 76 [v0, v1, v2] [] I else runs cal 98 25 [v0, v1, v2] [] I := st_cmp_gt (ins_of mI_98 (by rfl)) (by decide)
theorem r98_25 : runs cal 98 25 [vR 20, v1, v2] [] I = runs cal 98 26 [vR 20, v1, v2] [vR 20] I := runs_to (ins_of mI_98 (by rfl)) rfl rfl
theorem r98_26 : runs cal 98 26 [v0, v1, v2] [vR 20] I = (cal 104 [vR 20] I).bind (fun q => runs cal 98 29 [v0, v1, v2] (pushR q.1 []) q.2) := st_call (st := false) (ins_of mI_98 (by rfl)) mC_98 mr_9_30 (by decide) mS_104 mN_104 rfl (Nat.le_of_ble_eq_true rfl) rfl rfl (Or.inr ⟨_, _, rfl, rcv mC_104 rfl wid_98 (by decide +kernel)⟩) (Or.inl (wid_98.trans wid_104.symm))
theorem r98_29 : runs cal 98 29 [vR 20, v1, v2] [] I = runs cal 98 30 [vR 20, v1, v2] [vR 20] I := runs_to (ins_of mI_98 (by rfl)) rfl rfl
theorem r98_30 : runs cal 98 30 [v0, v1, v2] [vR 20] I = runs cal 98 33 [v0, v1, v2] [vI (I 20 2)] I := st_getI (ins_of mI_98 (by rfl)) mC_98 (by decide) fr_9_33 cT_20 (wdc wid_98 wd_20) (Or.inl rfl)
theorem r98_33 : runs cal 98 33 [v0, v1, v2] [vI x0] I = if x0 = 0 then runs cal 98 36 [v0, v1, v2] [] I else runs cal 98 42 [v0, v1, v2] [] I := st_if_ne (ins_of mI_98 (by rfl)) (by decide)
theorem r98_36 : runs cal 98 36 [v0, v1, vI w] [] I = runs cal 98 37 [v0, v1, vI w] [vI w] I := runs_to (ins_of mI_98 (by rfl)) rfl rfl
theorem r98_37 : runs cal 98 37 [v0, v1, v2] [vI x0] I = if 0 < x0 then runs cal 98 40 [v0, v1, v2] [] I else runs cal 98 42 [v0, v1, v2] [] I := st_if_le (ins_of mI_98 (by rfl)) (by decide)
theorem r98_40 : runs cal 98 40 [v0, v1, vI w] [] I = runs cal 98 41 [v0, v1, vI w] [vI w] I := runs_to (ins_of mI_98 (by rfl)) rfl rfl
theorem r98_41 : runs cal 98 41 [v0, v1, v2] [vI x0] I = some (some (vI x0), I) := st_ret (q := some (vI x0)) (k := 0) (ins_of mI_98 (by rfl)) rfl (by decide) mR_98 rfl trivial
theorem r98_42 : runs cal 98 42 [vR 20, v1, v2] [] I = runs cal 98 43 [vR 20, v1, v2] [vR 20] I := runs_to (ins_of mI_98 (by rfl)) rfl rfl
theorem r98_43 : runs cal 98 43 [v0, vR 10, v2] [vR 20] I = runs cal 98 44 [v0, vR 10, v2] [vR 10, vR 20] I := runs_to (ins_of mI_98 (by rfl)) rfl rfl
theorem r98_44 : runs cal 98 44 [v0, v1, vI w] [vR 10, vR 20] I = runs cal 98 45 [v0, v1, vI w] [vI w, vR 10, vR 20] I := runs_to (ins_of mI_98 (by rfl)) rfl rfl
theorem r98_45 : runs cal 98 45 [v0, v1, v2] [vI x0, vR 10, vR 20] I = if x0 = 0 then runs cal 98 48 [v0, v1, v2] [vR 10, vR 20] I else runs cal 98 52 [v0, v1, v2] [vR 10, vR 20] I := st_if_ne (ins_of mI_98 (by rfl)) (by decide)
theorem r98_48 : runs cal 98 48 [v0, v1, v2] [vR 10, vR 20] I = runs cal 98 49 [v0, v1, v2] [vI (1), vR 10, vR 20] I := runs_to (ins_of mI_98 (by rfl)) rfl rfl
theorem r98_49 : runs cal 98 49 [v0, v1, v2] [vI x0, vR 10, vR 20] I = runs cal 98 53 [v0, v1, v2] [vI x0, vR 10, vR 20] I := st_goto (ins_of mI_98 (by rfl)) (by decide)
theorem r98_52 : runs cal 98 52 [v0, v1, v2] [vR 10, vR 20] I = runs cal 98 53 [v0, v1, v2] [vI (0), vR 10, vR 20] I := runs_to (ins_of mI_98 (by rfl)) rfl rfl
theorem r98_53 : runs cal 98 53 [v0, v1, v2] [vI x0, vR 10, vR 20] I = (cal 99 [vR 20, vR 10, vI x0] I).bind (fun q => runs cal 98 56 [v0, v1, v2] (pushR q.1 []) q.2) := st_call (st := false) (ins_of mI_98 (by rfl)) mC_98 mr_9_36 (by decide) mS_99 mN_99 rfl (Nat.le_of_ble_eq_true rfl) rfl rfl (Or.inr ⟨_, _, rfl, rcv mC_99 rfl wid_98 (by decide +kernel)⟩) (Or.inl (wid_98.trans wid_99.symm))
theorem r98_56 : runs cal 98 56 [vR 20, v1, v2] [] I = runs cal 98 57 [vR 20, v1, v2] [vR 20] I := runs_to (ins_of mI_98 (by rfl)) rfl rfl
theorem r98_57 : runs cal 98 57 [v0, v1, v2] [vR 20] I = (cal 102 [vR 20] I).bind (fun q => runs cal 98 60 [v0, v1, v2] (pushR q.1 []) q.2) := st_call (st := false) (ins_of mI_98 (by rfl)) mC_98 mr_9_40 (by decide) mS_102 mN_102 rfl (Nat.le_of_ble_eq_true rfl) rfl rfl (Or.inr ⟨_, _, rfl, rcv mC_102 rfl wid_98 (by decide +kernel)⟩) (Or.inl (wid_98.trans wid_102.symm))
theorem r98_60 : runs cal 98 60 [vR 20, v1, v2] [] I = runs cal 98 61 [vR 20, v1, v2] [vR 20] I := runs_to (ins_of mI_98 (by rfl)) rfl rfl
theorem r98_61 : runs cal 98 61 [v0, v1, v2] [vR 20] I = runs cal 98 64 [v0, v1, v2] [vI (I 20 5)] I := st_getI (ins_of mI_98 (by rfl)) mC_98 (by decide) fr_9_19 cT_20 (wdc wid_98 wd_20) (Or.inl rfl)
theorem r98_64 : runs cal 98 64 [v0, v1, v2] [vI x0] I = runs cal 98 65 [v0, v1, v2] [vI (-1), vI x0] I := runs_to (ins_of mI_98 (by rfl)) rfl rfl
theorem r98_65 : runs cal 98 65 [v0, v1, v2] [vI x0, vI x1] I = if x1 = x0 then runs cal 98 70 [v0, v1, v2] [] I else runs cal 98 68 [v0, v1, v2] [] I := st_cmp_eq (ins_of mI_98 (by rfl)) (by decide)
theorem r98_68 : runs cal 98 68 [v0, v1, v2] [] I = runs cal 98 69 [v0, v1, v2] [vI (-1)] I := runs_to (ins_of mI_98 (by rfl)) rfl rfl
theorem r98_69 : runs cal 98 69 [v0, v1, v2] [vI x0] I = some (some (vI x0), I) := st_ret (q := some (vI x0)) (k := 0) (ins_of mI_98 (by rfl)) rfl (by decide) mR_98 rfl trivial
theorem r98_70 : runs cal 98 70 [v0, vR b0, vI w] [] I = runs cal 98 73 [v0, vR b0, vI (iadd w (1))] [] I := runs_to (ins_of mI_98 (by rfl)) rfl rfl
theorem r98_73 : runs cal 98 73 [v0, v1, v2] [] I = runs cal 98 18 [v0, v1, v2] [] I := st_goto (ins_of mI_98 (by rfl)) (by decide)
theorem r98_76 : runs cal 98 76 [v0, v1, v2] [] I = runs cal 98 77 [v0, v1, v2] [vI (-1)] I := runs_to (ins_of mI_98 (by rfl)) rfl rfl
theorem r98_77 : runs cal 98 77 [v0, v1, v2] [vI x0] I = some (some (vI x0), I) := st_ret (q := some (vI x0)) (k := 0) (ins_of mI_98 (by rfl)) rfl (by decide) mR_98 rfl trivial
theorem r99_0 : runs cal 99 0 [v0, v1, vI w, v3, v4] [] I = runs cal 99 1 [v0, v1, vI w, v3, v4] [vI w] I := runs_to (ins_of mI_99 (by rfl)) rfl rfl
theorem r99_1 : runs cal 99 1 [vR 20, v1, v2, v3, v4] [vI x0] I = runs cal 99 2 [vR 20, v1, v2, v3, v4] [vR 20, vI x0] I := runs_to (ins_of mI_99 (by rfl)) rfl rfl
theorem r99_2 : runs cal 99 2 [v0, v1, v2, v3, v4] [vR 20, vI x1] I = runs cal 99 4 [v0, v1, v2, v3, v4] [vR 89, vR 20, vI x1] I := runs_to (ins_of mI_99 (by rfl)) rfl (by simp only [stepI, ldk, mC_99]; rfl)
theorem r99_4 : runs cal 99 4 [v0, v1, v2, v3, v4] [vR 89, vR 20, vI x2] I = (cal 106 [vR 20, vR 89] I).bind (fun q => runs cal 99 7 [v0, v1, v2, v3, v4] (pushR q.1 [vI x2]) q.2) := st_call (st := false) (ins_of mI_99 (by rfl)) mC_99 mr_9_45 (by decide) mS_106 mN_106 rfl (Nat.le_of_ble_eq_true rfl) rfl rfl (Or.inr ⟨_, _, rfl, rcv mC_106 rfl wid_99 (by decide +kernel)⟩) (Or.inl (wid_99.trans wid_106.symm))
theorem r99_7 : runs cal 99 7 [v0, v1, v2, v3, v4] [vI x0, vI x1] I = if x1 = x0 then runs cal 99 17 [v0, v1, v2, v3, v4] [] I else runs cal 99 10 [v0, v1, v2, v3, v4] [] I := st_cmp_eq (ins_of mI_99 (by rfl)) (by decide)
theorem r99_10 : runs cal 99 10 [vR 20, v1, v2, v3, v4] [] I = runs cal 99 11 [vR 20, v1, v2, v3, v4] [vR 20] I := runs_to (ins_of mI_99 (by rfl)) rfl rfl
theorem r99_11 : runs cal 99 11 [v0, v1, v2, v3, v4] [vR 20] I = (cal 103 [vR 20] I).bind (fun q => runs cal 99 14 [v0, v1, v2, v3, v4] (pushR q.1 []) q.2) := st_call (st := false) (ins_of mI_99 (by rfl)) mC_99 mr_9_49 (by decide) mS_103 mN_103 rfl (Nat.le_of_ble_eq_true rfl) rfl rfl (Or.inr ⟨_, _, rfl, rcv mC_103 rfl wid_99 (by decide +kernel)⟩) (Or.inl (wid_99.trans wid_103.symm))
theorem r99_14 : runs cal 99 14 [v0, v1, v2, v3, v4] [] I = runs cal 99 150 [v0, v1, v2, v3, v4] [] I := st_goto (ins_of mI_99 (by rfl)) (by decide)
theorem r99_17 : runs cal 99 17 [v0, v1, vI w, v3, v4] [] I = runs cal 99 18 [v0, v1, vI w, v3, v4] [vI w] I := runs_to (ins_of mI_99 (by rfl)) rfl rfl
theorem r99_18 : runs cal 99 18 [v0, v1, v2, v3, v4] [vI x0] I = if x0 = 0 then runs cal 99 35 [v0, v1, v2, v3, v4] [] I else runs cal 99 21 [v0, v1, v2, v3, v4] [] I := st_if_eq (ins_of mI_99 (by rfl)) (by decide)
theorem r99_21 : runs cal 99 21 [v0, vR 10, v2, v3, v4] [] I = runs cal 99 22 [v0, vR 10, v2, v3, v4] [vR 10] I := runs_to (ins_of mI_99 (by rfl)) rfl rfl
theorem r99_22 : runs cal 99 22 [vR 20, v1, v2, v3, v4] [vR 10] I = runs cal 99 23 [vR 20, v1, v2, v3, v4] [vR 20, vR 10] I := runs_to (ins_of mI_99 (by rfl)) rfl rfl
theorem r99_23 : runs cal 99 23 [v0, v1, v2, v3, v4] [vR 20, vR 10] I = runs cal 99 24 [v0, v1, v2, v3, v4] [vI (1), vR 20, vR 10] I := runs_to (ins_of mI_99 (by rfl)) rfl rfl
theorem r99_24 : runs cal 99 24 [v0, v1, v2, v3, v4] [vI x0, vR 20, vR 10] I = runs cal 99 26 [v0, v1, v2, v3, v4] [vI (7), vI x0, vR 20, vR 10] I := runs_to (ins_of mI_99 (by rfl)) rfl rfl
theorem r99_26 : runs cal 99 26 [v0, v1, v2, v3, v4] [vI x0, vI x1, vR 20, vR 10] I = (cal 101 [vR 20, vI x1, vI x0] I).bind (fun q => runs cal 99 29 [v0, v1, v2, v3, v4] (pushR q.1 [vR 10]) q.2) := st_call (st := false) (ins_of mI_99 (by rfl)) mC_99 mr_9_52 (by decide) mS_101 mN_101 rfl (Nat.le_of_ble_eq_true rfl) rfl rfl (Or.inr ⟨_, _, rfl, rcv mC_101 rfl wid_99 (by decide +kernel)⟩) (Or.inl (wid_99.trans wid_101.symm))
theorem r99_29 : runs cal 99 29 [v0, v1, v2, v3, v4] [vI x0, vR 10] I = (cal 0 [vR 10, vI x0] I).bind (fun q => runs cal 99 32 [v0, v1, v2, v3, v4] (pushR q.1 []) q.2) := st_call (st := false) (ins_of mI_99 (by rfl)) mC_99 mr_9_24 (by decide) mS_0 mN_0 rfl (Nat.le_of_ble_eq_true rfl) rfl rfl (Or.inr ⟨_, _, rfl, rcv mC_0 rfl wid_99 (by decide +kernel)⟩) (Or.inl (wid_99.trans wid_0.symm))
theorem r99_32 : runs cal 99 32 [v0, v1, v2, v3, v4] [] I = runs cal 99 150 [v0, v1, v2, v3, v4] [] I := st_goto (ins_of mI_99 (by rfl)) (by decide)
theorem r99_35 : runs cal 99 35 [vR 20, v1, v2, v3, v4] [] I = runs cal 99 36 [vR 20, v1, v2, v3, v4] [vR 20] I := runs_to (ins_of mI_99 (by rfl)) rfl rfl
theorem r99_36 : runs cal 99 36 [v0, v1, v2, v3, v4] [vR 20] I = runs cal 99 38 [v0, v1, v2, v3, v4] [vR 90, vR 20] I := runs_to (ins_of mI_99 (by rfl)) rfl (by simp only [stepI, ldk, mC_99]; rfl)
theorem r99_38 : runs cal 99 38 [v0, v1, v2, v3, v4] [vR 90, vR 20] I = (cal 106 [vR 20, vR 90] I).bind (fun q => runs cal 99 41 [v0, v1, v2, v3, v4] (pushR q.1 []) q.2) := st_call (st := false) (ins_of mI_99 (by rfl)) mC_99 mr_9_45 (by decide) mS_106 mN_106 rfl (Nat.le_of_ble_eq_true rfl) rfl rfl (Or.inr ⟨_, _, rfl, rcv mC_106 rfl wid_99 (by decide +kernel)⟩) (Or.inl (wid_99.trans wid_106.symm))
theorem r99_41 : runs cal 99 41 [v0, v1, v2, v3, v4] [vI x0] I = if x0 = 0 then runs cal 99 69 [v0, v1, v2, v3, v4] [] I else runs cal 99 44 [v0, v1, v2, v3, v4] [] I := st_if_eq (ins_of mI_99 (by rfl)) (by decide)
theorem r99_44 : runs cal 99 44 [v0, vR 10, v2, v3, v4] [] I = runs cal 99 45 [v0, vR 10, v2, v3, v4] [vR 10] I := runs_to (ins_of mI_99 (by rfl)) rfl rfl
theorem r99_45 : runs cal 99 45 [v0, v1, v2, v3, v4] [vR 10] I = runs cal 99 46 [v0, v1, v2, v3, v4] [vR 10, vR 10] I := runs_to (ins_of mI_99 (by rfl)) rfl rfl
theorem r99_46 : runs cal 99 46 [v0, v1, v2, v3, v4] [vR 10, vR 10] I = runs cal 99 49 [v0, v1, v2, v3, v4] [vI (I 10 1), vR 10] I := st_getI (ins_of mI_99 (by rfl)) mC_99 (by decide) fr_9_58 cT_10 (wdc wid_99 wd_10) (Or.inl rfl)
theorem r99_49 : runs cal 99 49 [v0, v1, v2, v3, v4] [vI x0, vR 10] I = runs cal 99 50 [v0, v1, v2, v3, v4] [vI (1), vI x0, vR 10] I := runs_to (ins_of mI_99 (by rfl)) rfl rfl
theorem r99_50 : runs cal 99 50 [vR 20, v1, v2, v3, v4] [vI x0, vI x1, vR 10] I = runs cal 99 51 [vR 20, v1, v2, v3, v4] [vR 20, vI x0, vI x1, vR 10] I := runs_to (ins_of mI_99 (by rfl)) rfl rfl
theorem r99_51 : runs cal 99 51 [v0, v1, v2, v3, v4] [vR 20, vI x1, vI x2, vR 10] I = runs cal 99 52 [v0, v1, v2, v3, v4] [vI (1), vR 20, vI x1, vI x2, vR 10] I := runs_to (ins_of mI_99 (by rfl)) rfl rfl
theorem r99_52 : runs cal 99 52 [v0, vR 10, v2, v3, v4] [vI x0, vR 20, vI x2, vI x3, vR 10] I = runs cal 99 53 [v0, vR 10, v2, v3, v4] [vR 10, vI x0, vR 20, vI x2, vI x3, vR 10] I := runs_to (ins_of mI_99 (by rfl)) rfl rfl
theorem r99_53 : runs cal 99 53 [v0, v1, v2, v3, v4] [vR 10, vI x1, vR 20, vI x3, vI x4, vR 10] I = runs cal 99 56 [v0, v1, v2, v3, v4] [vI (I 10 0), vI x1, vR 20, vI x3, vI x4, vR 10] I := st_getI (ins_of mI_99 (by rfl)) mC_99 (by decide) fr_9_61 cT_10 (wdc wid_99 wd_10) (Or.inl rfl)
theorem r99_56 : runs cal 99 56 [v0, v1, v2, v3, v4] [vI x0, vI x1, vR 20, vI x3, vI x4, vR 10] I = runs cal 99 57 [v0, v1, v2, v3, v4] [vI (1), vI x0, vI x1, vR 20, vI x3, vI x4, vR 10] I := runs_to (ins_of mI_99 (by rfl)) rfl rfl
theorem r99_57 : runs cal 99 57 [v0, v1, v2, v3, v4] [vI x0, vI x1, vI x2, vR 20, vI x4, vI x5, vR 10] I = runs cal 99 58 [v0, v1, v2, v3, v4] [vI (isub x1 x0), vI x2, vR 20, vI x4, vI x5, vR 10] I := runs_to (ins_of mI_99 (by rfl)) rfl rfl
theorem r99_58 : runs cal 99 58 [v0, v1, v2, v3, v4] [vI x0, vI x1, vR 20, vI x3, vI x4, vR 10] I = (cal 101 [vR 20, vI x1, vI x0] I).bind (fun q => runs cal 99 61 [v0, v1, v2, v3, v4] (pushR q.1 [vI x3, vI x4, vR 10]) q.2) := st_call (st := false) (ins_of mI_99 (by rfl)) mC_99 mr_9_52 (by decide) mS_101 mN_101 rfl (Nat.le_of_ble_eq_true rfl) rfl rfl (Or.inr ⟨_, _, rfl, rcv mC_101 rfl wid_99 (by decide +kernel)⟩) (Or.inl (wid_99.trans wid_101.symm))
theorem r99_61 : runs cal 99 61 [v0, v1, v2, v3, v4] [vI x0, vI x1, vI x2, vR 10] I = runs cal 99 62 [v0, v1, v2, v3, v4] [vI (ishl x1 x0), vI x2, vR 10] I := runs_to (ins_of mI_99 (by rfl)) rfl rfl
theorem r99_62 : runs cal 99 62 [v0, v1, v2, v3, v4] [vI x0, vI x1, vR 10] I = runs cal 99 63 [v0, v1, v2, v3, v4] [vI (ior x1 x0), vR 10] I := runs_to (ins_of mI_99 (by rfl)) rfl rfl
theorem r99_63 : runs cal 99 63 [v0, v1, v2, v3, v4] [vI x0, vR 10] I = runs cal 99 66 [v0, v1, v2, v3, v4] [] (mset I 10 1 x0) := st_putI (ins_of mI_99 (by rfl)) mC_99 fr_9_58 cT_10 (wdc wid_99 wd_10) rfl
theorem r99_66 : runs cal 99 66 [v0, v1, v2, v3, v4] [] I = runs cal 99 150 [v0, v1, v2, v3, v4] [] I := st_goto (ins_of mI_99 (by rfl)) (by decide)
theorem r99_69 : runs cal 99 69 [vR 20, v1, v2, v3, v4] [] I = runs cal 99 70 [vR 20, v1, v2, v3, v4] [vR 20] I := runs_to (ins_of mI_99 (by rfl)) rfl rfl
theorem r99_70 : runs cal 99 70 [v0, v1, v2, v3, v4] [vR 20] I = runs cal 99 72 [v0, v1, v2, v3, v4] [vR 91, vR 20] I := runs_to (ins_of mI_99 (by rfl)) rfl (by simp only [stepI, ldk, mC_99]; rfl)
theorem r99_72 : runs cal 99 72 [v0, v1, v2, v3, v4] [vR 91, vR 20] I = (cal 106 [vR 20, vR 91] I).bind (fun q => runs cal 99 75 [v0, v1, v2, v3, v4] (pushR q.1 []) q.2) := st_call (st := false) (ins_of mI_99 (by rfl)) mC_99 mr_9_45 (by decide) mS_106 mN_106 rfl (Nat.le_of_ble_eq_true rfl) rfl rfl (Or.inr ⟨_, _, rfl, rcv mC_106 rfl wid_99 (by decide +kernel)⟩) (Or.inl (wid_99.trans wid_106.symm))
theorem r99_75 : runs cal 99 75 [v0, v1, v2, v3, v4] [vI x0] I = if x0 = 0 then runs cal 99 121 [v0, v1, v2, v3, v4] [] I else runs cal 99 78 [v0, v1, v2, v3, v4] [] I := st_if_eq (ins_of mI_99 (by rfl)) (by decide)
theorem r99_78 : runs cal 99 78 [v0, vR 10, v2, v3, v4] [] I = runs cal 99 79 [v0, vR 10, v2, v3, v4] [vR 10] I := runs_to (ins_of mI_99 (by rfl)) rfl rfl
theorem r99_79 : runs cal 99 79 [v0, v1, v2, v3, v4] [vR 10] I = runs cal 99 82 [v0, v1, v2, v3, v4] [vI (I 10 2)] I := st_getI (ins_of mI_99 (by rfl)) mC_99 (by decide) fr_9_65 cT_10 (wdc wid_99 wd_10) (Or.inl rfl)
theorem r99_82 : runs cal 99 82 [v0, v1, v2, v3, v4] [vI x0] I = runs cal 99 83 [v0, v1, v2, v3, v4] [vI (3), vI x0] I := runs_to (ins_of mI_99 (by rfl)) rfl rfl
theorem r99_83 : runs cal 99 83 [v0, v1, v2, v3, v4] [vI x0, vI x1] I = if x1 < x0 then runs cal 99 86 [v0, v1, v2, v3, v4] [] I else runs cal 99 121 [v0, v1, v2, v3, v4] [] I := st_cmp_ge (ins_of mI_99 (by rfl)) (by decide)
theorem r99_86 : runs cal 99 86 [vR 20, v1, v2, v3, v4] [] I = runs cal 99 87 [vR 20, v1, v2, v3, v4] [vR 20] I := runs_to (ins_of mI_99 (by rfl)) rfl rfl
theorem r99_87 : runs cal 99 87 [v0, v1, v2, v3, v4] [vR 20] I = runs cal 99 88 [v0, v1, v2, v3, v4] [vI (1), vR 20] I := runs_to (ins_of mI_99 (by rfl)) rfl rfl
theorem r99_88 : runs cal 99 88 [v0, v1, v2, v3, v4] [vI x0, vR 20] I = runs cal 99 90 [v0, v1, v2, v3, v4] [vI (9), vI x0, vR 20] I := runs_to (ins_of mI_99 (by rfl)) rfl rfl
theorem r99_90 : runs cal 99 90 [v0, v1, v2, v3, v4] [vI x0, vI x1, vR 20] I = (cal 101 [vR 20, vI x1, vI x0] I).bind (fun q => runs cal 99 93 [v0, v1, v2, v3, v4] (pushR q.1 []) q.2) := st_call (st := false) (ins_of mI_99 (by rfl)) mC_99 mr_9_52 (by decide) mS_101 mN_101 rfl (Nat.le_of_ble_eq_true rfl) rfl rfl (Or.inr ⟨_, _, rfl, rcv mC_101 rfl wid_99 (by decide +kernel)⟩) (Or.inl (wid_99.trans wid_101.symm))
theorem r99_93 : runs cal 99 93 [v0, v1, vI u, v3, v4] [vI x0] I = runs cal 99 94 [v0, v1, vI u, vI x0, v4] [] I := runs_to (ins_of mI_99 (by rfl)) rfl rfl
theorem r99_94 : runs cal 99 94 [vR 20, v1, v2, v3, v4] [] I = runs cal 99 95 [vR 20, v1, v2, v3, v4] [vR 20] I := runs_to (ins_of mI_99 (by rfl)) rfl rfl
theorem r99_95 : runs cal 99 95 [v0, v1, v2, v3, v4] [vR 20] I = runs cal 99 96 [v0, v1, v2, v3, v4] [vI (0), vR 20] I := runs_to (ins_of mI_99 (by rfl)) rfl rfl
theorem r99_96 : runs cal 99 96 [v0, vR 10, v2, v3, v4] [vI x0, vR 20] I = runs cal 99 97 [v0, vR 10, v2, v3, v4] [vR 10, vI x0, vR 20] I := runs_to (ins_of mI_99 (by rfl)) rfl rfl
theorem r99_97 : runs cal 99 97 [v0, v1, v2, v3, v4] [vR 10, vI x1, vR 20] I = runs cal 99 100 [v0, v1, v2, v3, v4] [vI (I 10 0), vI x1, vR 20] I := st_getI (ins_of mI_99 (by rfl)) mC_99 (by decide) fr_9_61 cT_10 (wdc wid_99 wd_10) (Or.inl rfl)
theorem r99_100 : runs cal 99 100 [v0, v1, v2, v3, v4] [vI x0, vI x1, vR 20] I = (cal 101 [vR 20, vI x1, vI x0] I).bind (fun q => runs cal 99 103 [v0, v1, v2, v3, v4] (pushR q.1 []) q.2) := st_call (st := false) (ins_of mI_99 (by rfl)) mC_99 mr_9_52 (by decide) mS_101 mN_101 rfl (Nat.le_of_ble_eq_true rfl) rfl rfl (Or.inr ⟨_, _, rfl, rcv mC_101 rfl wid_99 (by decide +kernel)⟩) (Or.inl (wid_99.trans wid_101.symm))
theorem r99_103 : runs cal 99 103 [v0, v1, v2, vI u, v4] [vI x0] I = runs cal 99 105 [v0, v1, v2, vI u, vI x0] [] I := runs_to (ins_of mI_99 (by rfl)) rfl rfl
theorem r99_105 : runs cal 99 105 [v0, vR 10, v2, v3, v4] [] I = runs cal 99 106 [v0, vR 10, v2, v3, v4] [vR 10] I := runs_to (ins_of mI_99 (by rfl)) rfl rfl
theorem r99_106 : runs cal 99 106 [v0, v1, v2, vI w, v4] [vR 10] I = runs cal 99 107 [v0, v1, v2, vI w, v4] [vI w, vR 10] I := runs_to (ins_of mI_99 (by rfl)) rfl rfl
theorem r99_107 : runs cal 99 107 [v0, v1, v2, v3, vI w] [vI x0, vR 10] I = runs cal 99 109 [v0, v1, v2, v3, vI w] [vI w, vI x0, vR 10] I := runs_to (ins_of mI_99 (by rfl)) rfl rfl
theorem r99_109 : runs cal 99 109 [vR 20, v1, v2, v3, v4] [vI x0, vI x1, vR 10] I = runs cal 99 110 [vR 20, v1, v2, v3, v4] [vR 20, vI x0, vI x1, vR 10] I := runs_to (ins_of mI_99 (by rfl)) rfl rfl
theorem r99_110 : runs cal 99 110 [v0, v1, v2, v3, v4] [vR 20, vI x1, vI x2, vR 10] I = runs cal 99 111 [v0, v1, v2, v3, v4] [vI (0), vR 20, vI x1, vI x2, vR 10] I := runs_to (ins_of mI_99 (by rfl)) rfl rfl
theorem r99_111 : runs cal 99 111 [v0, v1, v2, v3, v4] [vI x0, vR 20, vI x2, vI x3, vR 10] I = runs cal 99 112 [v0, v1, v2, v3, v4] [vI (1), vI x0, vR 20, vI x2, vI x3, vR 10] I := runs_to (ins_of mI_99 (by rfl)) rfl rfl
theorem r99_112 : runs cal 99 112 [v0, v1, v2, v3, v4] [vI x0, vI x1, vR 20, vI x3, vI x4, vR 10] I = (cal 101 [vR 20, vI x1, vI x0] I).bind (fun q => runs cal 99 115 [v0, v1, v2, v3, v4] (pushR q.1 [vI x3, vI x4, vR 10]) q.2) := st_call (st := false) (ins_of mI_99 (by rfl)) mC_99 mr_9_52 (by decide) mS_101 mN_101 rfl (Nat.le_of_ble_eq_true rfl) rfl rfl (Or.inr ⟨_, _, rfl, rcv mC_101 rfl wid_99 (by decide +kernel)⟩) (Or.inl (wid_99.trans wid_101.symm))
theorem r99_115 : runs cal 99 115 [v0, v1, v2, v3, v4] [vI x0, vI x1, vI x2, vR 10] I = (cal 2 [vR 10, vI x2, vI x1, vI x0] I).bind (fun q => runs cal 99 118 [v0, v1, v2, v3, v4] (pushR q.1 []) q.2) := st_call (st := false) (ins_of mI_99 (by rfl)) mC_99 mr_9_68 (by decide) mS_2 mN_2 rfl (Nat.le_of_ble_eq_true rfl) rfl rfl (Or.inr ⟨_, _, rfl, rcv mC_2 rfl wid_99 (by decide +kernel)⟩) (Or.inl (wid_99.trans wid_2.symm))
theorem r99_118 : runs cal 99 118 [v0, v1, v2, v3, v4] [] I = runs cal 99 150 [v0, v1, v2, v3, v4] [] I := st_goto (ins_of mI_99 (by rfl)) (by decide)
theorem r99_121 : runs cal 99 121 [vR 20, v1, v2, v3, v4] [] I = runs cal 99 122 [vR 20, v1, v2, v3, v4] [vR 20] I := runs_to (ins_of mI_99 (by rfl)) rfl rfl
theorem r99_122 : runs cal 99 122 [v0, v1, v2, v3, v4] [vR 20] I = runs cal 99 124 [v0, v1, v2, v3, v4] [vR 92, vR 20] I := runs_to (ins_of mI_99 (by rfl)) rfl (by simp only [stepI, ldk, mC_99]; rfl)
theorem r99_124 : runs cal 99 124 [v0, v1, v2, v3, v4] [vR 92, vR 20] I = (cal 106 [vR 20, vR 92] I).bind (fun q => runs cal 99 127 [v0, v1, v2, v3, v4] (pushR q.1 []) q.2) := st_call (st := false) (ins_of mI_99 (by rfl)) mC_99 mr_9_45 (by decide) mS_106 mN_106 rfl (Nat.le_of_ble_eq_true rfl) rfl rfl (Or.inr ⟨_, _, rfl, rcv mC_106 rfl wid_99 (by decide +kernel)⟩) (Or.inl (wid_99.trans wid_106.symm))
theorem r99_127 : runs cal 99 127 [v0, v1, v2, v3, v4] [vI x0] I = if x0 = 0 then runs cal 99 146 [v0, v1, v2, v3, v4] [] I else runs cal 99 130 [v0, v1, v2, v3, v4] [] I := st_if_eq (ins_of mI_99 (by rfl)) (by decide)
theorem r99_130 : runs cal 99 130 [v0, vR 10, v2, v3, v4] [] I = runs cal 99 131 [v0, vR 10, v2, v3, v4] [vR 10] I := runs_to (ins_of mI_99 (by rfl)) rfl rfl
theorem r99_131 : runs cal 99 131 [v0, v1, v2, v3, v4] [vR 10] I = runs cal 99 134 [v0, v1, v2, v3, v4] [vI (I 10 3)] I := st_getI (ins_of mI_99 (by rfl)) mC_99 (by decide) fr_9_74 cT_10 (wdc wid_99 wd_10) (Or.inl rfl)
theorem r99_134 : runs cal 99 134 [v0, v1, v2, v3, v4] [vI x0] I = runs cal 99 135 [v0, v1, v2, v3, v4] [vI (2), vI x0] I := runs_to (ins_of mI_99 (by rfl)) rfl rfl
theorem r99_135 : runs cal 99 135 [v0, v1, v2, v3, v4] [vI x0, vI x1] I = if x1 < x0 then runs cal 99 138 [v0, v1, v2, v3, v4] [] I else runs cal 99 146 [v0, v1, v2, v3, v4] [] I := st_cmp_ge (ins_of mI_99 (by rfl)) (by decide)
theorem r99_138 : runs cal 99 138 [vR 20, v1, v2, v3, v4] [] I = runs cal 99 139 [vR 20, v1, v2, v3, v4] [vR 20] I := runs_to (ins_of mI_99 (by rfl)) rfl rfl
theorem r99_139 : runs cal 99 139 [v0, vR 10, v2, v3, v4] [vR 20] I = runs cal 99 140 [v0, vR 10, v2, v3, v4] [vR 10, vR 20] I := runs_to (ins_of mI_99 (by rfl)) rfl rfl
theorem r99_140 : runs cal 99 140 [v0, v1, v2, v3, v4] [vR 10, vR 20] I = (cal 100 [vR 20, vR 10] I).bind (fun q => runs cal 99 143 [v0, v1, v2, v3, v4] (pushR q.1 []) q.2) := st_call (st := false) (ins_of mI_99 (by rfl)) mC_99 mr_9_77 (by decide) mS_100 mN_100 rfl (Nat.le_of_ble_eq_true rfl) rfl rfl (Or.inr ⟨_, _, rfl, rcv mC_100 rfl wid_99 (by decide +kernel)⟩) (Or.inl (wid_99.trans wid_100.symm))
theorem r99_143 : runs cal 99 143 [v0, v1, v2, v3, v4] [] I = runs cal 99 150 [v0, v1, v2, v3, v4] [] I := st_goto (ins_of mI_99 (by rfl)) (by decide)
theorem r99_146 : runs cal 99 146 [vR 20, v1, v2, v3, v4] [] I = runs cal 99 147 [vR 20, v1, v2, v3, v4] [vR 20] I := runs_to (ins_of mI_99 (by rfl)) rfl rfl
theorem r99_147 : runs cal 99 147 [v0, v1, v2, v3, v4] [vR 20] I = (cal 103 [vR 20] I).bind (fun q => runs cal 99 150 [v0, v1, v2, v3, v4] (pushR q.1 []) q.2) := st_call (st := false) (ins_of mI_99 (by rfl)) mC_99 mr_9_49 (by decide) mS_103 mN_103 rfl (Nat.le_of_ble_eq_true rfl) rfl rfl (Or.inr ⟨_, _, rfl, rcv mC_103 rfl wid_99 (by decide +kernel)⟩) (Or.inl (wid_99.trans wid_103.symm))
theorem r99_150 : runs cal 99 150 [v0, v1, v2, v3, v4] [] I = some (none, I) := st_ret (q := none) (k := 3) (ins_of mI_99 (by rfl)) rfl (by decide) mR_99 rfl trivial
theorem r100_0 : runs cal 100 0 [vR 20, v1, v2, v3, v4, v5] [] I = runs cal 100 1 [vR 20, v1, v2, v3, v4, v5] [vR 20] I := runs_to (ins_of mI_100 (by rfl)) rfl rfl
theorem r100_1 : runs cal 100 1 [v0, v1, v2, v3, v4, v5] [vR 20] I = runs cal 100 2 [v0, v1, v2, v3, v4, v5] [vI (0), vR 20] I := runs_to (ins_of mI_100 (by rfl)) rfl rfl
theorem r100_2 : runs cal 100 2 [v0, v1, v2, v3, v4, v5] [vI x0, vR 20] I = runs cal 100 3 [v0, v1, v2, v3, v4, v5] [vI (5), vI x0, vR 20] I := runs_to (ins_of mI_100 (by rfl)) rfl rfl
theorem r100_3 : runs cal 100 3 [v0, v1, v2, v3, v4, v5] [vI x0, vI x1, vR 20] I = (cal 101 [vR 20, vI x1, vI x0] I).bind (fun q => runs cal 100 6 [v0, v1, v2, v3, v4, v5] (pushR q.1 []) q.2) := st_call (st := false) (ins_of mI_100 (by rfl)) mC_100 mr_9_52 (by decide) mS_101 mN_101 rfl (Nat.le_of_ble_eq_true rfl) rfl rfl (Or.inr ⟨_, _, rfl, rcv mC_101 rfl wid_100 (by decide +kernel)⟩) (Or.inl (wid_100.trans wid_101.symm))
theorem r100_6 : runs cal 100 6 [v0, vR b0, v2, v3, v4, v5] [vI x0] I = runs cal 100 7 [v0, vR b0, vI x0, v3, v4, v5] [] I := runs_to (ins_of mI_100 (by rfl)) rfl rfl
theorem r100_7 : runs cal 100 7 [vR 20, v1, v2, v3, v4, v5] [] I = runs cal 100 8 [vR 20, v1, v2, v3, v4, v5] [vR 20] I := runs_to (ins_of mI_100 (by rfl)) rfl rfl
theorem r100_8 : runs cal 100 8 [v0, v1, v2, v3, v4, v5] [vR 20] I = runs cal 100 9 [v0, v1, v2, v3, v4, v5] [vI (1), vR 20] I := runs_to (ins_of mI_100 (by rfl)) rfl rfl
theorem r100_9 : runs cal 100 9 [v0, v1, v2, v3, v4, v5] [vI x0, vR 20] I = runs cal 100 10 [v0, v1, v2, v3, v4, v5] [vI (3), vI x0, vR 20] I := runs_to (ins_of mI_100 (by rfl)) rfl rfl
theorem r100_10 : runs cal 100 10 [v0, v1, v2, v3, v4, v5] [vI x0, vI x1, vR 20] I = (cal 101 [vR 20, vI x1, vI x0] I).bind (fun q => runs cal 100 13 [v0, v1, v2, v3, v4, v5] (pushR q.1 []) q.2) := st_call (st := false) (ins_of mI_100 (by rfl)) mC_100 mr_9_52 (by decide) mS_101 mN_101 rfl (Nat.le_of_ble_eq_true rfl) rfl rfl (Or.inr ⟨_, _, rfl, rcv mC_101 rfl wid_100 (by decide +kernel)⟩) (Or.inl (wid_100.trans wid_101.symm))
theorem r100_13 : runs cal 100 13 [v0, v1, vI u, v3, v4, v5] [vI x0] I = runs cal 100 14 [v0, v1, vI u, vI x0, v4, v5] [] I := runs_to (ins_of mI_100 (by rfl)) rfl rfl
theorem r100_14 : runs cal 100 14 [vR 20, v1, v2, v3, v4, v5] [] I = runs cal 100 15 [vR 20, v1, v2, v3, v4, v5] [vR 20] I := runs_to (ins_of mI_100 (by rfl)) rfl rfl
theorem r100_15 : runs cal 100 15 [v0, v1, v2, v3, v4, v5] [vR 20] I = runs cal 100 16 [v0, v1, v2, v3, v4, v5] [vI (1), vR 20] I := runs_to (ins_of mI_100 (by rfl)) rfl rfl
theorem r100_16 : runs cal 100 16 [v0, v1, v2, v3, v4, v5] [vI x0, vR 20] I = runs cal 100 18 [v0, v1, v2, v3, v4, v5] [vI (30), vI x0, vR 20] I := runs_to (ins_of mI_100 (by rfl)) rfl rfl
theorem r100_18 : runs cal 100 18 [v0, v1, v2, v3, v4, v5] [vI x0, vI x1, vR 20] I = (cal 101 [vR 20, vI x1, vI x0] I).bind (fun q => runs cal 100 21 [v0, v1, v2, v3, v4, v5] (pushR q.1 []) q.2) := st_call (st := false) (ins_of mI_100 (by rfl)) mC_100 mr_9_52 (by decide) mS_101 mN_101 rfl (Nat.le_of_ble_eq_true rfl) rfl rfl (Or.inr ⟨_, _, rfl, rcv mC_101 rfl wid_100 (by decide +kernel)⟩) (Or.inl (wid_100.trans wid_101.symm))
theorem r100_21 : runs cal 100 21 [v0, v1, v2, vI u, v4, v5] [vI x0] I = runs cal 100 23 [v0, v1, v2, vI u, vI x0, v5] [] I := runs_to (ins_of mI_100 (by rfl)) rfl rfl
theorem r100_23 : runs cal 100 23 [vR 20, v1, v2, v3, v4, v5] [] I = runs cal 100 24 [vR 20, v1, v2, v3, v4, v5] [vR 20] I := runs_to (ins_of mI_100 (by rfl)) rfl rfl
theorem r100_24 : runs cal 100 24 [v0, v1, v2, v3, v4, v5] [vR 20] I = runs cal 100 25 [v0, v1, v2, v3, v4, v5] [vI (0), vR 20] I := runs_to (ins_of mI_100 (by rfl)) rfl rfl
theorem r100_25 : runs cal 100 25 [v0, vR 10, v2, v3, v4, v5] [vI x0, vR 20] I = runs cal 100 26 [v0, vR 10, v2, v3, v4, v5] [vR 10, vI x0, vR 20] I := runs_to (ins_of mI_100 (by rfl)) rfl rfl
theorem r100_26 : runs cal 100 26 [v0, v1, v2, v3, v4, v5] [vR 10, vI x1, vR 20] I = runs cal 100 29 [v0, v1, v2, v3, v4, v5] [vI (I 10 0), vI x1, vR 20] I := st_getI (ins_of mI_100 (by rfl)) mC_100 (by decide) fr_9_61 cT_10 (wdc wid_100 wd_10) (Or.inl rfl)
theorem r100_29 : runs cal 100 29 [v0, v1, v2, v3, v4, v5] [vI x0, vI x1, vR 20] I = (cal 101 [vR 20, vI x1, vI x0] I).bind (fun q => runs cal 100 32 [v0, v1, v2, v3, v4, v5] (pushR q.1 []) q.2) := st_call (st := false) (ins_of mI_100 (by rfl)) mC_100 mr_9_52 (by decide) mS_101 mN_101 rfl (Nat.le_of_ble_eq_true rfl) rfl rfl (Or.inr ⟨_, _, rfl, rcv mC_101 rfl wid_100 (by decide +kernel)⟩) (Or.inl (wid_100.trans wid_101.symm))
theorem r100_32 : runs cal 100 32 [v0, v1, v2, v3, vI u, v5] [vI x0] I = runs cal 100 34 [v0, v1, v2, v3, vI u, vI x0] [] I := runs_to (ins_of mI_100 (by rfl)) rfl rfl
theorem r100_34 : runs cal 100 34 [vR 20, v1, v2, v3, v4, v5] [] I = runs cal 100 35 [vR 20, v1, v2, v3, v4, v5] [vR 20] I := runs_to (ins_of mI_100 (by rfl)) rfl rfl
theorem r100_35 : runs cal 100 35 [v0, v1, v2, v3, v4, v5] [vR 20] I = runs cal 100 38 [v0, v1, v2, v3, v4, v5] [vI (I 20 5)] I := st_getI (ins_of mI_100 (by rfl)) mC_100 (by decide) fr_9_19 cT_20 (wdc wid_100 wd_20) (Or.inl rfl)
theorem r100_38 : runs cal 100 38 [v0, v1, v2, v3, v4, v5] [vI x0] I = runs cal 100 39 [v0, v1, v2, v3, v4, v5] [vI (-1), vI x0] I := runs_to (ins_of mI_100 (by rfl)) rfl rfl
theorem r100_39 : runs cal 100 39 [v0, v1, v2, v3, v4, v5] [vI x0, vI x1] I = if x1 = x0 then runs cal 100 42 [v0, v1, v2, v3, v4, v5] [] I else runs cal 100 59 [v0, v1, v2, v3, v4, v5] [] I := st_cmp_ne (ins_of mI_100 (by rfl)) (by decide)
theorem r100_42 : runs cal 100 42 [v0, vR 10, v2, v3, v4, v5] [] I = runs cal 100 43 [v0, vR 10, v2, v3, v4, v5] [vR 10] I := runs_to (ins_of mI_100 (by rfl)) rfl rfl
theorem r100_43 : runs cal 100 43 [v0, v1, vI w, v3, v4, v5] [vR 10] I = runs cal 100 44 [v0, v1, vI w, v3, v4, v5] [vI w, vR 10] I := runs_to (ins_of mI_100 (by rfl)) rfl rfl
theorem r100_44 : runs cal 100 44 [v0, v1, v2, vI w, v4, v5] [vI x0, vR 10] I = runs cal 100 45 [v0, v1, v2, vI w, v4, v5] [vI w, vI x0, vR 10] I := runs_to (ins_of mI_100 (by rfl)) rfl rfl
theorem r100_45 : runs cal 100 45 [v0, v1, v2, v3, vI w, v5] [vI x0, vI x1, vR 10] I = runs cal 100 47 [v0, v1, v2, v3, vI w, v5] [vI w, vI x0, vI x1, vR 10] I := runs_to (ins_of mI_100 (by rfl)) rfl rfl
theorem r100_47 : runs cal 100 47 [v0, v1, v2, v3, v4, vI w] [vI x0, vI x1, vI x2, vR 10] I = runs cal 100 49 [v0, v1, v2, v3, v4, vI w] [vI w, vI x0, vI x1, vI x2, vR 10] I := runs_to (ins_of mI_100 (by rfl)) rfl rfl
theorem r100_49 : runs cal 100 49 [v0, v1, v2, v3, v4, v5] [vI x0, vI x1, vI x2, vI x3, vR 10] I = (cal 3 [vR 10, vI x3, vI x2, vI x1, vI x0] I).bind (fun q => runs cal 100 52 [v0, v1, v2, v3, v4, v5] (pushR q.1 []) q.2) := st_call (st := false) (ins_of mI_100 (by rfl)) mC_100 mr_9_81 (by decide) mS_3 mN_3 rfl (Nat.le_of_ble_eq_true rfl) rfl rfl (Or.inr ⟨_, _, rfl, rcv mC_3 rfl wid_100 (by decide +kernel)⟩) (Or.inl (wid_100.trans wid_3.symm))
theorem r100_52 : runs cal 100 52 [v0, v1, v2, v3, v4, v5] [vI x0] I = if x0 = 0 then runs cal 100 55 [v0, v1, v2, v3, v4, v5] [] I else runs cal 100 59 [v0, v1, v2, v3, v4, v5] [] I := st_if_ne (ins_of mI_100 (by rfl)) (by decide)
theorem r100_55 : runs cal 100 55 [vR 20, v1, v2, v3, v4, v5] [] I = runs cal 100 56 [vR 20, v1, v2, v3, v4, v5] [vR 20] I := runs_to (ins_of mI_100 (by rfl)) rfl rfl
theorem r100_56 : runs cal 100 56 [v0, v1, v2, v3, v4, v5] [vR 20] I = (cal 103 [vR 20] I).bind (fun q => runs cal 100 59 [v0, v1, v2, v3, v4, v5] (pushR q.1 []) q.2) := st_call (st := false) (ins_of mI_100 (by rfl)) mC_100 mr_9_49 (by decide) mS_103 mN_103 rfl (Nat.le_of_ble_eq_true rfl) rfl rfl (Or.inr ⟨_, _, rfl, rcv mC_103 rfl wid_100 (by decide +kernel)⟩) (Or.inl (wid_100.trans wid_103.symm))
theorem r100_59 : runs cal 100 59 [v0, v1, v2, v3, v4, v5] [] I = some (none, I) := st_ret (q := none) (k := 3) (ins_of mI_100 (by rfl)) rfl (by decide) mR_100 rfl trivial
theorem r101_0 : runs cal 101 0 [vR 20, v1, v2] [] I = runs cal 101 1 [vR 20, v1, v2] [vR 20] I := runs_to (ins_of mI_101 (by rfl)) rfl rfl
theorem r101_1 : runs cal 101 1 [v0, v1, v2] [vR 20] I = runs cal 101 4 [v0, v1, v2] [vI (I 20 5)] I := st_getI (ins_of mI_101 (by rfl)) mC_101 (by decide) fr_9_19 cT_20 (wdc wid_101 wd_20) (Or.inl rfl)
theorem r101_4 : runs cal 101 4 [v0, v1, v2] [vI x0] I = runs cal 101 5 [v0, v1, v2] [vI (-1), vI x0] I := runs_to (ins_of mI_101 (by rfl)) rfl rfl
theorem r101_5 : runs cal 101 5 [v0, v1, v2] [vI x0, vI x1] I = if x1 = x0 then runs cal 101 10 [v0, v1, v2] [] I else runs cal 101 8 [v0, v1, v2] [] I := st_cmp_eq (ins_of mI_101 (by rfl)) (by decide)
theorem r101_8 : runs cal 101 8 [v0, vI w, v2] [] I = runs cal 101 9 [v0, vI w, v2] [vI w] I := runs_to (ins_of mI_101 (by rfl)) rfl rfl
theorem r101_9 : runs cal 101 9 [v0, v1, v2] [vI x0] I = some (some (vI x0), I) := st_ret (q := some (vI x0)) (k := 0) (ins_of mI_101 (by rfl)) rfl (by decide) mR_101 rfl trivial
theorem r101_10 : runs cal 101 10 [vR 20, v1, v2] [] I = runs cal 101 11 [vR 20, v1, v2] [vR 20] I := runs_to (ins_of mI_101 (by rfl)) rfl rfl
theorem r101_11 : runs cal 101 11 [v0, v1, v2] [vR 20] I = (cal 104 [vR 20] I).bind (fun q => runs cal 101 14 [v0, v1, v2] (pushR q.1 []) q.2) := st_call (st := false) (ins_of mI_101 (by rfl)) mC_101 mr_9_30 (by decide) mS_104 mN_104 rfl (Nat.le_of_ble_eq_true rfl) rfl rfl (Or.inr ⟨_, _, rfl, rcv mC_104 rfl wid_101 (by decide +kernel)⟩) (Or.inl (wid_101.trans wid_104.symm))
theorem r101_14 : runs cal 101 14 [vR 20, v1, v2] [] I = runs cal 101 15 [vR 20, v1, v2] [vR 20] I := runs_to (ins_of mI_101 (by rfl)) rfl rfl
theorem r101_15 : runs cal 101 15 [v0, v1, v2] [vR 20] I = runs cal 101 18 [v0, v1, v2] [vI (I 20 2)] I := st_getI (ins_of mI_101 (by rfl)) mC_101 (by decide) fr_9_33 cT_20 (wdc wid_101 wd_20) (Or.inl rfl)
theorem r101_18 : runs cal 101 18 [v0, v1, v2] [vI x0] I = runs cal 101 19 [v0, v1, v2] [vI (2), vI x0] I := runs_to (ins_of mI_101 (by rfl)) rfl rfl
theorem r101_19 : runs cal 101 19 [v0, v1, v2] [vI x0, vI x1] I = if x1 = x0 then runs cal 101 22 [v0, v1, v2] [] I else runs cal 101 38 [v0, v1, v2] [] I := st_cmp_ne (ins_of mI_101 (by rfl)) (by decide)
theorem r101_22 : runs cal 101 22 [vR 20, v1, v2] [] I = runs cal 101 23 [vR 20, v1, v2] [vR 20] I := runs_to (ins_of mI_101 (by rfl)) rfl rfl
theorem r101_23 : runs cal 101 23 [v0, v1, v2] [vR 20] I = runs cal 101 26 [v0, v1, v2] [vI (I 20 4)] I := st_getI (ins_of mI_101 (by rfl)) mC_101 (by decide) fr_9_85 cT_20 (wdc wid_101 wd_20) (Or.inl rfl)
theorem r101_26 : runs cal 101 26 [v0, vI w, v2] [vI x0] I = runs cal 101 27 [v0, vI w, v2] [vI w, vI x0] I := runs_to (ins_of mI_101 (by rfl)) rfl rfl
theorem r101_27 : runs cal 101 27 [v0, v1, v2] [vI x0, vI x1] I = if x1 < x0 then runs cal 101 38 [v0, v1, v2] [] I else runs cal 101 30 [v0, v1, v2] [] I := st_cmp_lt (ins_of mI_101 (by rfl)) (by decide)
theorem r101_30 : runs cal 101 30 [vR 20, v1, v2] [] I = runs cal 101 31 [vR 20, v1, v2] [vR 20] I := runs_to (ins_of mI_101 (by rfl)) rfl rfl
theorem r101_31 : runs cal 101 31 [v0, v1, v2] [vR 20] I = runs cal 101 34 [v0, v1, v2] [vI (I 20 4)] I := st_getI (ins_of mI_101 (by rfl)) mC_101 (by decide) fr_9_85 cT_20 (wdc wid_101 wd_20) (Or.inl rfl)
theorem r101_34 : runs cal 101 34 [v0, v1, vI w] [vI x0] I = runs cal 101 35 [v0, v1, vI w] [vI w, vI x0] I := runs_to (ins_of mI_101 (by rfl)) rfl rfl
theorem r101_35 : runs cal 101 35 [v0, v1, v2] [vI x0, vI x1] I = if x0 < x1 then runs cal 101 38 [v0, v1, v2] [] I else runs cal 101 44 [v0, v1, v2] [] I := st_cmp_le (ins_of mI_101 (by rfl)) (by decide)
theorem r101_38 : runs cal 101 38 [vR 20, v1, v2] [] I = runs cal 101 39 [vR 20, v1, v2] [vR 20] I := runs_to (ins_of mI_101 (by rfl)) rfl rfl
theorem r101_39 : runs cal 101 39 [v0, v1, v2] [vR 20] I = (cal 103 [vR 20] I).bind (fun q => runs cal 101 42 [v0, v1, v2] (pushR q.1 []) q.2) := st_call (st := false) (ins_of mI_101 (by rfl)) mC_101 mr_9_49 (by decide) mS_103 mN_103 rfl (Nat.le_of_ble_eq_true rfl) rfl rfl (Or.inr ⟨_, _, rfl, rcv mC_103 rfl wid_101 (by decide +kernel)⟩) (Or.inl (wid_101.trans wid_103.symm))
theorem r101_42 : runs cal 101 42 [v0, vI w, v2] [] I = runs cal 101 43 [v0, vI w, v2] [vI w] I := runs_to (ins_of mI_101 (by rfl)) rfl rfl
theorem r101_43 : runs cal 101 43 [v0, v1, v2] [vI x0] I = some (some (vI x0), I) := st_ret (q := some (vI x0)) (k := 0) (ins_of mI_101 (by rfl)) rfl (by decide) mR_101 rfl trivial
theorem r101_44 : runs cal 101 44 [vR 20, v1, v2] [] I = runs cal 101 45 [vR 20, v1, v2] [vR 20] I := runs_to (ins_of mI_101 (by rfl)) rfl rfl
theorem r101_45 : runs cal 101 45 [v0, v1, v2] [vR 20] I = runs cal 101 48 [v0, v1, v2] [vI (I 20 4)] I := st_getI (ins_of mI_101 (by rfl)) mC_101 (by decide) fr_9_85 cT_20 (wdc wid_101 wd_20) (Or.inl rfl)
theorem r101_48 : runs cal 101 48 [v0, v1, v2] [vI x0] I = some (some (vI x0), I) := st_ret (q := some (vI x0)) (k := 0) (ins_of mI_101 (by rfl)) rfl (by decide) mR_101 rfl trivial
theorem r102_0 : runs cal 102 0 [vR 20] [] I = runs cal 102 1 [vR 20] [vR 20] I := runs_to (ins_of mI_102 (by rfl)) rfl rfl
theorem r102_1 : runs cal 102 1 [v0] [vR 20] I = runs cal 102 4 [v0] [vI (I 20 5)] I := st_getI (ins_of mI_102 (by rfl)) mC_102 (by decide) fr_9_19 cT_20 (wdc wid_102 wd_20) (Or.inl rfl)
theorem r102_4 : runs cal 102 4 [v0] [vI x0] I = runs cal 102 5 [v0] [vI (-1), vI x0] I := runs_to (ins_of mI_102 (by rfl)) rfl rfl
theorem r102_5 : runs cal 102 5 [v0] [vI x0, vI x1] I = if x1 = x0 then runs cal 102 8 [v0] [] I else runs cal 102 24 [v0] [] I := st_cmp_ne (ins_of mI_102 (by rfl)) (by decide)
theorem r102_8 : runs cal 102 8 [vR 20] [] I = runs cal 102 9 [vR 20] [vR 20] I := runs_to (ins_of mI_102 (by rfl)) rfl rfl
theorem r102_9 : runs cal 102 9 [v0] [vR 20] I = (cal 104 [vR 20] I).bind (fun q => runs cal 102 12 [v0] (pushR q.1 []) q.2) := st_call (st := false) (ins_of mI_102 (by rfl)) mC_102 mr_9_30 (by decide) mS_104 mN_104 rfl (Nat.le_of_ble_eq_true rfl) rfl rfl (Or.inr ⟨_, _, rfl, rcv mC_104 rfl wid_102 (by decide +kernel)⟩) (Or.inl (wid_102.trans wid_104.symm))
theorem r102_12 : runs cal 102 12 [vR 20] [] I = runs cal 102 13 [vR 20] [vR 20] I := runs_to (ins_of mI_102 (by rfl)) rfl rfl
theorem r102_13 : runs cal 102 13 [v0] [vR 20] I = runs cal 102 16 [v0] [vI (I 20 2)] I := st_getI (ins_of mI_102 (by rfl)) mC_102 (by decide) fr_9_33 cT_20 (wdc wid_102 wd_20) (Or.inl rfl)
theorem r102_16 : runs cal 102 16 [v0] [vI x0] I = runs cal 102 17 [v0] [vI (3), vI x0] I := runs_to (ins_of mI_102 (by rfl)) rfl rfl
theorem r102_17 : runs cal 102 17 [v0] [vI x0, vI x1] I = if x1 = x0 then runs cal 102 24 [v0] [] I else runs cal 102 20 [v0] [] I := st_cmp_eq (ins_of mI_102 (by rfl)) (by decide)
theorem r102_20 : runs cal 102 20 [vR 20] [] I = runs cal 102 21 [vR 20] [vR 20] I := runs_to (ins_of mI_102 (by rfl)) rfl rfl
theorem r102_21 : runs cal 102 21 [v0] [vR 20] I = (cal 103 [vR 20] I).bind (fun q => runs cal 102 24 [v0] (pushR q.1 []) q.2) := st_call (st := false) (ins_of mI_102 (by rfl)) mC_102 mr_9_49 (by decide) mS_103 mN_103 rfl (Nat.le_of_ble_eq_true rfl) rfl rfl (Or.inr ⟨_, _, rfl, rcv mC_103 rfl wid_102 (by decide +kernel)⟩) (Or.inl (wid_102.trans wid_103.symm))
theorem r102_24 : runs cal 102 24 [v0] [] I = some (none, I) := st_ret (q := none) (k := 3) (ins_of mI_102 (by rfl)) rfl (by decide) mR_102 rfl trivial
theorem r103_0 : runs cal 103 0 [vR 20] [] I = runs cal 103 1 [vR 20] [vR 20] I := runs_to (ins_of mI_103 (by rfl)) rfl rfl
theorem r103_1 : runs cal 103 1 [v0] [vR 20] I = runs cal 103 4 [v0] [vI (I 20 5)] I := st_getI (ins_of mI_103 (by rfl)) mC_103 (by decide) fr_9_19 cT_20 (wdc wid_103 wd_20) (Or.inl rfl)
theorem r103_4 : runs cal 103 4 [v0] [vI x0] I = runs cal 103 5 [v0] [vI (-1), vI x0] I := runs_to (ins_of mI_103 (by rfl)) rfl rfl
theorem r103_5 : runs cal 103 5 [v0] [vI x0, vI x1] I = if x1 = x0 then runs cal 103 8 [v0] [] I else runs cal 103 16 [v0] [] I := st_cmp_ne (ins_of mI_103 (by rfl)) (by decide)
theorem r103_8 : runs cal 103 8 [vR 20] [] I = runs cal 103 9 [vR 20] [vR 20] I := runs_to (ins_of mI_103 (by rfl)) rfl rfl
theorem r103_9 : runs cal 103 9 [vR 20] [vR 20] I = runs cal 103 10 [vR 20] [vR 20, vR 20] I := runs_to (ins_of mI_103 (by rfl)) rfl rfl
theorem r103_10 : runs cal 103 10 [v0] [vR 20, vR 20] I = runs cal 103 13 [v0] [vI (I 20 3), vR 20] I := st_getI (ins_of mI_103 (by rfl)) mC_103 (by decide) fr_9_88 cT_20 (wdc wid_103 wd_20) (Or.inl rfl)
theorem r103_13 : runs cal 103 13 [v0] [vI x0, vR 20] I = runs cal 103 16 [v0] [] (mset I 20 5 x0) := st_putI (ins_of mI_103 (by rfl)) mC_103 fr_9_19 cT_20 (wdc wid_103 wd_20) rfl
theorem r103_16 : runs cal 103 16 [v0] [] I = some (none, I) := st_ret (q := none) (k := 3) (ins_of mI_103 (by rfl)) rfl (by decide) mR_103 rfl trivial
theorem r104_0 : runs cal 104 0 [vR 20, v1] [] I = runs cal 104 1 [vR 20, v1] [vR 20] I := runs_to (ins_of mI_104 (by rfl)) rfl rfl
theorem r104_1 : runs cal 104 1 [v0, v1] [vR 20] I = runs cal 104 4 [v0, v1] [vI (I 20 1)] I := st_getI (ins_of mI_104 (by rfl)) mC_104 (by decide) fr_9_15 cT_20 (wdc wid_104 wd_20) (Or.inl rfl)
theorem r104_4 : runs cal 104 4 [vR 20, v1] [vI x0] I = runs cal 104 5 [vR 20, v1] [vR 20, vI x0] I := runs_to (ins_of mI_104 (by rfl)) rfl rfl
theorem r104_5 : runs cal 104 5 [v0, v1] [vR 20, vI x1] I = runs cal 104 8 [v0, v1] [vR 18, vI x1] I := st_getR (ins_of mI_104 (by rfl)) mC_104 (by decide) fr_9_9 cT_20 (wdc wid_104 wd_20) rfl rfl
theorem r104_8 : runs cal 104 8 [v0, v1] [vR 18, vI x1] I = runs cal 104 11 [v0, v1] [vI (I 18 1), vI x1] I := st_getI (ins_of mI_104 (by rfl)) mC_104 (by decide) fr_9_91 cT_18 (wdc wid_104 wd_18) (Or.inl rfl)
theorem r104_11 : runs cal 104 11 [v0, v1] [vI x0, vI x1] I = if x1 < x0 then runs cal 104 14 [v0, v1] [] I else runs cal 104 43 [v0, v1] [] I := st_cmp_ge (ins_of mI_104 (by rfl)) (by decide)
theorem r104_14 : runs cal 104 14 [vR 20, v1] [] I = runs cal 104 15 [vR 20, v1] [vR 20] I := runs_to (ins_of mI_104 (by rfl)) rfl rfl
theorem r104_15 : runs cal 104 15 [v0, v1] [vR 20] I = runs cal 104 18 [v0, v1] [vR 18] I := st_getR (ins_of mI_104 (by rfl)) mC_104 (by decide) fr_9_9 cT_20 (wdc wid_104 wd_20) rfl rfl
theorem r104_18 : runs cal 104 18 [vR 20, v1] [vR 18] I = runs cal 104 19 [vR 20, v1] [vR 20, vR 18] I := runs_to (ins_of mI_104 (by rfl)) rfl rfl
theorem r104_19 : runs cal 104 19 [v0, v1] [vR 20, vR 18] I = runs cal 104 22 [v0, v1] [vI (I 20 1), vR 18] I := st_getI (ins_of mI_104 (by rfl)) mC_104 (by decide) fr_9_15 cT_20 (wdc wid_104 wd_20) (Or.inl rfl)
theorem r104_22 : runs cal 104 22 [v0, v1] [vI x0, vR 18] I = (cal 97 [vR 18, vI x0] I).bind (fun q => runs cal 104 25 [v0, v1] (pushR q.1 []) q.2) := st_call (st := false) (ins_of mI_104 (by rfl)) mC_104 mr_9_94 (by decide) mS_97 mN_97 rfl (Nat.le_of_ble_eq_true rfl) rfl rfl (Or.inr ⟨_, _, rfl, rcv mC_97 rfl wid_104 (by decide +kernel)⟩) (Or.inl (wid_104.trans wid_97.symm))
theorem r104_25 : runs cal 104 25 [v0, v1] [vI x0] I = runs cal 104 27 [v0, v1] [vI (32), vI x0] I := runs_to (ins_of mI_104 (by rfl)) rfl rfl
theorem r104_27 : runs cal 104 27 [v0, v1] [vI x0, vI x1] I = if x1 = x0 then runs cal 104 30 [v0, v1] [] I else runs cal 104 43 [v0, v1] [] I := st_cmp_ne (ins_of mI_104 (by rfl)) (by decide)
theorem r104_30 : runs cal 104 30 [vR 20, v1] [] I = runs cal 104 31 [vR 20, v1] [vR 20] I := runs_to (ins_of mI_104 (by rfl)) rfl rfl
theorem r104_31 : runs cal 104 31 [v0, v1] [vR 20] I = runs cal 104 32 [v0, v1] [vR 20, vR 20] I := runs_to (ins_of mI_104 (by rfl)) rfl rfl
theorem r104_32 : runs cal 104 32 [v0, v1] [vR 20, vR 20] I = runs cal 104 35 [v0, v1] [vI (I 20 1), vR 20] I := st_getI (ins_of mI_104 (by rfl)) mC_104 (by decide) fr_9_15 cT_20 (wdc wid_104 wd_20) (Or.inl rfl)
theorem r104_35 : runs cal 104 35 [v0, v1] [vI x0, vR 20] I = runs cal 104 36 [v0, v1] [vI (1), vI x0, vR 20] I := runs_to (ins_of mI_104 (by rfl)) rfl rfl
theorem r104_36 : runs cal 104 36 [v0, v1] [vI x0, vI x1, vR 20] I = runs cal 104 37 [v0, v1] [vI (iadd x1 x0), vR 20] I := runs_to (ins_of mI_104 (by rfl)) rfl rfl
theorem r104_37 : runs cal 104 37 [v0, v1] [vI x0, vR 20] I = runs cal 104 40 [v0, v1] [] (mset I 20 1 x0) := st_putI (ins_of mI_104 (by rfl)) mC_104 fr_9_15 cT_20 (wdc wid_104 wd_20) rfl
theorem r104_40 : runs cal 104 40 [v0, v1] [] I = runs cal 104 0 [v0, v1] [] I := st_goto (ins_of mI_104 (by rfl)) (by decide)
theorem r104_43 : runs cal 104 43 [vR 20, v1] [] I = runs cal 104 44 [vR 20, v1] [vR 20] I := runs_to (ins_of mI_104 (by rfl)) rfl rfl
theorem r104_44 : runs cal 104 44 [vR 20, v1] [vR 20] I = runs cal 104 45 [vR 20, v1] [vR 20, vR 20] I := runs_to (ins_of mI_104 (by rfl)) rfl rfl
theorem r104_45 : runs cal 104 45 [v0, v1] [vR 20, vR 20] I = runs cal 104 48 [v0, v1] [vI (I 20 1), vR 20] I := st_getI (ins_of mI_104 (by rfl)) mC_104 (by decide) fr_9_15 cT_20 (wdc wid_104 wd_20) (Or.inl rfl)
theorem r104_48 : runs cal 104 48 [v0, v1] [vI x0, vR 20] I = runs cal 104 51 [v0, v1] [] (mset I 20 3 x0) := st_putI (ins_of mI_104 (by rfl)) mC_104 fr_9_88 cT_20 (wdc wid_104 wd_20) rfl
theorem r104_51 : runs cal 104 51 [vR 20, v1] [] I = runs cal 104 52 [vR 20, v1] [vR 20] I := runs_to (ins_of mI_104 (by rfl)) rfl rfl
theorem r104_52 : runs cal 104 52 [v0, v1] [vR 20] I = runs cal 104 55 [v0, v1] [vR 18] I := st_getR (ins_of mI_104 (by rfl)) mC_104 (by decide) fr_9_9 cT_20 (wdc wid_104 wd_20) rfl rfl
theorem r104_55 : runs cal 104 55 [vR 20, v1] [vR 18] I = runs cal 104 56 [vR 20, v1] [vR 20, vR 18] I := runs_to (ins_of mI_104 (by rfl)) rfl rfl
theorem r104_56 : runs cal 104 56 [v0, v1] [vR 20, vR 18] I = runs cal 104 59 [v0, v1] [vI (I 20 1), vR 18] I := st_getI (ins_of mI_104 (by rfl)) mC_104 (by decide) fr_9_15 cT_20 (wdc wid_104 wd_20) (Or.inl rfl)
theorem r104_59 : runs cal 104 59 [v0, v1] [vI x0, vR 18] I = (cal 97 [vR 18, vI x0] I).bind (fun q => runs cal 104 62 [v0, v1] (pushR q.1 []) q.2) := st_call (st := false) (ins_of mI_104 (by rfl)) mC_104 mr_9_94 (by decide) mS_97 mN_97 rfl (Nat.le_of_ble_eq_true rfl) rfl rfl (Or.inr ⟨_, _, rfl, rcv mC_97 rfl wid_104 (by decide +kernel)⟩) (Or.inl (wid_104.trans wid_97.symm))
theorem r104_62 : runs cal 104 62 [vR b0, v1] [vI x0] I = runs cal 104 63 [vR b0, vI x0] [] I := runs_to (ins_of mI_104 (by rfl)) rfl rfl
theorem r104_63 : runs cal 104 63 [vR 20, v1] [] I = runs cal 104 64 [vR 20, v1] [vR 20] I := runs_to (ins_of mI_104 (by rfl)) rfl rfl
theorem r104_64 : runs cal 104 64 [v0, v1] [vR 20] I = runs cal 104 67 [v0, v1] [vI (I 20 1)] I := st_getI (ins_of mI_104 (by rfl)) mC_104 (by decide) fr_9_15 cT_20 (wdc wid_104 wd_20) (Or.inl rfl)
theorem r104_67 : runs cal 104 67 [vR 20, v1] [vI x0] I = runs cal 104 68 [vR 20, v1] [vR 20, vI x0] I := runs_to (ins_of mI_104 (by rfl)) rfl rfl
theorem r104_68 : runs cal 104 68 [v0, v1] [vR 20, vI x1] I = runs cal 104 71 [v0, v1] [vR 18, vI x1] I := st_getR (ins_of mI_104 (by rfl)) mC_104 (by decide) fr_9_9 cT_20 (wdc wid_104 wd_20) rfl rfl
theorem r104_71 : runs cal 104 71 [v0, v1] [vR 18, vI x1] I = runs cal 104 74 [v0, v1] [vI (I 18 1), vI x1] I := st_getI (ins_of mI_104 (by rfl)) mC_104 (by decide) fr_9_91 cT_18 (wdc wid_104 wd_18) (Or.inl rfl)
theorem r104_74 : runs cal 104 74 [v0, v1] [vI x0, vI x1] I = if x1 < x0 then runs cal 104 85 [v0, v1] [] I else runs cal 104 77 [v0, v1] [] I := st_cmp_lt (ins_of mI_104 (by rfl)) (by decide)
theorem r104_77 : runs cal 104 77 [vR 20, v1] [] I = runs cal 104 78 [vR 20, v1] [vR 20] I := runs_to (ins_of mI_104 (by rfl)) rfl rfl
theorem r104_78 : runs cal 104 78 [v0, v1] [vR 20] I = runs cal 104 79 [v0, v1] [vI (0), vR 20] I := runs_to (ins_of mI_104 (by rfl)) rfl rfl
theorem r104_79 : runs cal 104 79 [v0, v1] [vI x0, vR 20] I = runs cal 104 82 [v0, v1] [] (mset I 20 2 x0) := st_putI (ins_of mI_104 (by rfl)) mC_104 fr_9_33 cT_20 (wdc wid_104 wd_20) rfl
theorem r104_82 : runs cal 104 82 [v0, v1] [] I = runs cal 104 188 [v0, v1] [] I := st_goto (ins_of mI_104 (by rfl)) (by decide)
theorem r104_85 : runs cal 104 85 [vR 20, v1] [] I = runs cal 104 86 [vR 20, v1] [vR 20] I := runs_to (ins_of mI_104 (by rfl)) rfl rfl
theorem r104_86 : runs cal 104 86 [v0, vI w] [vR 20] I = runs cal 104 87 [v0, vI w] [vI w, vR 20] I := runs_to (ins_of mI_104 (by rfl)) rfl rfl
theorem r104_87 : runs cal 104 87 [v0, v1] [vI x0, vR 20] I = (cal 107 [vR 20, vI x0] I).bind (fun q => runs cal 104 90 [v0, v1] (pushR q.1 []) q.2) := st_call (st := false) (ins_of mI_104 (by rfl)) mC_104 mr_9_98 (by decide) mS_107 mN_107 rfl (Nat.le_of_ble_eq_true rfl) rfl rfl (Or.inr ⟨_, _, rfl, rcv mC_107 rfl wid_104 (by decide +kernel)⟩) (Or.inl (wid_104.trans wid_107.symm))
theorem r104_90 : runs cal 104 90 [v0, v1] [vI x0] I = if x0 = 0 then runs cal 104 143 [v0, v1] [] I else runs cal 104 93 [v0, v1] [] I := st_if_eq (ins_of mI_104 (by rfl)) (by decide)
theorem r104_93 : runs cal 104 93 [vR 20, v1] [] I = runs cal 104 94 [vR 20, v1] [vR 20] I := runs_to (ins_of mI_104 (by rfl)) rfl rfl
theorem r104_94 : runs cal 104 94 [v0, v1] [vR 20] I = runs cal 104 95 [v0, v1] [vI (1), vR 20] I := runs_to (ins_of mI_104 (by rfl)) rfl rfl
theorem r104_95 : runs cal 104 95 [v0, v1] [vI x0, vR 20] I = runs cal 104 98 [v0, v1] [] (mset I 20 2 x0) := st_putI (ins_of mI_104 (by rfl)) mC_104 fr_9_33 cT_20 (wdc wid_104 wd_20) rfl
theorem r104_98 : runs cal 104 98 [vR 20, v1] [] I = runs cal 104 99 [vR 20, v1] [vR 20] I := runs_to (ins_of mI_104 (by rfl)) rfl rfl
theorem r104_99 : runs cal 104 99 [v0, v1] [vR 20] I = runs cal 104 102 [v0, v1] [vI (I 20 1)] I := st_getI (ins_of mI_104 (by rfl)) mC_104 (by decide) fr_9_15 cT_20 (wdc wid_104 wd_20) (Or.inl rfl)
theorem r104_102 : runs cal 104 102 [vR 20, v1] [vI x0] I = runs cal 104 103 [vR 20, v1] [vR 20, vI x0] I := runs_to (ins_of mI_104 (by rfl)) rfl rfl
theorem r104_103 : runs cal 104 103 [v0, v1] [vR 20, vI x1] I = runs cal 104 106 [v0, v1] [vR 18, vI x1] I := st_getR (ins_of mI_104 (by rfl)) mC_104 (by decide) fr_9_9 cT_20 (wdc wid_104 wd_20) rfl rfl
theorem r104_106 : runs cal 104 106 [v0, v1] [vR 18, vI x1] I = runs cal 104 109 [v0, v1] [vI (I 18 1), vI x1] I := st_getI (ins_of mI_104 (by rfl)) mC_104 (by decide) fr_9_91 cT_18 (wdc wid_104 wd_18) (Or.inl rfl)
theorem r104_109 : runs cal 104 109 [v0, v1] [vI x0, vI x1] I = if x1 < x0 then runs cal 104 112 [v0, v1] [] I else runs cal 104 188 [v0, v1] [] I := st_cmp_ge (ins_of mI_104 (by rfl)) (by decide)
theorem r104_112 : runs cal 104 112 [vR 20, v1] [] I = runs cal 104 113 [vR 20, v1] [vR 20] I := runs_to (ins_of mI_104 (by rfl)) rfl rfl
theorem r104_113 : runs cal 104 113 [vR 20, v1] [vR 20] I = runs cal 104 114 [vR 20, v1] [vR 20, vR 20] I := runs_to (ins_of mI_104 (by rfl)) rfl rfl
theorem r104_114 : runs cal 104 114 [v0, v1] [vR 20, vR 20] I = runs cal 104 117 [v0, v1] [vR 18, vR 20] I := st_getR (ins_of mI_104 (by rfl)) mC_104 (by decide) fr_9_9 cT_20 (wdc wid_104 wd_20) rfl rfl
theorem r104_117 : runs cal 104 117 [vR 20, v1] [vR 18, vR 20] I = runs cal 104 118 [vR 20, v1] [vR 20, vR 18, vR 20] I := runs_to (ins_of mI_104 (by rfl)) rfl rfl
theorem r104_118 : runs cal 104 118 [v0, v1] [vR 20, vR 18, vR 20] I = runs cal 104 121 [v0, v1] [vI (I 20 1), vR 18, vR 20] I := st_getI (ins_of mI_104 (by rfl)) mC_104 (by decide) fr_9_15 cT_20 (wdc wid_104 wd_20) (Or.inl rfl)
theorem r104_121 : runs cal 104 121 [v0, v1] [vI x0, vR 18, vR 20] I = (cal 97 [vR 18, vI x0] I).bind (fun q => runs cal 104 124 [v0, v1] (pushR q.1 [vR 20]) q.2) := st_call (st := false) (ins_of mI_104 (by rfl)) mC_104 mr_9_94 (by decide) mS_97 mN_97 rfl (Nat.le_of_ble_eq_true rfl) rfl rfl (Or.inr ⟨_, _, rfl, rcv mC_97 rfl wid_104 (by decide +kernel)⟩) (Or.inl (wid_104.trans wid_97.symm))
theorem r104_124 : runs cal 104 124 [v0, v1] [vI x0, vR 20] I = (cal 107 [vR 20, vI x0] I).bind (fun q => runs cal 104 127 [v0, v1] (pushR q.1 []) q.2) := st_call (st := false) (ins_of mI_104 (by rfl)) mC_104 mr_9_98 (by decide) mS_107 mN_107 rfl (Nat.le_of_ble_eq_true rfl) rfl rfl (Or.inr ⟨_, _, rfl, rcv mC_107 rfl wid_104 (by decide +kernel)⟩) (Or.inl (wid_104.trans wid_107.symm))
theorem r104_127 : runs cal 104 127 [v0, v1] [vI x0] I = if x0 = 0 then runs cal 104 188 [v0, v1] [] I else runs cal 104 130 [v0, v1] [] I := st_if_eq (ins_of mI_104 (by rfl)) (by decide)
theorem r104_130 : runs cal 104 130 [vR 20, v1] [] I = runs cal 104 131 [vR 20, v1] [vR 20] I := runs_to (ins_of mI_104 (by rfl)) rfl rfl
theorem r104_131 : runs cal 104 131 [v0, v1] [vR 20] I = runs cal 104 132 [v0, v1] [vR 20, vR 20] I := runs_to (ins_of mI_104 (by rfl)) rfl rfl
theorem r104_132 : runs cal 104 132 [v0, v1] [vR 20, vR 20] I = runs cal 104 135 [v0, v1] [vI (I 20 1), vR 20] I := st_getI (ins_of mI_104 (by rfl)) mC_104 (by decide) fr_9_15 cT_20 (wdc wid_104 wd_20) (Or.inl rfl)
theorem r104_135 : runs cal 104 135 [v0, v1] [vI x0, vR 20] I = runs cal 104 136 [v0, v1] [vI (1), vI x0, vR 20] I := runs_to (ins_of mI_104 (by rfl)) rfl rfl
theorem r104_136 : runs cal 104 136 [v0, v1] [vI x0, vI x1, vR 20] I = runs cal 104 137 [v0, v1] [vI (iadd x1 x0), vR 20] I := runs_to (ins_of mI_104 (by rfl)) rfl rfl
theorem r104_137 : runs cal 104 137 [v0, v1] [vI x0, vR 20] I = runs cal 104 140 [v0, v1] [] (mset I 20 1 x0) := st_putI (ins_of mI_104 (by rfl)) mC_104 fr_9_15 cT_20 (wdc wid_104 wd_20) rfl
theorem r104_140 : runs cal 104 140 [v0, v1] [] I = runs cal 104 98 [v0, v1] [] I := st_goto (ins_of mI_104 (by rfl)) (by decide)
theorem r104_143 : runs cal 104 143 [vR 20, v1] [] I = runs cal 104 144 [vR 20, v1] [vR 20] I := runs_to (ins_of mI_104 (by rfl)) rfl rfl
theorem r104_144 : runs cal 104 144 [v0, vI w] [vR 20] I = runs cal 104 145 [v0, vI w] [vI w, vR 20] I := runs_to (ins_of mI_104 (by rfl)) rfl rfl
theorem r104_145 : runs cal 104 145 [v0, v1] [vI x0, vR 20] I = (cal 108 [vR 20, vI x0] I).bind (fun q => runs cal 104 148 [v0, v1] (pushR q.1 []) q.2) := st_call (st := false) (ins_of mI_104 (by rfl)) mC_104 mr_9_102 (by decide) mS_108 mN_108 rfl (Nat.le_of_ble_eq_true rfl) rfl rfl (Or.inr ⟨_, _, rfl, rcv mC_108 rfl wid_104 (by decide +kernel)⟩) (Or.inl (wid_104.trans wid_108.symm))
theorem r104_148 : runs cal 104 148 [v0, v1] [vI x0] I = if x0 = 0 then runs cal 104 163 [v0, v1] [] I else runs cal 104 151 [v0, v1] [] I := st_if_eq (ins_of mI_104 (by rfl)) (by decide)
theorem r104_151 : runs cal 104 151 [vR 20, v1] [] I = runs cal 104 152 [vR 20, v1] [vR 20] I := runs_to (ins_of mI_104 (by rfl)) rfl rfl
theorem r104_152 : runs cal 104 152 [v0, v1] [vR 20] I = runs cal 104 153 [v0, v1] [vI (2), vR 20] I := runs_to (ins_of mI_104 (by rfl)) rfl rfl
theorem r104_153 : runs cal 104 153 [v0, v1] [vI x0, vR 20] I = runs cal 104 156 [v0, v1] [] (mset I 20 2 x0) := st_putI (ins_of mI_104 (by rfl)) mC_104 fr_9_33 cT_20 (wdc wid_104 wd_20) rfl
theorem r104_156 : runs cal 104 156 [vR 20, v1] [] I = runs cal 104 157 [vR 20, v1] [vR 20] I := runs_to (ins_of mI_104 (by rfl)) rfl rfl
theorem r104_157 : runs cal 104 157 [v0, v1] [vR 20] I = (cal 105 [vR 20] I).bind (fun q => runs cal 104 160 [v0, v1] (pushR q.1 []) q.2) := st_call (st := false) (ins_of mI_104 (by rfl)) mC_104 mr_9_105 (by decide) mS_105 mN_105 rfl (Nat.le_of_ble_eq_true rfl) rfl rfl (Or.inr ⟨_, _, rfl, rcv mC_105 rfl wid_104 (by decide +kernel)⟩) (Or.inl (wid_104.trans wid_105.symm))
theorem r104_160 : runs cal 104 160 [v0, v1] [] I = runs cal 104 188 [v0, v1] [] I := st_goto (ins_of mI_104 (by rfl)) (by decide)
theorem r104_163 : runs cal 104 163 [vR 20, v1] [] I = runs cal 104 164 [vR 20, v1] [vR 20] I := runs_to (ins_of mI_104 (by rfl)) rfl rfl
theorem r104_164 : runs cal 104 164 [v0, vI w] [vR 20] I = runs cal 104 165 [v0, vI w] [vI w, vR 20] I := runs_to (ins_of mI_104 (by rfl)) rfl rfl
theorem r104_165 : runs cal 104 165 [v0, v1] [vI x0, vR 20] I = runs cal 104 167 [v0, v1] [vI (59), vI x0, vR 20] I := runs_to (ins_of mI_104 (by rfl)) rfl rfl
theorem r104_167 : runs cal 104 167 [v0, v1] [vI x0, vI x1, vR 20] I = if x1 = x0 then runs cal 104 170 [v0, v1] [vR 20] I else runs cal 104 174 [v0, v1] [vR 20] I := st_cmp_ne (ins_of mI_104 (by rfl)) (by decide)
theorem r104_170 : runs cal 104 170 [v0, v1] [vR 20] I = runs cal 104 171 [v0, v1] [vI (3), vR 20] I := runs_to (ins_of mI_104 (by rfl)) rfl rfl
theorem r104_171 : runs cal 104 171 [v0, v1] [vI x0, vR 20] I = runs cal 104 175 [v0, v1] [vI x0, vR 20] I := st_goto (ins_of mI_104 (by rfl)) (by decide)
theorem r104_174 : runs cal 104 174 [v0, v1] [vR 20] I = runs cal 104 175 [v0, v1] [vI (4), vR 20] I := runs_to (ins_of mI_104 (by rfl)) rfl rfl
theorem r104_175 : runs cal 104 175 [v0, v1] [vI x0, vR 20] I = runs cal 104 178 [v0, v1] [] (mset I 20 2 x0) := st_putI (ins_of mI_104 (by rfl)) mC_104 fr_9_33 cT_20 (wdc wid_104 wd_20) rfl
theorem r104_178 : runs cal 104 178 [vR 20, v1] [] I = runs cal 104 179 [vR 20, v1] [vR 20] I := runs_to (ins_of mI_104 (by rfl)) rfl rfl
theorem r104_179 : runs cal 104 179 [v0, v1] [vR 20] I = runs cal 104 180 [v0, v1] [vR 20, vR 20] I := runs_to (ins_of mI_104 (by rfl)) rfl rfl
theorem r104_180 : runs cal 104 180 [v0, v1] [vR 20, vR 20] I = runs cal 104 183 [v0, v1] [vI (I 20 1), vR 20] I := st_getI (ins_of mI_104 (by rfl)) mC_104 (by decide) fr_9_15 cT_20 (wdc wid_104 wd_20) (Or.inl rfl)
theorem r104_183 : runs cal 104 183 [v0, v1] [vI x0, vR 20] I = runs cal 104 184 [v0, v1] [vI (1), vI x0, vR 20] I := runs_to (ins_of mI_104 (by rfl)) rfl rfl
theorem r104_184 : runs cal 104 184 [v0, v1] [vI x0, vI x1, vR 20] I = runs cal 104 185 [v0, v1] [vI (iadd x1 x0), vR 20] I := runs_to (ins_of mI_104 (by rfl)) rfl rfl
theorem r104_185 : runs cal 104 185 [v0, v1] [vI x0, vR 20] I = runs cal 104 188 [v0, v1] [] (mset I 20 1 x0) := st_putI (ins_of mI_104 (by rfl)) mC_104 fr_9_15 cT_20 (wdc wid_104 wd_20) rfl
theorem r104_188 : runs cal 104 188 [v0, v1] [] I = some (none, I) := st_ret (q := none) (k := 3) (ins_of mI_104 (by rfl)) rfl (by decide) mR_104 rfl trivial
theorem r105_0 : runs cal 105 0 [vR 20] [] I = runs cal 105 1 [vR 20] [vR 20] I := runs_to (ins_of mI_105 (by rfl)) rfl rfl
theorem r105_1 : runs cal 105 1 [v0] [vR 20] I = runs cal 105 2 [v0] [vI (0), vR 20] I := runs_to (ins_of mI_105 (by rfl)) rfl rfl
theorem r105_2 : runs cal 105 2 [v0] [vI x0, vR 20] I = runs cal 105 5 [v0] [] (mset I 20 4 x0) := st_putI (ins_of mI_105 (by rfl)) mC_105 fr_9_85 cT_20 (wdc wid_105 wd_20) rfl
theorem r105_5 : runs cal 105 5 [vR 20] [] I = runs cal 105 6 [vR 20] [vR 20] I := runs_to (ins_of mI_105 (by rfl)) rfl rfl
theorem r105_6 : runs cal 105 6 [v0] [vR 20] I = runs cal 105 9 [v0] [vI (I 20 1)] I := st_getI (ins_of mI_105 (by rfl)) mC_105 (by decide) fr_9_15 cT_20 (wdc wid_105 wd_20) (Or.inl rfl)
theorem r105_9 : runs cal 105 9 [vR 20] [vI x0] I = runs cal 105 10 [vR 20] [vR 20, vI x0] I := runs_to (ins_of mI_105 (by rfl)) rfl rfl
theorem r105_10 : runs cal 105 10 [v0] [vR 20, vI x1] I = runs cal 105 13 [v0] [vR 18, vI x1] I := st_getR (ins_of mI_105 (by rfl)) mC_105 (by decide) fr_9_9 cT_20 (wdc wid_105 wd_20) rfl rfl
theorem r105_13 : runs cal 105 13 [v0] [vR 18, vI x1] I = runs cal 105 16 [v0] [vI (I 18 1), vI x1] I := st_getI (ins_of mI_105 (by rfl)) mC_105 (by decide) fr_9_91 cT_18 (wdc wid_105 wd_18) (Or.inl rfl)
theorem r105_16 : runs cal 105 16 [v0] [vI x0, vI x1] I = if x1 < x0 then runs cal 105 19 [v0] [] I else runs cal 105 93 [v0] [] I := st_cmp_ge (ins_of mI_105 (by rfl)) (by decide)
theorem r105_19 : runs cal 105 19 [vR 20] [] I = runs cal 105 20 [vR 20] [vR 20] I := runs_to (ins_of mI_105 (by rfl)) rfl rfl
theorem r105_20 : runs cal 105 20 [vR 20] [vR 20] I = runs cal 105 21 [vR 20] [vR 20, vR 20] I := runs_to (ins_of mI_105 (by rfl)) rfl rfl
theorem r105_21 : runs cal 105 21 [v0] [vR 20, vR 20] I = runs cal 105 24 [v0] [vR 18, vR 20] I := st_getR (ins_of mI_105 (by rfl)) mC_105 (by decide) fr_9_9 cT_20 (wdc wid_105 wd_20) rfl rfl
theorem r105_24 : runs cal 105 24 [vR 20] [vR 18, vR 20] I = runs cal 105 25 [vR 20] [vR 20, vR 18, vR 20] I := runs_to (ins_of mI_105 (by rfl)) rfl rfl
theorem r105_25 : runs cal 105 25 [v0] [vR 20, vR 18, vR 20] I = runs cal 105 28 [v0] [vI (I 20 1), vR 18, vR 20] I := st_getI (ins_of mI_105 (by rfl)) mC_105 (by decide) fr_9_15 cT_20 (wdc wid_105 wd_20) (Or.inl rfl)
theorem r105_28 : runs cal 105 28 [v0] [vI x0, vR 18, vR 20] I = (cal 97 [vR 18, vI x0] I).bind (fun q => runs cal 105 31 [v0] (pushR q.1 [vR 20]) q.2) := st_call (st := false) (ins_of mI_105 (by rfl)) mC_105 mr_9_94 (by decide) mS_97 mN_97 rfl (Nat.le_of_ble_eq_true rfl) rfl rfl (Or.inr ⟨_, _, rfl, rcv mC_97 rfl wid_105 (by decide +kernel)⟩) (Or.inl (wid_105.trans wid_97.symm))
theorem r105_31 : runs cal 105 31 [v0] [vI x0, vR 20] I = (cal 108 [vR 20, vI x0] I).bind (fun q => runs cal 105 34 [v0] (pushR q.1 []) q.2) := st_call (st := false) (ins_of mI_105 (by rfl)) mC_105 mr_9_102 (by decide) mS_108 mN_108 rfl (Nat.le_of_ble_eq_true rfl) rfl rfl (Or.inr ⟨_, _, rfl, rcv mC_108 rfl wid_105 (by decide +kernel)⟩) (Or.inl (wid_105.trans wid_108.symm))
theorem r105_34 : runs cal 105 34 [v0] [vI x0] I = if x0 = 0 then runs cal 105 93 [v0] [] I else runs cal 105 37 [v0] [] I := st_if_eq (ins_of mI_105 (by rfl)) (by decide)
theorem r105_37 : runs cal 105 37 [vR 20] [] I = runs cal 105 38 [vR 20] [vR 20] I := runs_to (ins_of mI_105 (by rfl)) rfl rfl
theorem r105_38 : runs cal 105 38 [vR 20] [vR 20] I = runs cal 105 39 [vR 20] [vR 20, vR 20] I := runs_to (ins_of mI_105 (by rfl)) rfl rfl
theorem r105_39 : runs cal 105 39 [v0] [vR 20, vR 20] I = runs cal 105 42 [v0] [vI (I 20 1), vR 20] I := st_getI (ins_of mI_105 (by rfl)) mC_105 (by decide) fr_9_15 cT_20 (wdc wid_105 wd_20) (Or.inl rfl)
theorem r105_42 : runs cal 105 42 [vR 20] [vI x0, vR 20] I = runs cal 105 43 [vR 20] [vR 20, vI x0, vR 20] I := runs_to (ins_of mI_105 (by rfl)) rfl rfl
theorem r105_43 : runs cal 105 43 [v0] [vR 20, vI x1, vR 20] I = runs cal 105 46 [v0] [vI (I 20 3), vI x1, vR 20] I := st_getI (ins_of mI_105 (by rfl)) mC_105 (by decide) fr_9_88 cT_20 (wdc wid_105 wd_20) (Or.inl rfl)
theorem r105_46 : runs cal 105 46 [v0] [vI x0, vI x1, vR 20] I = runs cal 105 47 [v0] [vI (isub x1 x0), vR 20] I := runs_to (ins_of mI_105 (by rfl)) rfl rfl
theorem r105_47 : runs cal 105 47 [v0] [vI x0, vR 20] I = runs cal 105 48 [v0] [vI (2), vI x0, vR 20] I := runs_to (ins_of mI_105 (by rfl)) rfl rfl
theorem r105_48 : runs cal 105 48 [v0] [vI x0, vI x1, vR 20] I = if x1 < x0 then runs cal 105 51 [v0] [vR 20] I else runs cal 105 76 [v0] [vR 20] I := st_cmp_ge (ins_of mI_105 (by rfl)) (by decide)
theorem r105_51 : runs cal 105 51 [v0] [vR 20] I = runs cal 105 53 [v0] [vI (10), vR 20] I := runs_to (ins_of mI_105 (by rfl)) rfl rfl
theorem r105_53 : runs cal 105 53 [vR 20] [vI x0, vR 20] I = runs cal 105 54 [vR 20] [vR 20, vI x0, vR 20] I := runs_to (ins_of mI_105 (by rfl)) rfl rfl
theorem r105_54 : runs cal 105 54 [v0] [vR 20, vI x1, vR 20] I = runs cal 105 57 [v0] [vI (I 20 4), vI x1, vR 20] I := st_getI (ins_of mI_105 (by rfl)) mC_105 (by decide) fr_9_85 cT_20 (wdc wid_105 wd_20) (Or.inl rfl)
theorem r105_57 : runs cal 105 57 [v0] [vI x0, vI x1, vR 20] I = runs cal 105 58 [v0] [vI (imul x1 x0), vR 20] I := runs_to (ins_of mI_105 (by rfl)) rfl rfl
theorem r105_58 : runs cal 105 58 [vR 20] [vI x0, vR 20] I = runs cal 105 59 [vR 20] [vR 20, vI x0, vR 20] I := runs_to (ins_of mI_105 (by rfl)) rfl rfl
theorem r105_59 : runs cal 105 59 [v0] [vR 20, vI x1, vR 20] I = runs cal 105 62 [v0] [vR 18, vI x1, vR 20] I := st_getR (ins_of mI_105 (by rfl)) mC_105 (by decide) fr_9_9 cT_20 (wdc wid_105 wd_20) rfl rfl
theorem r105_62 : runs cal 105 62 [vR 20] [vR 18, vI x1, vR 20] I = runs cal 105 63 [vR 20] [vR 20, vR 18, vI x1, vR 20] I := runs_to (ins_of mI_105 (by rfl)) rfl rfl
theorem r105_63 : runs cal 105 63 [v0] [vR 20, vR 18, vI x2, vR 20] I = runs cal 105 66 [v0] [vI (I 20 1), vR 18, vI x2, vR 20] I := st_getI (ins_of mI_105 (by rfl)) mC_105 (by decide) fr_9_15 cT_20 (wdc wid_105 wd_20) (Or.inl rfl)
theorem r105_66 : runs cal 105 66 [v0] [vI x0, vR 18, vI x2, vR 20] I = (cal 97 [vR 18, vI x0] I).bind (fun q => runs cal 105 69 [v0] (pushR q.1 [vI x2, vR 20]) q.2) := st_call (st := false) (ins_of mI_105 (by rfl)) mC_105 mr_9_94 (by decide) mS_97 mN_97 rfl (Nat.le_of_ble_eq_true rfl) rfl rfl (Or.inr ⟨_, _, rfl, rcv mC_97 rfl wid_105 (by decide +kernel)⟩) (Or.inl (wid_105.trans wid_97.symm))
theorem r105_69 : runs cal 105 69 [v0] [vI x0, vI x1, vR 20] I = runs cal 105 70 [v0] [vI (iadd x1 x0), vR 20] I := runs_to (ins_of mI_105 (by rfl)) rfl rfl
theorem r105_70 : runs cal 105 70 [v0] [vI x0, vR 20] I = runs cal 105 72 [v0] [vI (48), vI x0, vR 20] I := runs_to (ins_of mI_105 (by rfl)) rfl rfl
theorem r105_72 : runs cal 105 72 [v0] [vI x0, vI x1, vR 20] I = runs cal 105 73 [v0] [vI (isub x1 x0), vR 20] I := runs_to (ins_of mI_105 (by rfl)) rfl rfl
theorem r105_73 : runs cal 105 73 [v0] [vI x0, vR 20] I = runs cal 105 77 [v0] [vI x0, vR 20] I := st_goto (ins_of mI_105 (by rfl)) (by decide)
theorem r105_76 : runs cal 105 76 [v0] [vR 20] I = runs cal 105 77 [v0] [vI (-1), vR 20] I := runs_to (ins_of mI_105 (by rfl)) rfl rfl
theorem r105_77 : runs cal 105 77 [v0] [vI x0, vR 20] I = runs cal 105 80 [v0] [] (mset I 20 4 x0) := st_putI (ins_of mI_105 (by rfl)) mC_105 fr_9_85 cT_20 (wdc wid_105 wd_20) rfl
theorem r105_80 : runs cal 105 80 [vR 20] [] I = runs cal 105 81 [vR 20] [vR 20] I := runs_to (ins_of mI_105 (by rfl)) rfl rfl
theorem r105_81 : runs cal 105 81 [v0] [vR 20] I = runs cal 105 82 [v0] [vR 20, vR 20] I := runs_to (ins_of mI_105 (by rfl)) rfl rfl
theorem r105_82 : runs cal 105 82 [v0] [vR 20, vR 20] I = runs cal 105 85 [v0] [vI (I 20 1), vR 20] I := st_getI (ins_of mI_105 (by rfl)) mC_105 (by decide) fr_9_15 cT_20 (wdc wid_105 wd_20) (Or.inl rfl)
theorem r105_85 : runs cal 105 85 [v0] [vI x0, vR 20] I = runs cal 105 86 [v0] [vI (1), vI x0, vR 20] I := runs_to (ins_of mI_105 (by rfl)) rfl rfl
theorem r105_86 : runs cal 105 86 [v0] [vI x0, vI x1, vR 20] I = runs cal 105 87 [v0] [vI (iadd x1 x0), vR 20] I := runs_to (ins_of mI_105 (by rfl)) rfl rfl
theorem r105_87 : runs cal 105 87 [v0] [vI x0, vR 20] I = runs cal 105 90 [v0] [] (mset I 20 1 x0) := st_putI (ins_of mI_105 (by rfl)) mC_105 fr_9_15 cT_20 (wdc wid_105 wd_20) rfl
theorem r105_90 : runs cal 105 90 [v0] [] I = runs cal 105 5 [v0] [] I := st_goto (ins_of mI_105 (by rfl)) (by decide)
theorem r105_93 : runs cal 105 93 [v0] [] I = some (none, I) := st_ret (q := none) (k := 3) (ins_of mI_105 (by rfl)) rfl (by decide) mR_105 rfl trivial
theorem r106_0 : runs cal 106 0 [vR 20, v1, v2] [] I = runs cal 106 1 [vR 20, v1, v2] [vR 20] I := runs_to (ins_of mI_106 (by rfl)) rfl rfl
theorem r106_1 : runs cal 106 1 [v0, v1, v2] [vR 20] I = runs cal 106 4 [v0, v1, v2] [vI (I 20 2)] I := st_getI (ins_of mI_106 (by rfl)) mC_106 (by decide) fr_9_33 cT_20 (wdc wid_106 wd_20) (Or.inl rfl)
theorem r106_4 : runs cal 106 4 [v0, v1, v2] [vI x0] I = runs cal 106 5 [v0, v1, v2] [vI (1), vI x0] I := runs_to (ins_of mI_106 (by rfl)) rfl rfl
theorem r106_5 : runs cal 106 5 [v0, v1, v2] [vI x0, vI x1] I = if x1 = x0 then runs cal 106 8 [v0, v1, v2] [] I else runs cal 106 24 [v0, v1, v2] [] I := st_cmp_ne (ins_of mI_106 (by rfl)) (by decide)
theorem r106_8 : runs cal 106 8 [vR 20, v1, v2] [] I = runs cal 106 9 [vR 20, v1, v2] [vR 20] I := runs_to (ins_of mI_106 (by rfl)) rfl rfl
theorem r106_9 : runs cal 106 9 [v0, v1, v2] [vR 20] I = runs cal 106 12 [v0, v1, v2] [vI (I 20 1)] I := st_getI (ins_of mI_106 (by rfl)) mC_106 (by decide) fr_9_15 cT_20 (wdc wid_106 wd_20) (Or.inl rfl)
theorem r106_12 : runs cal 106 12 [vR 20, v1, v2] [vI x0] I = runs cal 106 13 [vR 20, v1, v2] [vR 20, vI x0] I := runs_to (ins_of mI_106 (by rfl)) rfl rfl
theorem r106_13 : runs cal 106 13 [v0, v1, v2] [vR 20, vI x1] I = runs cal 106 16 [v0, v1, v2] [vI (I 20 3), vI x1] I := st_getI (ins_of mI_106 (by rfl)) mC_106 (by decide) fr_9_88 cT_20 (wdc wid_106 wd_20) (Or.inl rfl)
theorem r106_16 : runs cal 106 16 [v0, v1, v2] [vI x0, vI x1] I = runs cal 106 17 [v0, v1, v2] [vI (isub x1 x0)] I := runs_to (ins_of mI_106 (by rfl)) rfl rfl
theorem r106_17 : runs cal 106 17 [v0, vR 89, v2] [vI x0] I = runs cal 106 18 [v0, vR 89, v2] [vR 89, vI x0] I := runs_to (ins_of mI_106 (by rfl)) rfl rfl
theorem r106_18 : runs cal 106 18 [v0, v1, v2] [vR 89, vI x1] I = (cal 266 [vR 89] I).bind (fun q => runs cal 106 21 [v0, v1, v2] (pushR q.1 [vI x1]) q.2) := st_call (st := false) (ins_of mI_106 (by rfl)) mC_106 mr_9_108 (by decide) mS_266 mN_266 rfl (Nat.le_of_ble_eq_true rfl) rfl rfl (Or.inr ⟨_, _, rfl, rcv mC_266 rfl wid_106 rfl⟩) (Or.inl (wid_106.trans wid_266.symm))
theorem r106_21 : runs cal 106 21 [v0, v1, v2] [vI x0, vI x1] I = if x1 = x0 then runs cal 106 26 [v0, v1, v2] [] I else runs cal 106 24 [v0, v1, v2] [] I := st_cmp_eq (ins_of mI_106 (by rfl)) (by decide)
theorem r106_24 : runs cal 106 24 [v0, v1, v2] [] I = runs cal 106 25 [v0, v1, v2] [vI (0)] I := runs_to (ins_of mI_106 (by rfl)) rfl rfl
theorem r106_25 : runs cal 106 25 [v0, v1, v2] [vI x0] I = if x0 = 0 ∨ x0 = 1 then some (some (vI x0), I) else none := st_retZ (ins_of mI_106 (by rfl)) mR_106 (Or.inl rfl)
theorem r106_26 : runs cal 106 26 [v0, v1, v2] [] I = runs cal 106 27 [v0, v1, v2] [vI (0)] I := runs_to (ins_of mI_106 (by rfl)) rfl rfl
theorem r106_27 : runs cal 106 27 [v0, vR b0, v2] [vI x0] I = runs cal 106 28 [v0, vR b0, vI x0] [] I := runs_to (ins_of mI_106 (by rfl)) rfl rfl
theorem r106_28 : runs cal 106 28 [v0, v1, vI w] [] I = runs cal 106 29 [v0, v1, vI w] [vI w] I := runs_to (ins_of mI_106 (by rfl)) rfl rfl
theorem r106_29 : runs cal 106 29 [v0, vR 89, v2] [vI x0] I = runs cal 106 30 [v0, vR 89, v2] [vR 89, vI x0] I := runs_to (ins_of mI_106 (by rfl)) rfl rfl
theorem r106_30 : runs cal 106 30 [v0, v1, v2] [vR 89, vI x1] I = (cal 266 [vR 89] I).bind (fun q => runs cal 106 33 [v0, v1, v2] (pushR q.1 [vI x1]) q.2) := st_call (st := false) (ins_of mI_106 (by rfl)) mC_106 mr_9_108 (by decide) mS_266 mN_266 rfl (Nat.le_of_ble_eq_true rfl) rfl rfl (Or.inr ⟨_, _, rfl, rcv mC_266 rfl wid_106 rfl⟩) (Or.inl (wid_106.trans wid_266.symm))
theorem r106_33 : runs cal 106 33 [v0, v1, v2] [vI x0, vI x1] I = if x1 < x0 then runs cal 106 36 [v0, v1, v2] [] I else runs cal 106 65 [v0, v1, v2] [] I := st_cmp_ge (ins_of mI_106 (by rfl)) (by decide)
theorem r106_36 : runs cal 106 36 [vR 20, v1, v2] [] I = runs cal 106 37 [vR 20, v1, v2] [vR 20] I := runs_to (ins_of mI_106 (by rfl)) rfl rfl
theorem r106_37 : runs cal 106 37 [v0, v1, v2] [vR 20] I = runs cal 106 40 [v0, v1, v2] [vR 18] I := st_getR (ins_of mI_106 (by rfl)) mC_106 (by decide) fr_9_9 cT_20 (wdc wid_106 wd_20) rfl rfl
theorem r106_40 : runs cal 106 40 [vR 20, v1, v2] [vR 18] I = runs cal 106 41 [vR 20, v1, v2] [vR 20, vR 18] I := runs_to (ins_of mI_106 (by rfl)) rfl rfl
theorem r106_41 : runs cal 106 41 [v0, v1, v2] [vR 20, vR 18] I = runs cal 106 44 [v0, v1, v2] [vI (I 20 3), vR 18] I := st_getI (ins_of mI_106 (by rfl)) mC_106 (by decide) fr_9_88 cT_20 (wdc wid_106 wd_20) (Or.inl rfl)
theorem r106_44 : runs cal 106 44 [v0, v1, vI w] [vI x0, vR 18] I = runs cal 106 45 [v0, v1, vI w] [vI w, vI x0, vR 18] I := runs_to (ins_of mI_106 (by rfl)) rfl rfl
theorem r106_45 : runs cal 106 45 [v0, v1, v2] [vI x0, vI x1, vR 18] I = runs cal 106 46 [v0, v1, v2] [vI (iadd x1 x0), vR 18] I := runs_to (ins_of mI_106 (by rfl)) rfl rfl
theorem r106_46 : runs cal 106 46 [v0, v1, v2] [vI x0, vR 18] I = (cal 97 [vR 18, vI x0] I).bind (fun q => runs cal 106 49 [v0, v1, v2] (pushR q.1 []) q.2) := st_call (st := false) (ins_of mI_106 (by rfl)) mC_106 mr_9_94 (by decide) mS_97 mN_97 rfl (Nat.le_of_ble_eq_true rfl) rfl rfl (Or.inr ⟨_, _, rfl, rcv mC_97 rfl wid_106 (by decide +kernel)⟩) (Or.inl (wid_106.trans wid_97.symm))
theorem r106_49 : runs cal 106 49 [v0, vR 89, v2] [vI x0] I = runs cal 106 50 [v0, vR 89, v2] [vR 89, vI x0] I := runs_to (ins_of mI_106 (by rfl)) rfl rfl
theorem r106_50 : runs cal 106 50 [v0, v1, vI w] [vR 89, vI x1] I = runs cal 106 51 [v0, v1, vI w] [vI w, vR 89, vI x1] I := runs_to (ins_of mI_106 (by rfl)) rfl rfl
theorem r106_51 : runs cal 106 51 [v0, v1, v2] [vI x0, vR 89, vI x2] I = (cal 267 [vR 89, vI x0] I).bind (fun q => runs cal 106 54 [v0, v1, v2] (pushR q.1 [vI x2]) q.2) := st_call (st := false) (ins_of mI_106 (by rfl)) mC_106 mr_9_114 (by decide) mS_267 mN_267 rfl (Nat.le_of_ble_eq_true rfl) rfl rfl (Or.inr ⟨_, _, rfl, rcv mC_267 rfl wid_106 rfl⟩) (Or.inl (wid_106.trans wid_267.symm))
theorem r106_54 : runs cal 106 54 [v0, v1, v2] [vI x0, vI x1] I = if x1 = x0 then runs cal 106 59 [v0, v1, v2] [] I else runs cal 106 57 [v0, v1, v2] [] I := st_cmp_eq (ins_of mI_106 (by rfl)) (by decide)
theorem r106_57 : runs cal 106 57 [v0, v1, v2] [] I = runs cal 106 58 [v0, v1, v2] [vI (0)] I := runs_to (ins_of mI_106 (by rfl)) rfl rfl
theorem r106_58 : runs cal 106 58 [v0, v1, v2] [vI x0] I = if x0 = 0 ∨ x0 = 1 then some (some (vI x0), I) else none := st_retZ (ins_of mI_106 (by rfl)) mR_106 (Or.inl rfl)
theorem r106_59 : runs cal 106 59 [v0, vR b0, vI w] [] I = runs cal 106 62 [v0, vR b0, vI (iadd w (1))] [] I := runs_to (ins_of mI_106 (by rfl)) rfl rfl
theorem r106_62 : runs cal 106 62 [v0, v1, v2] [] I = runs cal 106 28 [v0, v1, v2] [] I := st_goto (ins_of mI_106 (by rfl)) (by decide)
theorem r106_65 : runs cal 106 65 [v0, v1, v2] [] I = runs cal 106 66 [v0, v1, v2] [vI (1)] I := runs_to (ins_of mI_106 (by rfl)) rfl rfl
theorem r106_66 : runs cal 106 66 [v0, v1, v2] [vI x0] I = if x0 = 0 ∨ x0 = 1 then some (some (vI x0), I) else none := st_retZ (ins_of mI_106 (by rfl)) mR_106 (Or.inl rfl)
theorem r106_17a : runs cal 106 17 [v0, vR 90, v2] [vI x0] I = runs cal 106 18 [v0, vR 90, v2] [vR 90, vI x0] I := runs_to (ins_of mI_106 (by rfl)) rfl rfl
theorem r106_18a : runs cal 106 18 [v0, v1, v2] [vR 90, vI x1] I = (cal 266 [vR 90] I).bind (fun q => runs cal 106 21 [v0, v1, v2] (pushR q.1 [vI x1]) q.2) := st_call (st := false) (ins_of mI_106 (by rfl)) mC_106 mr_9_108 (by decide) mS_266 mN_266 rfl (Nat.le_of_ble_eq_true rfl) rfl rfl (Or.inr ⟨_, _, rfl, rcv mC_266 rfl wid_106 rfl⟩) (Or.inl (wid_106.trans wid_266.symm))
theorem r106_29a : runs cal 106 29 [v0, vR 90, v2] [vI x0] I = runs cal 106 30 [v0, vR 90, v2] [vR 90, vI x0] I := runs_to (ins_of mI_106 (by rfl)) rfl rfl
theorem r106_30a : runs cal 106 30 [v0, v1, v2] [vR 90, vI x1] I = (cal 266 [vR 90] I).bind (fun q => runs cal 106 33 [v0, v1, v2] (pushR q.1 [vI x1]) q.2) := st_call (st := false) (ins_of mI_106 (by rfl)) mC_106 mr_9_108 (by decide) mS_266 mN_266 rfl (Nat.le_of_ble_eq_true rfl) rfl rfl (Or.inr ⟨_, _, rfl, rcv mC_266 rfl wid_106 rfl⟩) (Or.inl (wid_106.trans wid_266.symm))
theorem r106_49a : runs cal 106 49 [v0, vR 90, v2] [vI x0] I = runs cal 106 50 [v0, vR 90, v2] [vR 90, vI x0] I := runs_to (ins_of mI_106 (by rfl)) rfl rfl
theorem r106_50a : runs cal 106 50 [v0, v1, vI w] [vR 90, vI x1] I = runs cal 106 51 [v0, v1, vI w] [vI w, vR 90, vI x1] I := runs_to (ins_of mI_106 (by rfl)) rfl rfl
theorem r106_51a : runs cal 106 51 [v0, v1, v2] [vI x0, vR 90, vI x2] I = (cal 267 [vR 90, vI x0] I).bind (fun q => runs cal 106 54 [v0, v1, v2] (pushR q.1 [vI x2]) q.2) := st_call (st := false) (ins_of mI_106 (by rfl)) mC_106 mr_9_114 (by decide) mS_267 mN_267 rfl (Nat.le_of_ble_eq_true rfl) rfl rfl (Or.inr ⟨_, _, rfl, rcv mC_267 rfl wid_106 rfl⟩) (Or.inl (wid_106.trans wid_267.symm))
theorem r106_17b : runs cal 106 17 [v0, vR 91, v2] [vI x0] I = runs cal 106 18 [v0, vR 91, v2] [vR 91, vI x0] I := runs_to (ins_of mI_106 (by rfl)) rfl rfl
theorem r106_18b : runs cal 106 18 [v0, v1, v2] [vR 91, vI x1] I = (cal 266 [vR 91] I).bind (fun q => runs cal 106 21 [v0, v1, v2] (pushR q.1 [vI x1]) q.2) := st_call (st := false) (ins_of mI_106 (by rfl)) mC_106 mr_9_108 (by decide) mS_266 mN_266 rfl (Nat.le_of_ble_eq_true rfl) rfl rfl (Or.inr ⟨_, _, rfl, rcv mC_266 rfl wid_106 rfl⟩) (Or.inl (wid_106.trans wid_266.symm))
theorem r106_29b : runs cal 106 29 [v0, vR 91, v2] [vI x0] I = runs cal 106 30 [v0, vR 91, v2] [vR 91, vI x0] I := runs_to (ins_of mI_106 (by rfl)) rfl rfl
theorem r106_30b : runs cal 106 30 [v0, v1, v2] [vR 91, vI x1] I = (cal 266 [vR 91] I).bind (fun q => runs cal 106 33 [v0, v1, v2] (pushR q.1 [vI x1]) q.2) := st_call (st := false) (ins_of mI_106 (by rfl)) mC_106 mr_9_108 (by decide) mS_266 mN_266 rfl (Nat.le_of_ble_eq_true rfl) rfl rfl (Or.inr ⟨_, _, rfl, rcv mC_266 rfl wid_106 rfl⟩) (Or.inl (wid_106.trans wid_266.symm))
theorem r106_49b : runs cal 106 49 [v0, vR 91, v2] [vI x0] I = runs cal 106 50 [v0, vR 91, v2] [vR 91, vI x0] I := runs_to (ins_of mI_106 (by rfl)) rfl rfl
theorem r106_50b : runs cal 106 50 [v0, v1, vI w] [vR 91, vI x1] I = runs cal 106 51 [v0, v1, vI w] [vI w, vR 91, vI x1] I := runs_to (ins_of mI_106 (by rfl)) rfl rfl
theorem r106_51b : runs cal 106 51 [v0, v1, v2] [vI x0, vR 91, vI x2] I = (cal 267 [vR 91, vI x0] I).bind (fun q => runs cal 106 54 [v0, v1, v2] (pushR q.1 [vI x2]) q.2) := st_call (st := false) (ins_of mI_106 (by rfl)) mC_106 mr_9_114 (by decide) mS_267 mN_267 rfl (Nat.le_of_ble_eq_true rfl) rfl rfl (Or.inr ⟨_, _, rfl, rcv mC_267 rfl wid_106 rfl⟩) (Or.inl (wid_106.trans wid_267.symm))
theorem r106_17c : runs cal 106 17 [v0, vR 92, v2] [vI x0] I = runs cal 106 18 [v0, vR 92, v2] [vR 92, vI x0] I := runs_to (ins_of mI_106 (by rfl)) rfl rfl
theorem r106_18c : runs cal 106 18 [v0, v1, v2] [vR 92, vI x1] I = (cal 266 [vR 92] I).bind (fun q => runs cal 106 21 [v0, v1, v2] (pushR q.1 [vI x1]) q.2) := st_call (st := false) (ins_of mI_106 (by rfl)) mC_106 mr_9_108 (by decide) mS_266 mN_266 rfl (Nat.le_of_ble_eq_true rfl) rfl rfl (Or.inr ⟨_, _, rfl, rcv mC_266 rfl wid_106 rfl⟩) (Or.inl (wid_106.trans wid_266.symm))
theorem r106_29c : runs cal 106 29 [v0, vR 92, v2] [vI x0] I = runs cal 106 30 [v0, vR 92, v2] [vR 92, vI x0] I := runs_to (ins_of mI_106 (by rfl)) rfl rfl
theorem r106_30c : runs cal 106 30 [v0, v1, v2] [vR 92, vI x1] I = (cal 266 [vR 92] I).bind (fun q => runs cal 106 33 [v0, v1, v2] (pushR q.1 [vI x1]) q.2) := st_call (st := false) (ins_of mI_106 (by rfl)) mC_106 mr_9_108 (by decide) mS_266 mN_266 rfl (Nat.le_of_ble_eq_true rfl) rfl rfl (Or.inr ⟨_, _, rfl, rcv mC_266 rfl wid_106 rfl⟩) (Or.inl (wid_106.trans wid_266.symm))
theorem r106_49c : runs cal 106 49 [v0, vR 92, v2] [vI x0] I = runs cal 106 50 [v0, vR 92, v2] [vR 92, vI x0] I := runs_to (ins_of mI_106 (by rfl)) rfl rfl
theorem r106_50c : runs cal 106 50 [v0, v1, vI w] [vR 92, vI x1] I = runs cal 106 51 [v0, v1, vI w] [vI w, vR 92, vI x1] I := runs_to (ins_of mI_106 (by rfl)) rfl rfl
theorem r106_51c : runs cal 106 51 [v0, v1, v2] [vI x0, vR 92, vI x2] I = (cal 267 [vR 92, vI x0] I).bind (fun q => runs cal 106 54 [v0, v1, v2] (pushR q.1 [vI x2]) q.2) := st_call (st := false) (ins_of mI_106 (by rfl)) mC_106 mr_9_114 (by decide) mS_267 mN_267 rfl (Nat.le_of_ble_eq_true rfl) rfl rfl (Or.inr ⟨_, _, rfl, rcv mC_267 rfl wid_106 rfl⟩) (Or.inl (wid_106.trans wid_267.symm))
theorem r107_0 : runs cal 107 0 [v0, vI w] [] I = runs cal 107 1 [v0, vI w] [vI w] I := runs_to (ins_of mI_107 (by rfl)) rfl rfl
theorem r107_1 : runs cal 107 1 [v0, v1] [vI x0] I = runs cal 107 3 [v0, v1] [vI (97), vI x0] I := runs_to (ins_of mI_107 (by rfl)) rfl rfl
theorem r107_3 : runs cal 107 3 [v0, v1] [vI x0, vI x1] I = if x1 < x0 then runs cal 107 16 [v0, v1] [] I else runs cal 107 6 [v0, v1] [] I := st_cmp_lt (ins_of mI_107 (by rfl)) (by decide)
theorem r107_6 : runs cal 107 6 [v0, vI w] [] I = runs cal 107 7 [v0, vI w] [vI w] I := runs_to (ins_of mI_107 (by rfl)) rfl rfl
theorem r107_7 : runs cal 107 7 [v0, v1] [vI x0] I = runs cal 107 9 [v0, v1] [vI (122), vI x0] I := runs_to (ins_of mI_107 (by rfl)) rfl rfl
theorem r107_9 : runs cal 107 9 [v0, v1] [vI x0, vI x1] I = if x0 < x1 then runs cal 107 16 [v0, v1] [] I else runs cal 107 12 [v0, v1] [] I := st_cmp_gt (ins_of mI_107 (by rfl)) (by decide)
theorem r107_12 : runs cal 107 12 [v0, v1] [] I = runs cal 107 13 [v0, v1] [vI (1)] I := runs_to (ins_of mI_107 (by rfl)) rfl rfl
theorem r107_13 : runs cal 107 13 [v0, v1] [vI x0] I = runs cal 107 17 [v0, v1] [vI x0] I := st_goto (ins_of mI_107 (by rfl)) (by decide)
theorem r107_16 : runs cal 107 16 [v0, v1] [] I = runs cal 107 17 [v0, v1] [vI (0)] I := runs_to (ins_of mI_107 (by rfl)) rfl rfl
theorem r107_17 : runs cal 107 17 [v0, v1] [vI x0] I = if x0 = 0 ∨ x0 = 1 then some (some (vI x0), I) else none := st_retZ (ins_of mI_107 (by rfl)) mR_107 (Or.inl rfl)
theorem r108_0 : runs cal 108 0 [v0, vI w] [] I = runs cal 108 1 [v0, vI w] [vI w] I := runs_to (ins_of mI_108 (by rfl)) rfl rfl
theorem r108_1 : runs cal 108 1 [v0, v1] [vI x0] I = runs cal 108 3 [v0, v1] [vI (48), vI x0] I := runs_to (ins_of mI_108 (by rfl)) rfl rfl
theorem r108_3 : runs cal 108 3 [v0, v1] [vI x0, vI x1] I = if x1 < x0 then runs cal 108 16 [v0, v1] [] I else runs cal 108 6 [v0, v1] [] I := st_cmp_lt (ins_of mI_108 (by rfl)) (by decide)
theorem r108_6 : runs cal 108 6 [v0, vI w] [] I = runs cal 108 7 [v0, vI w] [vI w] I := runs_to (ins_of mI_108 (by rfl)) rfl rfl
theorem r108_7 : runs cal 108 7 [v0, v1] [vI x0] I = runs cal 108 9 [v0, v1] [vI (57), vI x0] I := runs_to (ins_of mI_108 (by rfl)) rfl rfl
theorem r108_9 : runs cal 108 9 [v0, v1] [vI x0, vI x1] I = if x0 < x1 then runs cal 108 16 [v0, v1] [] I else runs cal 108 12 [v0, v1] [] I := st_cmp_gt (ins_of mI_108 (by rfl)) (by decide)
theorem r108_12 : runs cal 108 12 [v0, v1] [] I = runs cal 108 13 [v0, v1] [vI (1)] I := runs_to (ins_of mI_108 (by rfl)) rfl rfl
theorem r108_13 : runs cal 108 13 [v0, v1] [vI x0] I = runs cal 108 17 [v0, v1] [vI x0] I := st_goto (ins_of mI_108 (by rfl)) (by decide)
theorem r108_16 : runs cal 108 16 [v0, v1] [] I = runs cal 108 17 [v0, v1] [vI (0)] I := runs_to (ins_of mI_108 (by rfl)) rfl rfl
theorem r108_17 : runs cal 108 17 [v0, v1] [vI x0] I = if x0 = 0 ∨ x0 = 1 then some (some (vI x0), I) else none := st_retZ (ins_of mI_108 (by rfl)) mR_108 (Or.inl rfl)
theorem r109_0 : runs cal 109 0 [v0, v1, v2, vI w, v4] [] I = runs cal 109 1 [v0, v1, v2, vI w, v4] [vI w] I := runs_to (ins_of mI_109 (by rfl)) rfl rfl
theorem r109_1 : runs cal 109 1 [v0, v1, v2, v3, v4] [vI x0] I = runs cal 109 2 [v0, v1, v2, v3, v4] [vI (1), vI x0] I := runs_to (ins_of mI_109 (by rfl)) rfl rfl
theorem r109_2 : runs cal 109 2 [v0, v1, v2, v3, v4] [vI x0, vI x1] I = if x1 < x0 then runs cal 109 11 [v0, v1, v2, v3, v4] [] I else runs cal 109 5 [v0, v1, v2, v3, v4] [] I := st_cmp_lt (ins_of mI_109 (by rfl)) (by decide)
theorem r109_5 : runs cal 109 5 [v0, v1, v2, vI w, v4] [] I = runs cal 109 6 [v0, v1, v2, vI w, v4] [vI w] I := runs_to (ins_of mI_109 (by rfl)) rfl rfl
theorem r109_6 : runs cal 109 6 [v0, v1, v2, v3, v4] [vI x0] I = runs cal 109 8 [v0, v1, v2, v3, v4] [vI (8), vI x0] I := runs_to (ins_of mI_109 (by rfl)) rfl rfl
theorem r109_8 : runs cal 109 8 [v0, v1, v2, v3, v4] [vI x0, vI x1] I = if x0 < x1 then runs cal 109 11 [v0, v1, v2, v3, v4] [] I else runs cal 109 20 [v0, v1, v2, v3, v4] [] I := st_cmp_le (ins_of mI_109 (by rfl)) (by decide)
theorem r109_11 : runs cal 109 11 [vR 1, v1, v2, v3, v4] [] I = runs cal 109 12 [vR 1, v1, v2, v3, v4] [vR 1] I := runs_to (ins_of mI_109 (by rfl)) rfl rfl
theorem r109_12 : runs cal 109 12 [v0, v1, v2, v3, v4] [vR 1] I = runs cal 109 14 [v0, v1, v2, v3, v4] [vI (-2), vR 1] I := runs_to (ins_of mI_109 (by rfl)) rfl rfl
theorem r109_14 : runs cal 109 14 [v0, v1, v2, v3, v4] [vI x0, vR 1] I = runs cal 109 16 [v0, v1, v2, v3, v4] [vI (-2), vI x0, vR 1] I := runs_to (ins_of mI_109 (by rfl)) rfl rfl
theorem r109_16 : runs cal 109 16 [v0, v1, v2, v3, v4] [vI x0, vI x1, vR 1] I = (cal 138 [vR 1, vI x1, vI x0] I).bind (fun q => runs cal 109 19 [v0, v1, v2, v3, v4] (pushR q.1 []) q.2) := st_call (st := false) (ins_of mI_109 (by rfl)) mC_109 mr_10_80 (by decide) mS_138 mN_138 rfl (Nat.le_of_ble_eq_true rfl) rfl rfl (Or.inr ⟨_, _, rfl, rcv mC_138 rfl wid_109 (by decide +kernel)⟩) (Or.inl (wid_109.trans wid_138.symm))
theorem r109_19 : runs cal 109 19 [v0, v1, v2, v3, v4] [vI x0] I = some (some (vI x0), I) := st_ret (q := some (vI x0)) (k := 0) (ins_of mI_109 (by rfl)) rfl (by decide) mR_109 rfl trivial
theorem r109_20 : runs cal 109 20 [vR 1, v1, v2, v3, v4] [] I = runs cal 109 21 [vR 1, v1, v2, v3, v4] [vR 1] I := runs_to (ins_of mI_109 (by rfl)) rfl rfl
theorem r109_21 : runs cal 109 21 [v0, v1, v2, v3, v4] [vR 1] I = runs cal 109 24 [v0, v1, v2, v3, v4] [vR 18] I := st_getR (ins_of mI_109 (by rfl)) mC_109 (by decide) fr_10_22 cT_1 (wdc wid_109 wd_1) rfl rfl
theorem r109_24 : runs cal 109 24 [v0, v1, v2, v3, v4] [vR 18] I = runs cal 109 27 [v0, v1, v2, v3, v4] [vI (I 18 1)] I := st_getI (ins_of mI_109 (by rfl)) mC_109 (by decide) fr_10_84 cT_18 (wdc wid_109 wd_18) (Or.inl rfl)
theorem r109_27 : runs cal 109 27 [v0, v1, v2, vI w, v4] [vI x0] I = runs cal 109 28 [v0, v1, v2, vI w, v4] [vI w, vI x0] I := runs_to (ins_of mI_109 (by rfl)) rfl rfl
theorem r109_28 : runs cal 109 28 [v0, v1, v2, v3, v4] [vI x0, vI x1] I = runs cal 109 29 [v0, v1, v2, v3, v4] [vI (iadd x1 x0)] I := runs_to (ins_of mI_109 (by rfl)) rfl rfl
theorem r109_29 : runs cal 109 29 [v0, v1, v2, v3, v4] [vI x0] I = runs cal 109 32 [v0, v1, v2, v3, v4] [vI (200), vI x0] I := runs_to (ins_of mI_109 (by rfl)) rfl rfl
theorem r109_32 : runs cal 109 32 [v0, v1, v2, v3, v4] [vI x0, vI x1] I = if x0 < x1 then runs cal 109 35 [v0, v1, v2, v3, v4] [] I else runs cal 109 44 [v0, v1, v2, v3, v4] [] I := st_cmp_le (ins_of mI_109 (by rfl)) (by decide)
theorem r109_35 : runs cal 109 35 [vR 1, v1, v2, v3, v4] [] I = runs cal 109 36 [vR 1, v1, v2, v3, v4] [vR 1] I := runs_to (ins_of mI_109 (by rfl)) rfl rfl
theorem r109_36 : runs cal 109 36 [v0, v1, v2, v3, v4] [vR 1] I = runs cal 109 38 [v0, v1, v2, v3, v4] [vI (-4), vR 1] I := runs_to (ins_of mI_109 (by rfl)) rfl rfl
theorem r109_38 : runs cal 109 38 [v0, v1, v2, v3, v4] [vI x0, vR 1] I = runs cal 109 40 [v0, v1, v2, v3, v4] [vI (-4), vI x0, vR 1] I := runs_to (ins_of mI_109 (by rfl)) rfl rfl
theorem r109_40 : runs cal 109 40 [v0, v1, v2, v3, v4] [vI x0, vI x1, vR 1] I = (cal 138 [vR 1, vI x1, vI x0] I).bind (fun q => runs cal 109 43 [v0, v1, v2, v3, v4] (pushR q.1 []) q.2) := st_call (st := false) (ins_of mI_109 (by rfl)) mC_109 mr_10_80 (by decide) mS_138 mN_138 rfl (Nat.le_of_ble_eq_true rfl) rfl rfl (Or.inr ⟨_, _, rfl, rcv mC_138 rfl wid_109 (by decide +kernel)⟩) (Or.inl (wid_109.trans wid_138.symm))
theorem r109_43 : runs cal 109 43 [v0, v1, v2, v3, v4] [vI x0] I = some (some (vI x0), I) := st_ret (q := some (vI x0)) (k := 0) (ins_of mI_109 (by rfl)) rfl (by decide) mR_109 rfl trivial
theorem r109_44 : runs cal 109 44 [v0, v1, v2, vI w, v4] [] I = runs cal 109 45 [v0, v1, v2, vI w, v4] [vI w] I := runs_to (ins_of mI_109 (by rfl)) rfl rfl
theorem r109_45 : runs cal 109 45 [v0, v1, v2, v3, v4] [vI x0] I = runs cal 109 46 [v0, v1, v2, v3, v4] [vI (1), vI x0] I := runs_to (ins_of mI_109 (by rfl)) rfl rfl
theorem r109_46 : runs cal 109 46 [v0, v1, v2, v3, v4] [vI x0, vI x1] I = runs cal 109 47 [v0, v1, v2, v3, v4] [vI (isub x1 x0)] I := runs_to (ins_of mI_109 (by rfl)) rfl rfl
theorem r109_47 : runs cal 109 47 [v0, v1, v2, vI u, v4] [vI x0] I = runs cal 109 49 [v0, v1, v2, vI u, vI x0] [] I := runs_to (ins_of mI_109 (by rfl)) rfl rfl
theorem r109_49 : runs cal 109 49 [v0, v1, v2, v3, vI w] [] I = runs cal 109 51 [v0, v1, v2, v3, vI w] [vI w] I := runs_to (ins_of mI_109 (by rfl)) rfl rfl
theorem r109_51 : runs cal 109 51 [v0, v1, v2, v3, v4] [vI x0] I = if x0 < 0 then runs cal 109 79 [v0, v1, v2, v3, v4] [] I else runs cal 109 54 [v0, v1, v2, v3, v4] [] I := st_if_lt (ins_of mI_109 (by rfl)) (by decide)
theorem r109_54 : runs cal 109 54 [vR 1, v1, v2, v3, v4] [] I = runs cal 109 55 [vR 1, v1, v2, v3, v4] [vR 1] I := runs_to (ins_of mI_109 (by rfl)) rfl rfl
theorem r109_55 : runs cal 109 55 [v0, v1, v2, v3, v4] [vR 1] I = runs cal 109 58 [v0, v1, v2, v3, v4] [vR 18] I := st_getR (ins_of mI_109 (by rfl)) mC_109 (by decide) fr_10_22 cT_1 (wdc wid_109 wd_1) rfl rfl
theorem r109_58 : runs cal 109 58 [v0, vL w, v2, v3, v4] [vR 18] I = runs cal 109 59 [v0, vL w, v2, v3, v4] [vL w, vR 18] I := runs_to (ins_of mI_109 (by rfl)) rfl rfl
theorem r109_59 : runs cal 109 59 [v0, v1, v2, v3, v4] [vL x0, vR 18] I = runs cal 109 61 [v0, v1, v2, v3, v4] [vI (8), vL x0, vR 18] I := runs_to (ins_of mI_109 (by rfl)) rfl rfl
theorem r109_61 : runs cal 109 61 [v0, v1, v2, v3, vI w] [vI x0, vL x1, vR 18] I = runs cal 109 63 [v0, v1, v2, v3, vI w] [vI w, vI x0, vL x1, vR 18] I := runs_to (ins_of mI_109 (by rfl)) rfl rfl
theorem r109_63 : runs cal 109 63 [v0, v1, v2, v3, v4] [vI x0, vI x1, vL x2, vR 18] I = runs cal 109 64 [v0, v1, v2, v3, v4] [vI (imul x1 x0), vL x2, vR 18] I := runs_to (ins_of mI_109 (by rfl)) rfl rfl
theorem r109_64 : runs cal 109 64 [v0, v1, v2, v3, v4] [vI x0, vL x1, vR 18] I = runs cal 109 65 [v0, v1, v2, v3, v4] [vL (lushr x1 x0), vR 18] I := runs_to (ins_of mI_109 (by rfl)) rfl rfl
theorem r109_65 : runs cal 109 65 [v0, v1, v2, v3, v4] [vL x0, vR 18] I = runs cal 109 66 [v0, v1, v2, v3, v4] [vI (l2i x0), vR 18] I := runs_to (ins_of mI_109 (by rfl)) rfl rfl
theorem r109_66 : runs cal 109 66 [v0, v1, v2, v3, v4] [vI x0, vR 18] I = runs cal 109 69 [v0, v1, v2, v3, v4] [vI (255), vI x0, vR 18] I := runs_to (ins_of mI_109 (by rfl)) rfl rfl
theorem r109_69 : runs cal 109 69 [v0, v1, v2, v3, v4] [vI x0, vI x1, vR 18] I = runs cal 109 70 [v0, v1, v2, v3, v4] [vI (iand x1 x0), vR 18] I := runs_to (ins_of mI_109 (by rfl)) rfl rfl
theorem r109_70 : runs cal 109 70 [v0, v1, v2, v3, v4] [vI x0, vR 18] I = (cal 96 [vR 18, vI x0] I).bind (fun q => runs cal 109 73 [v0, v1, v2, v3, v4] (pushR q.1 []) q.2) := st_call (st := false) (ins_of mI_109 (by rfl)) mC_109 mr_10_88 (by decide) mS_96 mN_96 rfl (Nat.le_of_ble_eq_true rfl) rfl rfl (Or.inr ⟨_, _, rfl, rcv mC_96 rfl wid_109 (by decide +kernel)⟩) (Or.inl (wid_109.trans wid_96.symm))
theorem r109_73 : runs cal 109 73 [v0, v1, v2, vI u, vI w] [] I = runs cal 109 76 [v0, v1, v2, vI u, vI (iadd w (-1))] [] I := runs_to (ins_of mI_109 (by rfl)) rfl rfl
theorem r109_76 : runs cal 109 76 [v0, v1, v2, v3, v4] [] I = runs cal 109 49 [v0, v1, v2, v3, v4] [] I := st_goto (ins_of mI_109 (by rfl)) (by decide)
theorem r109_79 : runs cal 109 79 [vR 1, v1, v2, v3, v4] [] I = runs cal 109 80 [vR 1, v1, v2, v3, v4] [vR 1] I := runs_to (ins_of mI_109 (by rfl)) rfl rfl
theorem r109_80 : runs cal 109 80 [v0, v1, v2, v3, v4] [vR 1] I = runs cal 109 83 [v0, v1, v2, v3, v4] [vR 18] I := st_getR (ins_of mI_109 (by rfl)) mC_109 (by decide) fr_10_22 cT_1 (wdc wid_109 wd_1) rfl rfl
theorem r109_83 : runs cal 109 83 [v0, v1, v2, v3, v4] [vR 18] I = runs cal 109 86 [v0, v1, v2, v3, v4] [vI (I 18 1)] I := st_getI (ins_of mI_109 (by rfl)) mC_109 (by decide) fr_10_84 cT_18 (wdc wid_109 wd_18) (Or.inl rfl)
theorem r109_86 : runs cal 109 86 [v0, v1, v2, v3, v4] [vI x0] I = some (some (vI x0), I) := st_ret (q := some (vI x0)) (k := 0) (ins_of mI_109 (by rfl)) rfl (by decide) mR_109 rfl trivial
theorem r110_0 : runs cal 110 0 [vR 1, v1] [] I = runs cal 110 1 [vR 1, v1] [vR 1] I := runs_to (ins_of mI_110 (by rfl)) rfl rfl
theorem r110_1 : runs cal 110 1 [v0, v1] [vR 1] I = runs cal 110 4 [v0, v1] [vR 18] I := st_getR (ins_of mI_110 (by rfl)) mC_110 (by decide) fr_10_22 cT_1 (wdc wid_110 wd_1) rfl rfl
theorem r110_4 : runs cal 110 4 [v0, v1] [vR 18] I = runs cal 110 7 [v0, v1] [vI (I 18 1)] I := st_getI (ins_of mI_110 (by rfl)) mC_110 (by decide) fr_10_84 cT_18 (wdc wid_110 wd_18) (Or.inl rfl)
theorem r110_7 : runs cal 110 7 [vR b0, v1] [vI x0] I = runs cal 110 8 [vR b0, vI x0] [] I := runs_to (ins_of mI_110 (by rfl)) rfl rfl
theorem r110_8 : runs cal 110 8 [vR 1, v1] [] I = runs cal 110 9 [vR 1, v1] [vR 1] I := runs_to (ins_of mI_110 (by rfl)) rfl rfl
theorem r110_9 : runs cal 110 9 [v0, v1] [vR 1] I = runs cal 110 12 [v0, v1] [vR 18] I := st_getR (ins_of mI_110 (by rfl)) mC_110 (by decide) fr_10_22 cT_1 (wdc wid_110 wd_1) rfl rfl
theorem r110_12 : runs cal 110 12 [v0, v1] [vR 18] I = runs cal 110 13 [v0, v1] [vI (0), vR 18] I := runs_to (ins_of mI_110 (by rfl)) rfl rfl
theorem r110_13 : runs cal 110 13 [v0, v1] [vI x0, vR 18] I = runs cal 110 16 [v0, v1] [] (mset I 18 1 x0) := st_putI (ins_of mI_110 (by rfl)) mC_110 fr_10_84 cT_18 (wdc wid_110 wd_18) rfl
theorem r110_16 : runs cal 110 16 [v0, vI w] [] I = runs cal 110 17 [v0, vI w] [vI w] I := runs_to (ins_of mI_110 (by rfl)) rfl rfl
theorem r110_17 : runs cal 110 17 [v0, v1] [vI x0] I = some (some (vI x0), I) := st_ret (q := some (vI x0)) (k := 0) (ins_of mI_110 (by rfl)) rfl (by decide) mR_110 rfl trivial
theorem r111_0 : runs cal 111 0 [vR 1, v1] [] I = runs cal 111 1 [vR 1, v1] [vR 1] I := runs_to (ins_of mI_111 (by rfl)) rfl rfl
theorem r111_1 : runs cal 111 1 [v0, v1] [vR 1] I = runs cal 111 4 [v0, v1] [vR 20] I := st_getR (ins_of mI_111 (by rfl)) mC_111 (by decide) fr_10_31 cT_1 (wdc wid_111 wd_1) rfl rfl
theorem r111_4 : runs cal 111 4 [vR 1, v1] [vR 20] I = runs cal 111 5 [vR 1, v1] [vR 1, vR 20] I := runs_to (ins_of mI_111 (by rfl)) rfl rfl
theorem r111_5 : runs cal 111 5 [v0, v1] [vR 1, vR 20] I = runs cal 111 8 [v0, v1] [vR 10, vR 20] I := st_getR (ins_of mI_111 (by rfl)) mC_111 (by decide) fr_10_16 cT_1 (wdc wid_111 wd_1) rfl rfl
theorem r111_8 : runs cal 111 8 [v0, v1] [vR 10, vR 20] I = (cal 98 [vR 20, vR 10] I).bind (fun q => runs cal 111 11 [v0, v1] (pushR q.1 []) q.2) := st_call (st := false) (ins_of mI_111 (by rfl)) mC_111 mr_10_92 (by decide) mS_98 mN_98 rfl (Nat.le_of_ble_eq_true rfl) rfl rfl (Or.inr ⟨_, _, rfl, rcv mC_98 rfl wid_111 (by decide +kernel)⟩) (Or.inl (wid_111.trans wid_98.symm))
theorem r111_11 : runs cal 111 11 [vR b0, v1] [vI x0] I = runs cal 111 12 [vR b0, vI x0] [] I := runs_to (ins_of mI_111 (by rfl)) rfl rfl
theorem r111_12 : runs cal 111 12 [v0, vI w] [] I = runs cal 111 13 [v0, vI w] [vI w] I := runs_to (ins_of mI_111 (by rfl)) rfl rfl
theorem r111_13 : runs cal 111 13 [v0, v1] [vI x0] I = if x0 < 0 then runs cal 111 16 [v0, v1] [] I else runs cal 111 27 [v0, v1] [] I := st_if_ge (ins_of mI_111 (by rfl)) (by decide)
theorem r111_16 : runs cal 111 16 [v0, v1] [] I = runs cal 111 18 [v0, v1] [vI (-10)] I := runs_to (ins_of mI_111 (by rfl)) rfl rfl
theorem r111_18 : runs cal 111 18 [vR 1, v1] [vI x0] I = runs cal 111 19 [vR 1, v1] [vR 1, vI x0] I := runs_to (ins_of mI_111 (by rfl)) rfl rfl
theorem r111_19 : runs cal 111 19 [v0, v1] [vR 1, vI x1] I = runs cal 111 22 [v0, v1] [vR 20, vI x1] I := st_getR (ins_of mI_111 (by rfl)) mC_111 (by decide) fr_10_31 cT_1 (wdc wid_111 wd_1) rfl rfl
theorem r111_22 : runs cal 111 22 [v0, v1] [vR 20, vI x1] I = runs cal 111 25 [v0, v1] [vI (I 20 5), vI x1] I := st_getI (ins_of mI_111 (by rfl)) mC_111 (by decide) fr_10_96 cT_20 (wdc wid_111 wd_20) (Or.inl rfl)
theorem r111_25 : runs cal 111 25 [v0, v1] [vI x0, vI x1] I = runs cal 111 26 [v0, v1] [vI (isub x1 x0)] I := runs_to (ins_of mI_111 (by rfl)) rfl rfl
theorem r111_26 : runs cal 111 26 [v0, v1] [vI x0] I = some (some (vI x0), I) := st_ret (q := some (vI x0)) (k := 0) (ins_of mI_111 (by rfl)) rfl (by decide) mR_111 rfl trivial
theorem r111_27 : runs cal 111 27 [vR 1, v1] [] I = runs cal 111 28 [vR 1, v1] [vR 1] I := runs_to (ins_of mI_111 (by rfl)) rfl rfl
theorem r111_28 : runs cal 111 28 [v0, v1] [vR 1] I = runs cal 111 31 [v0, v1] [vR 10] I := st_getR (ins_of mI_111 (by rfl)) mC_111 (by decide) fr_10_16 cT_1 (wdc wid_111 wd_1) rfl rfl
theorem r111_31 : runs cal 111 31 [vR 1, v1] [vR 10] I = runs cal 111 32 [vR 1, v1] [vR 1, vR 10] I := runs_to (ins_of mI_111 (by rfl)) rfl rfl
theorem r111_32 : runs cal 111 32 [v0, v1] [vR 1, vR 10] I = runs cal 111 35 [v0, v1] [vR 10, vR 10] I := st_getR (ins_of mI_111 (by rfl)) mC_111 (by decide) fr_10_16 cT_1 (wdc wid_111 wd_1) rfl rfl
theorem r111_35 : runs cal 111 35 [v0, v1] [vR 10, vR 10] I = runs cal 111 38 [v0, v1] [vI (I 10 4), vR 10] I := st_getI (ins_of mI_111 (by rfl)) mC_111 (by decide) fr_10_99 cT_10 (wdc wid_111 wd_10) (Or.inl rfl)
theorem r111_38 : runs cal 111 38 [v0, v1] [vI x0, vR 10] I = (cal 30 [vR 10, vI x0] I).bind (fun q => runs cal 111 41 [v0, v1] (pushR q.1 []) q.2) := st_call (st := false) (ins_of mI_111 (by rfl)) mC_111 mr_10_102 (by decide) mS_30 mN_30 rfl (Nat.le_of_ble_eq_true rfl) rfl rfl (Or.inr ⟨_, _, rfl, rcv mC_30 rfl wid_111 (by decide +kernel)⟩) (Or.inl (wid_111.trans wid_30.symm))
theorem r111_41 : runs cal 111 41 [v0, v1] [vI x0] I = if x0 = 0 then runs cal 111 44 [v0, v1] [] I else runs cal 111 53 [v0, v1] [] I := st_if_ne (ins_of mI_111 (by rfl)) (by decide)
theorem r111_44 : runs cal 111 44 [vR 1, v1] [] I = runs cal 111 45 [vR 1, v1] [vR 1] I := runs_to (ins_of mI_111 (by rfl)) rfl rfl
theorem r111_45 : runs cal 111 45 [v0, v1] [vR 1] I = runs cal 111 47 [v0, v1] [vI (-3), vR 1] I := runs_to (ins_of mI_111 (by rfl)) rfl rfl
theorem r111_47 : runs cal 111 47 [v0, v1] [vI x0, vR 1] I = runs cal 111 49 [v0, v1] [vI (-3), vI x0, vR 1] I := runs_to (ins_of mI_111 (by rfl)) rfl rfl
theorem r111_49 : runs cal 111 49 [v0, v1] [vI x0, vI x1, vR 1] I = (cal 138 [vR 1, vI x1, vI x0] I).bind (fun q => runs cal 111 52 [v0, v1] (pushR q.1 []) q.2) := st_call (st := false) (ins_of mI_111 (by rfl)) mC_111 mr_10_80 (by decide) mS_138 mN_138 rfl (Nat.le_of_ble_eq_true rfl) rfl rfl (Or.inr ⟨_, _, rfl, rcv mC_138 rfl wid_111 (by decide +kernel)⟩) (Or.inl (wid_111.trans wid_138.symm))
theorem r111_52 : runs cal 111 52 [v0, v1] [vI x0] I = some (some (vI x0), I) := st_ret (q := some (vI x0)) (k := 0) (ins_of mI_111 (by rfl)) rfl (by decide) mR_111 rfl trivial
theorem r111_53 : runs cal 111 53 [vR 1, v1] [] I = runs cal 111 54 [vR 1, v1] [vR 1] I := runs_to (ins_of mI_111 (by rfl)) rfl rfl
theorem r111_54 : runs cal 111 54 [v0, v1] [vR 1] I = runs cal 111 57 [v0, v1] [vR 2] I := st_getR (ins_of mI_111 (by rfl)) mC_111 (by decide) fr_10_10 cT_1 (wdc wid_111 wd_1) rfl rfl
theorem r111_57 : runs cal 111 57 [vR 1, v1] [vR 2] I = runs cal 111 58 [vR 1, v1] [vR 1, vR 2] I := runs_to (ins_of mI_111 (by rfl)) rfl rfl
theorem r111_58 : runs cal 111 58 [v0, v1] [vR 1, vR 2] I = runs cal 111 61 [v0, v1] [vR 10, vR 2] I := st_getR (ins_of mI_111 (by rfl)) mC_111 (by decide) fr_10_16 cT_1 (wdc wid_111 wd_1) rfl rfl
theorem r111_61 : runs cal 111 61 [v0, v1] [vR 10, vR 2] I = (cal 1 [vR 2, vR 10] I).bind (fun q => runs cal 111 64 [v0, v1] (pushR q.1 []) q.2) := st_call (st := false) (ins_of mI_111 (by rfl)) mC_111 mr_10_106 (by decide) mS_1 mN_1 rfl (Nat.le_of_ble_eq_true rfl) rfl rfl (Or.inr ⟨_, _, rfl, rcv mC_1 rfl wid_111 (by decide +kernel)⟩) (Or.inl (wid_111.trans wid_1.symm))
theorem r111_64 : runs cal 111 64 [vR 1, v1] [] I = runs cal 111 65 [vR 1, v1] [vR 1] I := runs_to (ins_of mI_111 (by rfl)) rfl rfl
theorem r111_65 : runs cal 111 65 [v0, v1] [vR 1] I = runs cal 111 68 [v0, v1] [vR 25] I := st_getR (ins_of mI_111 (by rfl)) mC_111 (by decide) fr_10_45 cT_1 (wdc wid_111 wd_1) rfl rfl
theorem r111_68 : runs cal 111 68 [v0, v1] [vR 25] I = runs cal 111 69 [v0, v1] [vI (0), vR 25] I := runs_to (ins_of mI_111 (by rfl)) rfl rfl
theorem r111_69 : runs cal 111 69 [v0, v1] [vI x0, vR 25] I = runs cal 111 72 [v0, v1] [] (mset I 25 1 x0) := st_putI (ins_of mI_111 (by rfl)) mC_111 fr_10_110 cT_25 (wdc wid_111 wd_25) rfl
theorem r111_72 : runs cal 111 72 [vR 1, v1] [] I = runs cal 111 73 [vR 1, v1] [vR 1] I := runs_to (ins_of mI_111 (by rfl)) rfl rfl
theorem r111_73 : runs cal 111 73 [v0, v1] [vR 1] I = runs cal 111 76 [v0, v1] [vR 27] I := st_getR (ins_of mI_111 (by rfl)) mC_111 (by decide) fr_10_52 cT_1 (wdc wid_111 wd_1) rfl rfl
theorem r111_76 : runs cal 111 76 [v0, v1] [vR 27] I = (cal 83 [vR 27] I).bind (fun q => runs cal 111 79 [v0, v1] (pushR q.1 []) q.2) := st_call (st := false) (ins_of mI_111 (by rfl)) mC_111 mr_10_111 (by decide) mS_83 mN_83 rfl (Nat.le_of_ble_eq_true rfl) rfl rfl (Or.inr ⟨_, _, rfl, rcv mC_83 rfl wid_111 (by decide +kernel)⟩) (Or.inl (wid_111.trans wid_83.symm))
theorem r111_79 : runs cal 111 79 [v0, vI w] [] I = runs cal 111 80 [v0, vI w] [vI w] I := runs_to (ins_of mI_111 (by rfl)) rfl rfl
theorem r111_80 : runs cal 111 80 [v0, v1] [vI x0] I = some (some (vI x0), I) := st_ret (q := some (vI x0)) (k := 0) (ins_of mI_111 (by rfl)) rfl (by decide) mR_111 rfl trivial
theorem r112_0 : runs cal 112 0 [vR 1, v1] [] I = runs cal 112 1 [vR 1, v1] [vR 1] I := runs_to (ins_of mI_112 (by rfl)) rfl rfl
theorem r112_1 : runs cal 112 1 [v0, v1] [vR 1] I = runs cal 112 4 [v0, v1] [vR 2] I := st_getR (ins_of mI_112 (by rfl)) mC_112 (by decide) fr_10_10 cT_1 (wdc wid_112 wd_1) rfl rfl
theorem r112_4 : runs cal 112 4 [v0, vI w] [vR 2] I = runs cal 112 5 [v0, vI w] [vI w, vR 2] I := runs_to (ins_of mI_112 (by rfl)) rfl rfl
theorem r112_5 : runs cal 112 5 [v0, v1] [vI x0, vR 2] I = (cal 4 [vR 2, vI x0] I).bind (fun q => runs cal 112 8 [v0, v1] (pushR q.1 []) q.2) := st_call (st := false) (ins_of mI_112 (by rfl)) mC_112 mr_10_114 (by decide) mS_4 mN_4 rfl (Nat.le_of_ble_eq_true rfl) rfl rfl (Or.inr ⟨_, _, rfl, rcv mC_4 rfl wid_112 (by decide +kernel)⟩) (Or.inl (wid_112.trans wid_4.symm))
theorem r112_8 : runs cal 112 8 [v0, v1] [vI x0] I = if x0 = 0 then runs cal 112 11 [v0, v1] [] I else runs cal 112 20 [v0, v1] [] I := st_if_ne (ins_of mI_112 (by rfl)) (by decide)
theorem r112_11 : runs cal 112 11 [vR 1, v1] [] I = runs cal 112 12 [vR 1, v1] [vR 1] I := runs_to (ins_of mI_112 (by rfl)) rfl rfl
theorem r112_12 : runs cal 112 12 [v0, v1] [vR 1] I = runs cal 112 14 [v0, v1] [vI (-2), vR 1] I := runs_to (ins_of mI_112 (by rfl)) rfl rfl
theorem r112_14 : runs cal 112 14 [v0, v1] [vI x0, vR 1] I = runs cal 112 16 [v0, v1] [vI (-2), vI x0, vR 1] I := runs_to (ins_of mI_112 (by rfl)) rfl rfl
theorem r112_16 : runs cal 112 16 [v0, v1] [vI x0, vI x1, vR 1] I = (cal 138 [vR 1, vI x1, vI x0] I).bind (fun q => runs cal 112 19 [v0, v1] (pushR q.1 []) q.2) := st_call (st := false) (ins_of mI_112 (by rfl)) mC_112 mr_10_80 (by decide) mS_138 mN_138 rfl (Nat.le_of_ble_eq_true rfl) rfl rfl (Or.inr ⟨_, _, rfl, rcv mC_138 rfl wid_112 (by decide +kernel)⟩) (Or.inl (wid_112.trans wid_138.symm))
theorem r112_19 : runs cal 112 19 [v0, v1] [vI x0] I = some (some (vI x0), I) := st_ret (q := some (vI x0)) (k := 0) (ins_of mI_112 (by rfl)) rfl (by decide) mR_112 rfl trivial
theorem r112_20 : runs cal 112 20 [vR 1, v1] [] I = runs cal 112 21 [vR 1, v1] [vR 1] I := runs_to (ins_of mI_112 (by rfl)) rfl rfl
theorem r112_21 : runs cal 112 21 [v0, v1] [vR 1] I = runs cal 112 24 [v0, v1] [vR 2] I := st_getR (ins_of mI_112 (by rfl)) mC_112 (by decide) fr_10_10 cT_1 (wdc wid_112 wd_1) rfl rfl
theorem r112_24 : runs cal 112 24 [v0, vI w] [vR 2] I = runs cal 112 25 [v0, vI w] [vI w, vR 2] I := runs_to (ins_of mI_112 (by rfl)) rfl rfl
theorem r112_25 : runs cal 112 25 [v0, v1] [vI x0, vR 2] I = (cal 6 [vR 2, vI x0] I).bind (fun q => runs cal 112 28 [v0, v1] (pushR q.1 []) q.2) := st_call (st := false) (ins_of mI_112 (by rfl)) mC_112 mr_10_117 (by decide) mS_6 mN_6 rfl (Nat.le_of_ble_eq_true rfl) rfl rfl (Or.inr ⟨_, _, rfl, rcv mC_6 rfl wid_112 (by decide +kernel)⟩) (Or.inl (wid_112.trans wid_6.symm))
theorem r112_28 : runs cal 112 28 [v0, v1] [vI x0] I = some (some (vI x0), I) := st_ret (q := some (vI x0)) (k := 0) (ins_of mI_112 (by rfl)) rfl (by decide) mR_112 rfl trivial
theorem r113_0 : runs cal 113 0 [vR 1, v1] [] I = runs cal 113 1 [vR 1, v1] [vR 1] I := runs_to (ins_of mI_113 (by rfl)) rfl rfl
theorem r113_1 : runs cal 113 1 [v0, v1] [vR 1] I = runs cal 113 4 [v0, v1] [vR 2] I := st_getR (ins_of mI_113 (by rfl)) mC_113 (by decide) fr_10_10 cT_1 (wdc wid_113 wd_1) rfl rfl
theorem r113_4 : runs cal 113 4 [v0, vI w] [vR 2] I = runs cal 113 5 [v0, vI w] [vI w, vR 2] I := runs_to (ins_of mI_113 (by rfl)) rfl rfl
theorem r113_5 : runs cal 113 5 [v0, v1] [vI x0, vR 2] I = (cal 4 [vR 2, vI x0] I).bind (fun q => runs cal 113 8 [v0, v1] (pushR q.1 []) q.2) := st_call (st := false) (ins_of mI_113 (by rfl)) mC_113 mr_10_114 (by decide) mS_4 mN_4 rfl (Nat.le_of_ble_eq_true rfl) rfl rfl (Or.inr ⟨_, _, rfl, rcv mC_4 rfl wid_113 (by decide +kernel)⟩) (Or.inl (wid_113.trans wid_4.symm))
theorem r113_8 : runs cal 113 8 [v0, v1] [vI x0] I = if x0 = 0 then runs cal 113 11 [v0, v1] [] I else runs cal 113 20 [v0, v1] [] I := st_if_ne (ins_of mI_113 (by rfl)) (by decide)
theorem r113_11 : runs cal 113 11 [vR 1, v1] [] I = runs cal 113 12 [vR 1, v1] [vR 1] I := runs_to (ins_of mI_113 (by rfl)) rfl rfl
theorem r113_12 : runs cal 113 12 [v0, v1] [vR 1] I = runs cal 113 14 [v0, v1] [vI (-2), vR 1] I := runs_to (ins_of mI_113 (by rfl)) rfl rfl
theorem r113_14 : runs cal 113 14 [v0, v1] [vI x0, vR 1] I = runs cal 113 16 [v0, v1] [vI (-2), vI x0, vR 1] I := runs_to (ins_of mI_113 (by rfl)) rfl rfl
theorem r113_16 : runs cal 113 16 [v0, v1] [vI x0, vI x1, vR 1] I = (cal 138 [vR 1, vI x1, vI x0] I).bind (fun q => runs cal 113 19 [v0, v1] (pushR q.1 []) q.2) := st_call (st := false) (ins_of mI_113 (by rfl)) mC_113 mr_10_80 (by decide) mS_138 mN_138 rfl (Nat.le_of_ble_eq_true rfl) rfl rfl (Or.inr ⟨_, _, rfl, rcv mC_138 rfl wid_113 (by decide +kernel)⟩) (Or.inl (wid_113.trans wid_138.symm))
theorem r113_19 : runs cal 113 19 [v0, v1] [vI x0] I = some (some (vI x0), I) := st_ret (q := some (vI x0)) (k := 0) (ins_of mI_113 (by rfl)) rfl (by decide) mR_113 rfl trivial
theorem r113_20 : runs cal 113 20 [vR 1, v1] [] I = runs cal 113 21 [vR 1, v1] [vR 1] I := runs_to (ins_of mI_113 (by rfl)) rfl rfl
theorem r113_21 : runs cal 113 21 [v0, v1] [vR 1] I = runs cal 113 24 [v0, v1] [vR 2] I := st_getR (ins_of mI_113 (by rfl)) mC_113 (by decide) fr_10_10 cT_1 (wdc wid_113 wd_1) rfl rfl
theorem r113_24 : runs cal 113 24 [vR 1, v1] [vR 2] I = runs cal 113 25 [vR 1, v1] [vR 1, vR 2] I := runs_to (ins_of mI_113 (by rfl)) rfl rfl
theorem r113_25 : runs cal 113 25 [v0, v1] [vR 1, vR 2] I = runs cal 113 28 [v0, v1] [vR 2, vR 2] I := st_getR (ins_of mI_113 (by rfl)) mC_113 (by decide) fr_10_10 cT_1 (wdc wid_113 wd_1) rfl rfl
theorem r113_28 : runs cal 113 28 [v0, v1] [vR 2, vR 2] I = runs cal 113 31 [v0, v1] [vI (I 2 4), vR 2] I := st_getI (ins_of mI_113 (by rfl)) mC_113 (by decide) fr_10_99 cT_2 (wdc wid_113 wd_2) (Or.inl rfl)
theorem r113_31 : runs cal 113 31 [v0, vI w] [vI x0, vR 2] I = runs cal 113 32 [v0, vI w] [vI w, vI x0, vR 2] I := runs_to (ins_of mI_113 (by rfl)) rfl rfl
theorem r113_32 : runs cal 113 32 [v0, v1] [vI x0, vI x1, vR 2] I = (cal 25 [vR 2, vI x1, vI x0] I).bind (fun q => runs cal 113 35 [v0, v1] (pushR q.1 []) q.2) := st_call (st := false) (ins_of mI_113 (by rfl)) mC_113 mr_10_121 (by decide) mS_25 mN_25 rfl (Nat.le_of_ble_eq_true rfl) rfl rfl (Or.inr ⟨_, _, rfl, rcv mC_25 rfl wid_113 (by decide +kernel)⟩) (Or.inl (wid_113.trans wid_25.symm))
theorem r113_35 : runs cal 113 35 [v0, v1] [vI x0] I = if x0 = 0 then runs cal 113 42 [v0, v1] [] I else runs cal 113 38 [v0, v1] [] I := st_if_eq (ins_of mI_113 (by rfl)) (by decide)
theorem r113_38 : runs cal 113 38 [v0, v1] [] I = runs cal 113 39 [v0, v1] [vI (1)] I := runs_to (ins_of mI_113 (by rfl)) rfl rfl
theorem r113_39 : runs cal 113 39 [v0, v1] [vI x0] I = runs cal 113 43 [v0, v1] [vI x0] I := st_goto (ins_of mI_113 (by rfl)) (by decide)
theorem r113_42 : runs cal 113 42 [v0, v1] [] I = runs cal 113 43 [v0, v1] [vI (0)] I := runs_to (ins_of mI_113 (by rfl)) rfl rfl
theorem r113_43 : runs cal 113 43 [v0, v1] [vI x0] I = some (some (vI x0), I) := st_ret (q := some (vI x0)) (k := 0) (ins_of mI_113 (by rfl)) rfl (by decide) mR_113 rfl trivial
theorem r114_0 : runs cal 114 0 [v0, vI w, v2] [] I = runs cal 114 1 [v0, vI w, v2] [vI w] I := runs_to (ins_of mI_114 (by rfl)) rfl rfl
theorem r114_1 : runs cal 114 1 [v0, v1, v2] [vI x0] I = if x0 < 0 then runs cal 114 24 [v0, v1, v2] [] I else runs cal 114 4 [v0, v1, v2] [] I := st_if_lt (ins_of mI_114 (by rfl)) (by decide)
theorem r114_4 : runs cal 114 4 [v0, vI w, v2] [] I = runs cal 114 5 [v0, vI w, v2] [vI w] I := runs_to (ins_of mI_114 (by rfl)) rfl rfl
theorem r114_5 : runs cal 114 5 [vR 1, v1, v2] [vI x0] I = runs cal 114 6 [vR 1, v1, v2] [vR 1, vI x0] I := runs_to (ins_of mI_114 (by rfl)) rfl rfl
theorem r114_6 : runs cal 114 6 [v0, v1, v2] [vR 1, vI x1] I = runs cal 114 9 [v0, v1, v2] [vR 2, vI x1] I := st_getR (ins_of mI_114 (by rfl)) mC_114 (by decide) fr_10_10 cT_1 (wdc wid_114 wd_1) rfl rfl
theorem r114_9 : runs cal 114 9 [v0, v1, v2] [vR 2, vI x1] I = runs cal 114 12 [v0, v1, v2] [vI (I 2 2), vI x1] I := st_getI (ins_of mI_114 (by rfl)) mC_114 (by decide) fr_10_125 cT_2 (wdc wid_114 wd_2) (Or.inl rfl)
theorem r114_12 : runs cal 114 12 [v0, v1, v2] [vI x0, vI x1] I = if x1 < x0 then runs cal 114 15 [v0, v1, v2] [] I else runs cal 114 24 [v0, v1, v2] [] I := st_cmp_ge (ins_of mI_114 (by rfl)) (by decide)
theorem r114_15 : runs cal 114 15 [v0, v1, vI w] [] I = runs cal 114 16 [v0, v1, vI w] [vI w] I := runs_to (ins_of mI_114 (by rfl)) rfl rfl
theorem r114_16 : runs cal 114 16 [v0, v1, v2] [vI x0] I = if x0 < 0 then runs cal 114 24 [v0, v1, v2] [] I else runs cal 114 19 [v0, v1, v2] [] I := st_if_lt (ins_of mI_114 (by rfl)) (by decide)
theorem r114_19 : runs cal 114 19 [v0, v1, vI w] [] I = runs cal 114 20 [v0, v1, vI w] [vI w] I := runs_to (ins_of mI_114 (by rfl)) rfl rfl
theorem r114_20 : runs cal 114 20 [v0, v1, v2] [vI x0] I = runs cal 114 21 [v0, v1, v2] [vI (3), vI x0] I := runs_to (ins_of mI_114 (by rfl)) rfl rfl
theorem r114_21 : runs cal 114 21 [v0, v1, v2] [vI x0, vI x1] I = if x0 < x1 then runs cal 114 24 [v0, v1, v2] [] I else runs cal 114 33 [v0, v1, v2] [] I := st_cmp_le (ins_of mI_114 (by rfl)) (by decide)
theorem r114_24 : runs cal 114 24 [vR 1, v1, v2] [] I = runs cal 114 25 [vR 1, v1, v2] [vR 1] I := runs_to (ins_of mI_114 (by rfl)) rfl rfl
theorem r114_25 : runs cal 114 25 [v0, v1, v2] [vR 1] I = runs cal 114 27 [v0, v1, v2] [vI (-2), vR 1] I := runs_to (ins_of mI_114 (by rfl)) rfl rfl
theorem r114_27 : runs cal 114 27 [v0, v1, v2] [vI x0, vR 1] I = runs cal 114 29 [v0, v1, v2] [vI (-10), vI x0, vR 1] I := runs_to (ins_of mI_114 (by rfl)) rfl rfl
theorem r114_29 : runs cal 114 29 [v0, v1, v2] [vI x0, vI x1, vR 1] I = (cal 138 [vR 1, vI x1, vI x0] I).bind (fun q => runs cal 114 32 [v0, v1, v2] (pushR q.1 []) q.2) := st_call (st := false) (ins_of mI_114 (by rfl)) mC_114 mr_10_80 (by decide) mS_138 mN_138 rfl (Nat.le_of_ble_eq_true rfl) rfl rfl (Or.inr ⟨_, _, rfl, rcv mC_138 rfl wid_114 (by decide +kernel)⟩) (Or.inl (wid_114.trans wid_138.symm))
theorem r114_32 : runs cal 114 32 [v0, v1, v2] [vI x0] I = some (some (vI x0), I) := st_ret (q := some (vI x0)) (k := 0) (ins_of mI_114 (by rfl)) rfl (by decide) mR_114 rfl trivial
theorem r114_33 : runs cal 114 33 [v0, v1, vI w] [] I = runs cal 114 34 [v0, v1, vI w] [vI w] I := runs_to (ins_of mI_114 (by rfl)) rfl rfl
theorem r114_34 : runs cal 114 34 [v0, v1, v2] [vI (0)] I = runs cal 114 60 [v0, v1, v2] [] I := st_sw (off := 26) (ins_of mI_114 (by rfl)) rfl rfl (by decide)
theorem r114_34a : runs cal 114 34 [v0, v1, v2] [vI (1)] I = runs cal 114 76 [v0, v1, v2] [] I := st_sw (off := 42) (ins_of mI_114 (by rfl)) rfl rfl (by decide)
theorem r114_34b : runs cal 114 34 [v0, v1, v2] [vI (2)] I = runs cal 114 85 [v0, v1, v2] [] I := st_sw (off := 51) (ins_of mI_114 (by rfl)) rfl rfl (by decide)
theorem r114_34c (hd : x0 < 0 ∨ 2 < x0) : runs cal 114 34 [v0, v1, v2] [vI x0] I = runs cal 114 101 [v0, v1, v2] [] I := st_tswD (ins_of mI_114 (by rfl)) (by decide) hd (by decide)
theorem r114_60 : runs cal 114 60 [vR 1, v1, v2] [] I = runs cal 114 61 [vR 1, v1, v2] [vR 1] I := runs_to (ins_of mI_114 (by rfl)) rfl rfl
theorem r114_61 : runs cal 114 61 [v0, v1, v2] [vR 1] I = runs cal 114 64 [v0, v1, v2] [vR 2] I := st_getR (ins_of mI_114 (by rfl)) mC_114 (by decide) fr_10_10 cT_1 (wdc wid_114 wd_1) rfl rfl
theorem r114_64 : runs cal 114 64 [vR 1, v1, v2] [vR 2] I = runs cal 114 65 [vR 1, v1, v2] [vR 1, vR 2] I := runs_to (ins_of mI_114 (by rfl)) rfl rfl
theorem r114_65 : runs cal 114 65 [v0, v1, v2] [vR 1, vR 2] I = runs cal 114 68 [v0, v1, v2] [vR 2, vR 2] I := st_getR (ins_of mI_114 (by rfl)) mC_114 (by decide) fr_10_10 cT_1 (wdc wid_114 wd_1) rfl rfl
theorem r114_68 : runs cal 114 68 [v0, v1, v2] [vR 2, vR 2] I = runs cal 114 71 [v0, v1, v2] [vI (I 2 4), vR 2] I := st_getI (ins_of mI_114 (by rfl)) mC_114 (by decide) fr_10_99 cT_2 (wdc wid_114 wd_2) (Or.inl rfl)
theorem r114_71 : runs cal 114 71 [v0, vI w, v2] [vI x0, vR 2] I = runs cal 114 72 [v0, vI w, v2] [vI w, vI x0, vR 2] I := runs_to (ins_of mI_114 (by rfl)) rfl rfl
theorem r114_72 : runs cal 114 72 [v0, v1, v2] [vI x0, vI x1, vR 2] I = (cal 7 [vR 2, vI x1, vI x0] I).bind (fun q => runs cal 114 75 [v0, v1, v2] (pushR q.1 []) q.2) := st_call (st := false) (ins_of mI_114 (by rfl)) mC_114 mr_10_128 (by decide) mS_7 mN_7 rfl (Nat.le_of_ble_eq_true rfl) rfl rfl (Or.inr ⟨_, _, rfl, rcv mC_7 rfl wid_114 (by decide +kernel)⟩) (Or.inl (wid_114.trans wid_7.symm))
theorem r114_75 : runs cal 114 75 [v0, v1, v2] [vI x0] I = some (some (vI x0), I) := st_ret (q := some (vI x0)) (k := 0) (ins_of mI_114 (by rfl)) rfl (by decide) mR_114 rfl trivial
theorem r114_76 : runs cal 114 76 [vR 1, v1, v2] [] I = runs cal 114 77 [vR 1, v1, v2] [vR 1] I := runs_to (ins_of mI_114 (by rfl)) rfl rfl
theorem r114_77 : runs cal 114 77 [v0, v1, v2] [vR 1] I = runs cal 114 80 [v0, v1, v2] [vR 2] I := st_getR (ins_of mI_114 (by rfl)) mC_114 (by decide) fr_10_10 cT_1 (wdc wid_114 wd_1) rfl rfl
theorem r114_80 : runs cal 114 80 [v0, vI w, v2] [vR 2] I = runs cal 114 81 [v0, vI w, v2] [vI w, vR 2] I := runs_to (ins_of mI_114 (by rfl)) rfl rfl
theorem r114_81 : runs cal 114 81 [v0, v1, v2] [vI x0, vR 2] I = (cal 12 [vR 2, vI x0] I).bind (fun q => runs cal 114 84 [v0, v1, v2] (pushR q.1 []) q.2) := st_call (st := false) (ins_of mI_114 (by rfl)) mC_114 mr_10_131 (by decide) mS_12 mN_12 rfl (Nat.le_of_ble_eq_true rfl) rfl rfl (Or.inr ⟨_, _, rfl, rcv mC_12 rfl wid_114 (by decide +kernel)⟩) (Or.inl (wid_114.trans wid_12.symm))
theorem r114_84 : runs cal 114 84 [v0, v1, v2] [vI x0] I = some (some (vI x0), I) := st_ret (q := some (vI x0)) (k := 0) (ins_of mI_114 (by rfl)) rfl (by decide) mR_114 rfl trivial
theorem r114_85 : runs cal 114 85 [vR 1, v1, v2] [] I = runs cal 114 86 [vR 1, v1, v2] [vR 1] I := runs_to (ins_of mI_114 (by rfl)) rfl rfl
theorem r114_86 : runs cal 114 86 [v0, v1, v2] [vR 1] I = runs cal 114 89 [v0, v1, v2] [vR 2] I := st_getR (ins_of mI_114 (by rfl)) mC_114 (by decide) fr_10_10 cT_1 (wdc wid_114 wd_1) rfl rfl
theorem r114_89 : runs cal 114 89 [vR 1, v1, v2] [vR 2] I = runs cal 114 90 [vR 1, v1, v2] [vR 1, vR 2] I := runs_to (ins_of mI_114 (by rfl)) rfl rfl
theorem r114_90 : runs cal 114 90 [v0, v1, v2] [vR 1, vR 2] I = runs cal 114 93 [v0, v1, v2] [vR 2, vR 2] I := st_getR (ins_of mI_114 (by rfl)) mC_114 (by decide) fr_10_10 cT_1 (wdc wid_114 wd_1) rfl rfl
theorem r114_93 : runs cal 114 93 [v0, v1, v2] [vR 2, vR 2] I = runs cal 114 96 [v0, v1, v2] [vI (I 2 4), vR 2] I := st_getI (ins_of mI_114 (by rfl)) mC_114 (by decide) fr_10_99 cT_2 (wdc wid_114 wd_2) (Or.inl rfl)
theorem r114_96 : runs cal 114 96 [v0, vI w, v2] [vI x0, vR 2] I = runs cal 114 97 [v0, vI w, v2] [vI w, vI x0, vR 2] I := runs_to (ins_of mI_114 (by rfl)) rfl rfl
theorem r114_97 : runs cal 114 97 [v0, v1, v2] [vI x0, vI x1, vR 2] I = (cal 16 [vR 2, vI x1, vI x0] I).bind (fun q => runs cal 114 100 [v0, v1, v2] (pushR q.1 []) q.2) := st_call (st := false) (ins_of mI_114 (by rfl)) mC_114 mr_10_134 (by decide) mS_16 mN_16 rfl (Nat.le_of_ble_eq_true rfl) rfl rfl (Or.inr ⟨_, _, rfl, rcv mC_16 rfl wid_114 (by decide +kernel)⟩) (Or.inl (wid_114.trans wid_16.symm))
theorem r114_100 : runs cal 114 100 [v0, v1, v2] [vI x0] I = some (some (vI x0), I) := st_ret (q := some (vI x0)) (k := 0) (ins_of mI_114 (by rfl)) rfl (by decide) mR_114 rfl trivial
theorem r114_101 : runs cal 114 101 [vR 1, v1, v2] [] I = runs cal 114 102 [vR 1, v1, v2] [vR 1] I := runs_to (ins_of mI_114 (by rfl)) rfl rfl
theorem r114_102 : runs cal 114 102 [v0, v1, v2] [vR 1] I = runs cal 114 105 [v0, v1, v2] [vR 2] I := st_getR (ins_of mI_114 (by rfl)) mC_114 (by decide) fr_10_10 cT_1 (wdc wid_114 wd_1) rfl rfl
theorem r114_105 : runs cal 114 105 [v0, vI w, v2] [vR 2] I = runs cal 114 106 [v0, vI w, v2] [vI w, vR 2] I := runs_to (ins_of mI_114 (by rfl)) rfl rfl
theorem r114_106 : runs cal 114 106 [vR 1, v1, v2] [vI x0, vR 2] I = runs cal 114 107 [vR 1, v1, v2] [vR 1, vI x0, vR 2] I := runs_to (ins_of mI_114 (by rfl)) rfl rfl
theorem r114_107 : runs cal 114 107 [v0, v1, v2] [vR 1, vI x1, vR 2] I = runs cal 114 110 [v0, v1, v2] [vR 2, vI x1, vR 2] I := st_getR (ins_of mI_114 (by rfl)) mC_114 (by decide) fr_10_10 cT_1 (wdc wid_114 wd_1) rfl rfl
theorem r114_110 : runs cal 114 110 [vR 1, v1, v2] [vR 2, vI x1, vR 2] I = runs cal 114 111 [vR 1, v1, v2] [vR 1, vR 2, vI x1, vR 2] I := runs_to (ins_of mI_114 (by rfl)) rfl rfl
theorem r114_111 : runs cal 114 111 [v0, v1, v2] [vR 1, vR 2, vI x2, vR 2] I = runs cal 114 114 [v0, v1, v2] [vR 2, vR 2, vI x2, vR 2] I := st_getR (ins_of mI_114 (by rfl)) mC_114 (by decide) fr_10_10 cT_1 (wdc wid_114 wd_1) rfl rfl
theorem r114_114 : runs cal 114 114 [v0, v1, v2] [vR 2, vR 2, vI x2, vR 2] I = runs cal 114 117 [v0, v1, v2] [vI (I 2 4), vR 2, vI x2, vR 2] I := st_getI (ins_of mI_114 (by rfl)) mC_114 (by decide) fr_10_99 cT_2 (wdc wid_114 wd_2) (Or.inl rfl)
theorem r114_117 : runs cal 114 117 [v0, v1, v2] [vI x0, vR 2, vI x2, vR 2] I = (cal 17 [vR 2, vI x0] I).bind (fun q => runs cal 114 120 [v0, v1, v2] (pushR q.1 [vI x2, vR 2]) q.2) := st_call (st := false) (ins_of mI_114 (by rfl)) mC_114 mr_10_137 (by decide) mS_17 mN_17 rfl (Nat.le_of_ble_eq_true rfl) rfl rfl (Or.inr ⟨_, _, rfl, rcv mC_17 rfl wid_114 (by decide +kernel)⟩) (Or.inl (wid_114.trans wid_17.symm))
theorem r114_120 : runs cal 114 120 [v0, v1, v2] [vI x0, vI x1, vR 2] I = (cal 18 [vR 2, vI x1, vI x0] I).bind (fun q => runs cal 114 123 [v0, v1, v2] (pushR q.1 []) q.2) := st_call (st := false) (ins_of mI_114 (by rfl)) mC_114 mr_10_140 (by decide) mS_18 mN_18 rfl (Nat.le_of_ble_eq_true rfl) rfl rfl (Or.inr ⟨_, _, rfl, rcv mC_18 rfl wid_114 (by decide +kernel)⟩) (Or.inl (wid_114.trans wid_18.symm))
theorem r114_123 : runs cal 114 123 [v0, v1, v2] [vI x0] I = some (some (vI x0), I) := st_ret (q := some (vI x0)) (k := 0) (ins_of mI_114 (by rfl)) rfl (by decide) mR_114 rfl trivial
theorem r115_0 : runs cal 115 0 [vR 1, v1, v2] [] I = runs cal 115 1 [vR 1, v1, v2] [vR 1] I := runs_to (ins_of mI_115 (by rfl)) rfl rfl
theorem r115_1 : runs cal 115 1 [v0, v1, v2] [vR 1] I = runs cal 115 4 [v0, v1, v2] [vR 2] I := st_getR (ins_of mI_115 (by rfl)) mC_115 (by decide) fr_10_10 cT_1 (wdc wid_115 wd_1) rfl rfl
theorem r115_4 : runs cal 115 4 [v0, vI w, v2] [vR 2] I = runs cal 115 5 [v0, vI w, v2] [vI w, vR 2] I := runs_to (ins_of mI_115 (by rfl)) rfl rfl
theorem r115_5 : runs cal 115 5 [v0, v1, v2] [vI x0, vR 2] I = (cal 5 [vR 2, vI x0] I).bind (fun q => runs cal 115 8 [v0, v1, v2] (pushR q.1 []) q.2) := st_call (st := false) (ins_of mI_115 (by rfl)) mC_115 mr_10_143 (by decide) mS_5 mN_5 rfl (Nat.le_of_ble_eq_true rfl) rfl rfl (Or.inr ⟨_, _, rfl, rcv mC_5 rfl wid_115 (by decide +kernel)⟩) (Or.inl (wid_115.trans wid_5.symm))
theorem r115_8 : runs cal 115 8 [v0, v1, v2] [vI x0] I = if x0 = 0 then runs cal 115 20 [v0, v1, v2] [] I else runs cal 115 11 [v0, v1, v2] [] I := st_if_eq (ins_of mI_115 (by rfl)) (by decide)
theorem r115_11 : runs cal 115 11 [v0, v1, vI w] [] I = runs cal 115 12 [v0, v1, vI w] [vI w] I := runs_to (ins_of mI_115 (by rfl)) rfl rfl
theorem r115_12 : runs cal 115 12 [v0, v1, v2] [vI x0] I = if x0 < 0 then runs cal 115 20 [v0, v1, v2] [] I else runs cal 115 15 [v0, v1, v2] [] I := st_if_lt (ins_of mI_115 (by rfl)) (by decide)
theorem r115_15 : runs cal 115 15 [v0, v1, vI w] [] I = runs cal 115 16 [v0, v1, vI w] [vI w] I := runs_to (ins_of mI_115 (by rfl)) rfl rfl
theorem r115_16 : runs cal 115 16 [v0, v1, v2] [vI x0] I = runs cal 115 17 [v0, v1, v2] [vI (3), vI x0] I := runs_to (ins_of mI_115 (by rfl)) rfl rfl
theorem r115_17 : runs cal 115 17 [v0, v1, v2] [vI x0, vI x1] I = if x0 < x1 then runs cal 115 20 [v0, v1, v2] [] I else runs cal 115 29 [v0, v1, v2] [] I := st_cmp_le (ins_of mI_115 (by rfl)) (by decide)
theorem r115_20 : runs cal 115 20 [vR 1, v1, v2] [] I = runs cal 115 21 [vR 1, v1, v2] [vR 1] I := runs_to (ins_of mI_115 (by rfl)) rfl rfl
theorem r115_21 : runs cal 115 21 [v0, v1, v2] [vR 1] I = runs cal 115 23 [v0, v1, v2] [vI (-2), vR 1] I := runs_to (ins_of mI_115 (by rfl)) rfl rfl
theorem r115_23 : runs cal 115 23 [v0, v1, v2] [vI x0, vR 1] I = runs cal 115 25 [v0, v1, v2] [vI (-10), vI x0, vR 1] I := runs_to (ins_of mI_115 (by rfl)) rfl rfl
theorem r115_25 : runs cal 115 25 [v0, v1, v2] [vI x0, vI x1, vR 1] I = (cal 138 [vR 1, vI x1, vI x0] I).bind (fun q => runs cal 115 28 [v0, v1, v2] (pushR q.1 []) q.2) := st_call (st := false) (ins_of mI_115 (by rfl)) mC_115 mr_10_80 (by decide) mS_138 mN_138 rfl (Nat.le_of_ble_eq_true rfl) rfl rfl (Or.inr ⟨_, _, rfl, rcv mC_138 rfl wid_115 (by decide +kernel)⟩) (Or.inl (wid_115.trans wid_138.symm))
theorem r115_28 : runs cal 115 28 [v0, v1, v2] [vI x0] I = some (some (vI x0), I) := st_ret (q := some (vI x0)) (k := 0) (ins_of mI_115 (by rfl)) rfl (by decide) mR_115 rfl trivial
theorem r115_29 : runs cal 115 29 [v0, v1, vI w] [] I = runs cal 115 30 [v0, v1, vI w] [vI w] I := runs_to (ins_of mI_115 (by rfl)) rfl rfl
theorem r115_30 : runs cal 115 30 [v0, v1, v2] [vI (0)] I = runs cal 115 56 [v0, v1, v2] [] I := st_sw (off := 26) (ins_of mI_115 (by rfl)) rfl rfl (by decide)
theorem r115_30a : runs cal 115 30 [v0, v1, v2] [vI (1)] I = runs cal 115 94 [v0, v1, v2] [] I := st_sw (off := 64) (ins_of mI_115 (by rfl)) rfl rfl (by decide)
theorem r115_30b : runs cal 115 30 [v0, v1, v2] [vI (2)] I = runs cal 115 104 [v0, v1, v2] [] I := st_sw (off := 74) (ins_of mI_115 (by rfl)) rfl rfl (by decide)
theorem r115_30c (hd : x0 < 0 ∨ 2 < x0) : runs cal 115 30 [v0, v1, v2] [vI x0] I = runs cal 115 114 [v0, v1, v2] [] I := st_tswD (ins_of mI_115 (by rfl)) (by decide) hd (by decide)
theorem r115_56 : runs cal 115 56 [vR 1, v1, v2] [] I = runs cal 115 57 [vR 1, v1, v2] [vR 1] I := runs_to (ins_of mI_115 (by rfl)) rfl rfl
theorem r115_57 : runs cal 115 57 [v0, v1, v2] [vR 1] I = runs cal 115 60 [v0, v1, v2] [vR 2] I := st_getR (ins_of mI_115 (by rfl)) mC_115 (by decide) fr_10_10 cT_1 (wdc wid_115 wd_1) rfl rfl
theorem r115_60 : runs cal 115 60 [vR 1, v1, v2] [vR 2] I = runs cal 115 61 [vR 1, v1, v2] [vR 1, vR 2] I := runs_to (ins_of mI_115 (by rfl)) rfl rfl
theorem r115_61 : runs cal 115 61 [v0, v1, v2] [vR 1, vR 2] I = runs cal 115 64 [v0, v1, v2] [vR 2, vR 2] I := st_getR (ins_of mI_115 (by rfl)) mC_115 (by decide) fr_10_10 cT_1 (wdc wid_115 wd_1) rfl rfl
theorem r115_64 : runs cal 115 64 [v0, v1, v2] [vR 2, vR 2] I = runs cal 115 67 [v0, v1, v2] [vI (I 2 4), vR 2] I := st_getI (ins_of mI_115 (by rfl)) mC_115 (by decide) fr_10_99 cT_2 (wdc wid_115 wd_2) (Or.inl rfl)
theorem r115_67 : runs cal 115 67 [v0, vI w, v2] [vI x0, vR 2] I = runs cal 115 68 [v0, vI w, v2] [vI w, vI x0, vR 2] I := runs_to (ins_of mI_115 (by rfl)) rfl rfl
theorem r115_68 : runs cal 115 68 [v0, v1, v2] [vI x0, vI x1, vR 2] I = (cal 9 [vR 2, vI x1, vI x0] I).bind (fun q => runs cal 115 71 [v0, v1, v2] (pushR q.1 []) q.2) := st_call (st := false) (ins_of mI_115 (by rfl)) mC_115 mr_10_146 (by decide) mS_9 mN_9 rfl (Nat.le_of_ble_eq_true rfl) rfl rfl (Or.inr ⟨_, _, rfl, rcv mC_9 rfl wid_115 (by decide +kernel)⟩) (Or.inl (wid_115.trans wid_9.symm))
theorem r115_71 : runs cal 115 71 [v0, v1, v2] [vI x0] I = if x0 = 0 then runs cal 115 92 [v0, v1, v2] [] I else runs cal 115 74 [v0, v1, v2] [] I := st_if_eq (ins_of mI_115 (by rfl)) (by decide)
theorem r115_74 : runs cal 115 74 [vR 1, v1, v2] [] I = runs cal 115 75 [vR 1, v1, v2] [vR 1] I := runs_to (ins_of mI_115 (by rfl)) rfl rfl
theorem r115_75 : runs cal 115 75 [v0, v1, v2] [vR 1] I = runs cal 115 78 [v0, v1, v2] [vR 2] I := st_getR (ins_of mI_115 (by rfl)) mC_115 (by decide) fr_10_10 cT_1 (wdc wid_115 wd_1) rfl rfl
theorem r115_78 : runs cal 115 78 [vR 1, v1, v2] [vR 2] I = runs cal 115 79 [vR 1, v1, v2] [vR 1, vR 2] I := runs_to (ins_of mI_115 (by rfl)) rfl rfl
theorem r115_79 : runs cal 115 79 [v0, v1, v2] [vR 1, vR 2] I = runs cal 115 82 [v0, v1, v2] [vR 2, vR 2] I := st_getR (ins_of mI_115 (by rfl)) mC_115 (by decide) fr_10_10 cT_1 (wdc wid_115 wd_1) rfl rfl
theorem r115_82 : runs cal 115 82 [v0, v1, v2] [vR 2, vR 2] I = runs cal 115 85 [v0, v1, v2] [vI (I 2 4), vR 2] I := st_getI (ins_of mI_115 (by rfl)) mC_115 (by decide) fr_10_99 cT_2 (wdc wid_115 wd_2) (Or.inl rfl)
theorem r115_85 : runs cal 115 85 [v0, vI w, v2] [vI x0, vR 2] I = runs cal 115 86 [v0, vI w, v2] [vI w, vI x0, vR 2] I := runs_to (ins_of mI_115 (by rfl)) rfl rfl
theorem r115_86 : runs cal 115 86 [v0, v1, v2] [vI x0, vI x1, vR 2] I = (cal 8 [vR 2, vI x1, vI x0] I).bind (fun q => runs cal 115 89 [v0, v1, v2] (pushR q.1 []) q.2) := st_call (st := false) (ins_of mI_115 (by rfl)) mC_115 mr_10_149 (by decide) mS_8 mN_8 rfl (Nat.le_of_ble_eq_true rfl) rfl rfl (Or.inr ⟨_, _, rfl, rcv mC_8 rfl wid_115 (by decide +kernel)⟩) (Or.inl (wid_115.trans wid_8.symm))
theorem r115_89 : runs cal 115 89 [v0, v1, v2] [vI x0] I = runs cal 115 93 [v0, v1, v2] [vI x0] I := st_goto (ins_of mI_115 (by rfl)) (by decide)
theorem r115_92 : runs cal 115 92 [v0, v1, v2] [] I = runs cal 115 93 [v0, v1, v2] [vI (-1)] I := runs_to (ins_of mI_115 (by rfl)) rfl rfl
theorem r115_93 : runs cal 115 93 [v0, v1, v2] [vI x0] I = some (some (vI x0), I) := st_ret (q := some (vI x0)) (k := 0) (ins_of mI_115 (by rfl)) rfl (by decide) mR_115 rfl trivial
theorem r115_94 : runs cal 115 94 [vR 1, v1, v2] [] I = runs cal 115 95 [vR 1, v1, v2] [vR 1] I := runs_to (ins_of mI_115 (by rfl)) rfl rfl
theorem r115_95 : runs cal 115 95 [v0, v1, v2] [vR 1] I = runs cal 115 98 [v0, v1, v2] [vR 2] I := st_getR (ins_of mI_115 (by rfl)) mC_115 (by decide) fr_10_10 cT_1 (wdc wid_115 wd_1) rfl rfl
theorem r115_98 : runs cal 115 98 [v0, v1, v2] [vR 2] I = runs cal 115 101 [v0, v1, v2] [vR 8] I := st_getR (ins_of mI_115 (by rfl)) mC_115 (by decide) fr_10_152 cT_2 (wdc wid_115 wd_2) rfl rfl
theorem r115_101 : runs cal 115 101 [v0, vI w, v2] [vR 8] I = runs cal 115 102 [v0, vI w, v2] [vI w, vR 8] I := runs_to (ins_of mI_115 (by rfl)) rfl rfl
theorem r115_102 : runs cal 115 102 [v0, v1, v2] [vI x0, vR 8] I = if 0 ≤ x0 ∧ x0 < 2 then runs cal 115 103 [v0, v1, v2] [vI (I 8 x0)] I else none := st_iald (ins_of mI_115 (by rfl)) cT_8 (wdc wid_115 wd_8)
theorem r115_103 : runs cal 115 103 [v0, v1, v2] [vI x0] I = some (some (vI x0), I) := st_ret (q := some (vI x0)) (k := 0) (ins_of mI_115 (by rfl)) rfl (by decide) mR_115 rfl trivial
theorem r115_104 : runs cal 115 104 [vR 1, v1, v2] [] I = runs cal 115 105 [vR 1, v1, v2] [vR 1] I := runs_to (ins_of mI_115 (by rfl)) rfl rfl
theorem r115_105 : runs cal 115 105 [v0, v1, v2] [vR 1] I = runs cal 115 108 [v0, v1, v2] [vR 2] I := st_getR (ins_of mI_115 (by rfl)) mC_115 (by decide) fr_10_10 cT_1 (wdc wid_115 wd_1) rfl rfl
theorem r115_108 : runs cal 115 108 [v0, v1, v2] [vR 2] I = runs cal 115 111 [v0, v1, v2] [vR 9] I := st_getR (ins_of mI_115 (by rfl)) mC_115 (by decide) fr_10_156 cT_2 (wdc wid_115 wd_2) rfl rfl
theorem r115_111 : runs cal 115 111 [v0, vI w, v2] [vR 9] I = runs cal 115 112 [v0, vI w, v2] [vI w, vR 9] I := runs_to (ins_of mI_115 (by rfl)) rfl rfl
theorem r115_112 : runs cal 115 112 [v0, v1, v2] [vI x0, vR 9] I = if 0 ≤ x0 ∧ x0 < 2 then runs cal 115 113 [v0, v1, v2] [vI (I 9 x0)] I else none := st_iald (ins_of mI_115 (by rfl)) cT_9 (wdc wid_115 wd_9)
theorem r115_113 : runs cal 115 113 [v0, v1, v2] [vI x0] I = some (some (vI x0), I) := st_ret (q := some (vI x0)) (k := 0) (ins_of mI_115 (by rfl)) rfl (by decide) mR_115 rfl trivial
theorem r115_114 : runs cal 115 114 [vR 1, v1, v2] [] I = runs cal 115 115 [vR 1, v1, v2] [vR 1] I := runs_to (ins_of mI_115 (by rfl)) rfl rfl
theorem r115_115 : runs cal 115 115 [v0, v1, v2] [vR 1] I = runs cal 115 118 [v0, v1, v2] [vR 2] I := st_getR (ins_of mI_115 (by rfl)) mC_115 (by decide) fr_10_10 cT_1 (wdc wid_115 wd_1) rfl rfl
theorem r115_118 : runs cal 115 118 [vR 1, v1, v2] [vR 2] I = runs cal 115 119 [vR 1, v1, v2] [vR 1, vR 2] I := runs_to (ins_of mI_115 (by rfl)) rfl rfl
theorem r115_119 : runs cal 115 119 [v0, v1, v2] [vR 1, vR 2] I = runs cal 115 122 [v0, v1, v2] [vR 2, vR 2] I := st_getR (ins_of mI_115 (by rfl)) mC_115 (by decide) fr_10_10 cT_1 (wdc wid_115 wd_1) rfl rfl
theorem r115_122 : runs cal 115 122 [v0, v1, v2] [vR 2, vR 2] I = runs cal 115 125 [v0, v1, v2] [vI (I 2 4), vR 2] I := st_getI (ins_of mI_115 (by rfl)) mC_115 (by decide) fr_10_99 cT_2 (wdc wid_115 wd_2) (Or.inl rfl)
theorem r115_125 : runs cal 115 125 [v0, vI w, v2] [vI x0, vR 2] I = runs cal 115 126 [v0, vI w, v2] [vI w, vI x0, vR 2] I := runs_to (ins_of mI_115 (by rfl)) rfl rfl
theorem r115_126 : runs cal 115 126 [v0, v1, v2] [vI x0, vI x1, vR 2] I = (cal 28 [vR 2, vI x1, vI x0] I).bind (fun q => runs cal 115 129 [v0, v1, v2] (pushR q.1 []) q.2) := st_call (st := false) (ins_of mI_115 (by rfl)) mC_115 mr_10_159 (by decide) mS_28 mN_28 rfl (Nat.le_of_ble_eq_true rfl) rfl rfl (Or.inr ⟨_, _, rfl, rcv mC_28 rfl wid_115 (by decide +kernel)⟩) (Or.inl (wid_115.trans wid_28.symm))
theorem r115_129 : runs cal 115 129 [v0, v1, v2] [vI x0] I = some (some (vI x0), I) := st_ret (q := some (vI x0)) (k := 0) (ins_of mI_115 (by rfl)) rfl (by decide) mR_115 rfl trivial
theorem r116_0 : runs cal 116 0 [vR 1, v1, v2] [] I = runs cal 116 1 [vR 1, v1, v2] [vR 1] I := runs_to (ins_of mI_116 (by rfl)) rfl rfl
theorem r116_1 : runs cal 116 1 [v0, vI w, v2] [vR 1] I = runs cal 116 2 [v0, vI w, v2] [vI w, vR 1] I := runs_to (ins_of mI_116 (by rfl)) rfl rfl
theorem r116_2 : runs cal 116 2 [v0, v1, v2] [vI x0, vR 1] I = (cal 139 [vR 1, vI x0] I).bind (fun q => runs cal 116 5 [v0, v1, v2] (pushR q.1 []) q.2) := st_call (st := false) (ins_of mI_116 (by rfl)) mC_116 mr_10_162 (by decide) mS_139 mN_139 rfl (Nat.le_of_ble_eq_true rfl) rfl rfl (Or.inr ⟨_, _, rfl, rcv mC_139 rfl wid_116 (by decide +kernel)⟩) (Or.inl (wid_116.trans wid_139.symm))
theorem r116_5 : runs cal 116 5 [v0, vI u, v2] [vI x0] I = runs cal 116 6 [v0, vI u, vI x0] [] I := runs_to (ins_of mI_116 (by rfl)) rfl rfl
theorem r116_6 : runs cal 116 6 [v0, v1, vI w] [] I = runs cal 116 7 [v0, v1, vI w] [vI w] I := runs_to (ins_of mI_116 (by rfl)) rfl rfl
theorem r116_7 : runs cal 116 7 [v0, v1, v2] [vI x0] I = if x0 < 0 then runs cal 116 10 [v0, v1, v2] [] I else runs cal 116 15 [v0, v1, v2] [] I := st_if_ge (ins_of mI_116 (by rfl)) (by decide)
theorem r116_10 : runs cal 116 10 [v0, v1, vI w] [] I = runs cal 116 11 [v0, v1, vI w] [vI w] I := runs_to (ins_of mI_116 (by rfl)) rfl rfl
theorem r116_11 : runs cal 116 11 [v0, v1, v2] [vI x0] I = runs cal 116 12 [v0, v1, v2] [vI (ineg x0)] I := runs_to (ins_of mI_116 (by rfl)) rfl rfl
theorem r116_12 : runs cal 116 12 [v0, v1, v2] [vI x0] I = runs cal 116 16 [v0, v1, v2] [vI x0] I := st_goto (ins_of mI_116 (by rfl)) (by decide)
theorem r116_15 : runs cal 116 15 [v0, v1, v2] [] I = runs cal 116 16 [v0, v1, v2] [vI (0)] I := runs_to (ins_of mI_116 (by rfl)) rfl rfl
theorem r116_16 : runs cal 116 16 [v0, v1, v2] [vI x0] I = some (some (vI x0), I) := st_ret (q := some (vI x0)) (k := 0) (ins_of mI_116 (by rfl)) rfl (by decide) mR_116 rfl trivial
theorem r117_0 : runs cal 117 0 [vR 1, v1, v2] [] I = runs cal 117 1 [vR 1, v1, v2] [vR 1] I := runs_to (ins_of mI_117 (by rfl)) rfl rfl
theorem r117_1 : runs cal 117 1 [v0, vI w, v2] [vR 1] I = runs cal 117 2 [v0, vI w, v2] [vI w, vR 1] I := runs_to (ins_of mI_117 (by rfl)) rfl rfl
theorem r117_2 : runs cal 117 2 [v0, v1, v2] [vI x0, vR 1] I = (cal 139 [vR 1, vI x0] I).bind (fun q => runs cal 117 5 [v0, v1, v2] (pushR q.1 []) q.2) := st_call (st := false) (ins_of mI_117 (by rfl)) mC_117 mr_10_162 (by decide) mS_139 mN_139 rfl (Nat.le_of_ble_eq_true rfl) rfl rfl (Or.inr ⟨_, _, rfl, rcv mC_139 rfl wid_117 (by decide +kernel)⟩) (Or.inl (wid_117.trans wid_139.symm))
theorem r117_5 : runs cal 117 5 [v0, vI u, v2] [vI x0] I = runs cal 117 6 [v0, vI u, vI x0] [] I := runs_to (ins_of mI_117 (by rfl)) rfl rfl
theorem r117_6 : runs cal 117 6 [v0, v1, vI w] [] I = runs cal 117 7 [v0, v1, vI w] [vI w] I := runs_to (ins_of mI_117 (by rfl)) rfl rfl
theorem r117_7 : runs cal 117 7 [v0, v1, v2] [vI x0] I = if x0 < 0 then runs cal 117 10 [v0, v1, v2] [] I else runs cal 117 19 [v0, v1, v2] [] I := st_if_ge (ins_of mI_117 (by rfl)) (by decide)
theorem r117_10 : runs cal 117 10 [vR 1, v1, v2] [] I = runs cal 117 11 [vR 1, v1, v2] [vR 1] I := runs_to (ins_of mI_117 (by rfl)) rfl rfl
theorem r117_11 : runs cal 117 11 [v0, v1, v2] [vR 1] I = runs cal 117 13 [v0, v1, v2] [vI (-3), vR 1] I := runs_to (ins_of mI_117 (by rfl)) rfl rfl
theorem r117_13 : runs cal 117 13 [v0, v1, v2] [vI x0, vR 1] I = runs cal 117 15 [v0, v1, v2] [vI (-3), vI x0, vR 1] I := runs_to (ins_of mI_117 (by rfl)) rfl rfl
theorem r117_15 : runs cal 117 15 [v0, v1, v2] [vI x0, vI x1, vR 1] I = (cal 138 [vR 1, vI x1, vI x0] I).bind (fun q => runs cal 117 18 [v0, v1, v2] (pushR q.1 []) q.2) := st_call (st := false) (ins_of mI_117 (by rfl)) mC_117 mr_10_80 (by decide) mS_138 mN_138 rfl (Nat.le_of_ble_eq_true rfl) rfl rfl (Or.inr ⟨_, _, rfl, rcv mC_138 rfl wid_117 (by decide +kernel)⟩) (Or.inl (wid_117.trans wid_138.symm))
theorem r117_18 : runs cal 117 18 [v0, v1, v2] [vI x0] I = some (some (vI x0), I) := st_ret (q := some (vI x0)) (k := 0) (ins_of mI_117 (by rfl)) rfl (by decide) mR_117 rfl trivial
theorem r117_19 : runs cal 117 19 [vR 1, v1, v2] [] I = runs cal 117 20 [vR 1, v1, v2] [vR 1] I := runs_to (ins_of mI_117 (by rfl)) rfl rfl
theorem r117_20 : runs cal 117 20 [v0, v1, v2] [vR 1] I = runs cal 117 23 [v0, v1, v2] [vR 25] I := st_getR (ins_of mI_117 (by rfl)) mC_117 (by decide) fr_10_45 cT_1 (wdc wid_117 wd_1) rfl rfl
theorem r117_23 : runs cal 117 23 [vR 1, v1, v2] [vR 25] I = runs cal 117 24 [vR 1, v1, v2] [vR 1, vR 25] I := runs_to (ins_of mI_117 (by rfl)) rfl rfl
theorem r117_24 : runs cal 117 24 [v0, v1, v2] [vR 1, vR 25] I = runs cal 117 27 [v0, v1, v2] [vR 2, vR 25] I := st_getR (ins_of mI_117 (by rfl)) mC_117 (by decide) fr_10_10 cT_1 (wdc wid_117 wd_1) rfl rfl
theorem r117_27 : runs cal 117 27 [v0, v1, v2] [vR 2, vR 25] I = runs cal 117 30 [v0, v1, v2] [vI (I 2 4), vR 25] I := st_getI (ins_of mI_117 (by rfl)) mC_117 (by decide) fr_10_99 cT_2 (wdc wid_117 wd_2) (Or.inl rfl)
theorem r117_30 : runs cal 117 30 [v0, v1, v2] [vI x0, vR 25] I = (cal 56 [vR 25, vI x0] I).bind (fun q => runs cal 117 33 [v0, v1, v2] (pushR q.1 []) q.2) := st_call (st := false) (ins_of mI_117 (by rfl)) mC_117 mr_10_165 (by decide) mS_56 mN_56 rfl (Nat.le_of_ble_eq_true rfl) rfl rfl (Or.inr ⟨_, _, rfl, rcv mC_56 rfl wid_117 (by decide +kernel)⟩) (Or.inl (wid_117.trans wid_56.symm))
theorem r117_33 : runs cal 117 33 [vR 1, v1, v2] [] I = runs cal 117 34 [vR 1, v1, v2] [vR 1] I := runs_to (ins_of mI_117 (by rfl)) rfl rfl
theorem r117_34 : runs cal 117 34 [v0, v1, vI w] [vR 1] I = runs cal 117 35 [v0, v1, vI w] [vI w, vR 1] I := runs_to (ins_of mI_117 (by rfl)) rfl rfl
theorem r117_35 : runs cal 117 35 [v0, v1, v2] [vI x0, vR 1] I = (cal 140 [vR 1, vI x0] I).bind (fun q => runs cal 117 38 [v0, v1, v2] (pushR q.1 []) q.2) := st_call (st := false) (ins_of mI_117 (by rfl)) mC_117 mr_10_168 (by decide) mS_140 mN_140 rfl (Nat.le_of_ble_eq_true rfl) rfl rfl (Or.inr ⟨_, _, rfl, rcv mC_140 rfl wid_117 (by decide +kernel)⟩) (Or.inl (wid_117.trans wid_140.symm))
theorem r117_38 : runs cal 117 38 [v0, v1, v2] [] I = runs cal 117 39 [v0, v1, v2] [vI (1)] I := runs_to (ins_of mI_117 (by rfl)) rfl rfl
theorem r117_39 : runs cal 117 39 [v0, v1, v2] [vI x0] I = some (some (vI x0), I) := st_ret (q := some (vI x0)) (k := 0) (ins_of mI_117 (by rfl)) rfl (by decide) mR_117 rfl trivial
theorem r118_0 : runs cal 118 0 [vR 1] [] I = runs cal 118 1 [vR 1] [vR 1] I := runs_to (ins_of mI_118 (by rfl)) rfl rfl
theorem r118_1 : runs cal 118 1 [v0] [vR 1] I = runs cal 118 4 [v0] [vR 25] I := st_getR (ins_of mI_118 (by rfl)) mC_118 (by decide) fr_10_45 cT_1 (wdc wid_118 wd_1) rfl rfl
theorem r118_4 : runs cal 118 4 [v0] [vR 25] I = runs cal 118 7 [v0] [vI (I 25 1)] I := st_getI (ins_of mI_118 (by rfl)) mC_118 (by decide) fr_10_110 cT_25 (wdc wid_118 wd_25) (Or.inl rfl)
theorem r118_7 : runs cal 118 7 [v0] [vI x0] I = if x0 = 0 then runs cal 118 10 [v0] [] I else runs cal 118 19 [v0] [] I := st_if_ne (ins_of mI_118 (by rfl)) (by decide)
theorem r118_10 : runs cal 118 10 [vR 1] [] I = runs cal 118 11 [vR 1] [vR 1] I := runs_to (ins_of mI_118 (by rfl)) rfl rfl
theorem r118_11 : runs cal 118 11 [v0] [vR 1] I = runs cal 118 13 [v0] [vI (-3), vR 1] I := runs_to (ins_of mI_118 (by rfl)) rfl rfl
theorem r118_13 : runs cal 118 13 [v0] [vI x0, vR 1] I = runs cal 118 15 [v0] [vI (-3), vI x0, vR 1] I := runs_to (ins_of mI_118 (by rfl)) rfl rfl
theorem r118_15 : runs cal 118 15 [v0] [vI x0, vI x1, vR 1] I = (cal 138 [vR 1, vI x1, vI x0] I).bind (fun q => runs cal 118 18 [v0] (pushR q.1 []) q.2) := st_call (st := false) (ins_of mI_118 (by rfl)) mC_118 mr_10_80 (by decide) mS_138 mN_138 rfl (Nat.le_of_ble_eq_true rfl) rfl rfl (Or.inr ⟨_, _, rfl, rcv mC_138 rfl wid_118 (by decide +kernel)⟩) (Or.inl (wid_118.trans wid_138.symm))
theorem r118_18 : runs cal 118 18 [v0] [vI x0] I = some (some (vI x0), I) := st_ret (q := some (vI x0)) (k := 0) (ins_of mI_118 (by rfl)) rfl (by decide) mR_118 rfl trivial
theorem r118_19 : runs cal 118 19 [vR 1] [] I = runs cal 118 20 [vR 1] [vR 1] I := runs_to (ins_of mI_118 (by rfl)) rfl rfl
theorem r118_20 : runs cal 118 20 [vR 1] [vR 1] I = runs cal 118 21 [vR 1] [vR 1, vR 1] I := runs_to (ins_of mI_118 (by rfl)) rfl rfl
theorem r118_21 : runs cal 118 21 [v0] [vR 1, vR 1] I = runs cal 118 24 [v0] [vR 25, vR 1] I := st_getR (ins_of mI_118 (by rfl)) mC_118 (by decide) fr_10_45 cT_1 (wdc wid_118 wd_1) rfl rfl
theorem r118_24 : runs cal 118 24 [v0] [vR 25, vR 1] I = (cal 57 [vR 25] I).bind (fun q => runs cal 118 27 [v0] (pushR q.1 [vR 1]) q.2) := st_call (st := false) (ins_of mI_118 (by rfl)) mC_118 mr_10_171 (by decide) mS_57 mN_57 rfl (Nat.le_of_ble_eq_true rfl) rfl rfl (Or.inr ⟨_, _, rfl, rcv mC_57 rfl wid_118 (by decide +kernel)⟩) (Or.inl (wid_118.trans wid_57.symm))
theorem r118_27 : runs cal 118 27 [v0] [vI x0, vR 1] I = (cal 140 [vR 1, vI x0] I).bind (fun q => runs cal 118 30 [v0] (pushR q.1 []) q.2) := st_call (st := false) (ins_of mI_118 (by rfl)) mC_118 mr_10_168 (by decide) mS_140 mN_140 rfl (Nat.le_of_ble_eq_true rfl) rfl rfl (Or.inr ⟨_, _, rfl, rcv mC_140 rfl wid_118 (by decide +kernel)⟩) (Or.inl (wid_118.trans wid_140.symm))
theorem r118_30 : runs cal 118 30 [v0] [] I = runs cal 118 31 [v0] [vI (1)] I := runs_to (ins_of mI_118 (by rfl)) rfl rfl
theorem r118_31 : runs cal 118 31 [v0] [vI x0] I = some (some (vI x0), I) := st_ret (q := some (vI x0)) (k := 0) (ins_of mI_118 (by rfl)) rfl (by decide) mR_118 rfl trivial
theorem r119_0 : runs cal 119 0 [vR 1] [] I = runs cal 119 1 [vR 1] [vR 1] I := runs_to (ins_of mI_119 (by rfl)) rfl rfl
theorem r119_1 : runs cal 119 1 [v0] [vR 1] I = runs cal 119 4 [v0] [vR 2] I := st_getR (ins_of mI_119 (by rfl)) mC_119 (by decide) fr_10_10 cT_1 (wdc wid_119 wd_1) rfl rfl
theorem r119_4 : runs cal 119 4 [vR 1] [vR 2] I = runs cal 119 5 [vR 1] [vR 1, vR 2] I := runs_to (ins_of mI_119 (by rfl)) rfl rfl
theorem r119_5 : runs cal 119 5 [v0] [vR 1, vR 2] I = runs cal 119 8 [v0] [vR 2, vR 2] I := st_getR (ins_of mI_119 (by rfl)) mC_119 (by decide) fr_10_10 cT_1 (wdc wid_119 wd_1) rfl rfl
theorem r119_8 : runs cal 119 8 [v0] [vR 2, vR 2] I = runs cal 119 11 [v0] [vI (I 2 4), vR 2] I := st_getI (ins_of mI_119 (by rfl)) mC_119 (by decide) fr_10_99 cT_2 (wdc wid_119 wd_2) (Or.inl rfl)
theorem r119_11 : runs cal 119 11 [v0] [vI x0, vR 2] I = (cal 15 [vR 2, vI x0] I).bind (fun q => runs cal 119 14 [v0] (pushR q.1 []) q.2) := st_call (st := false) (ins_of mI_119 (by rfl)) mC_119 mr_10_175 (by decide) mS_15 mN_15 rfl (Nat.le_of_ble_eq_true rfl) rfl rfl (Or.inr ⟨_, _, rfl, rcv mC_15 rfl wid_119 (by decide +kernel)⟩) (Or.inl (wid_119.trans wid_15.symm))
theorem r119_14 : runs cal 119 14 [v0] [vI x0] I = if x0 = 0 then runs cal 119 21 [v0] [] I else runs cal 119 17 [v0] [] I := st_if_eq (ins_of mI_119 (by rfl)) (by decide)
theorem r119_17 : runs cal 119 17 [v0] [] I = runs cal 119 18 [v0] [vI (1)] I := runs_to (ins_of mI_119 (by rfl)) rfl rfl
theorem r119_18 : runs cal 119 18 [v0] [vI x0] I = runs cal 119 22 [v0] [vI x0] I := st_goto (ins_of mI_119 (by rfl)) (by decide)
theorem r119_21 : runs cal 119 21 [v0] [] I = runs cal 119 22 [v0] [vI (0)] I := runs_to (ins_of mI_119 (by rfl)) rfl rfl
theorem r119_22 : runs cal 119 22 [v0] [vI x0] I = some (some (vI x0), I) := st_ret (q := some (vI x0)) (k := 0) (ins_of mI_119 (by rfl)) rfl (by decide) mR_119 rfl trivial
theorem r120_0 : runs cal 120 0 [vR 1] [] I = runs cal 120 1 [vR 1] [vR 1] I := runs_to (ins_of mI_120 (by rfl)) rfl rfl
theorem r120_1 : runs cal 120 1 [v0] [vR 1] I = runs cal 120 4 [v0] [vR 27] I := st_getR (ins_of mI_120 (by rfl)) mC_120 (by decide) fr_10_52 cT_1 (wdc wid_120 wd_1) rfl rfl
theorem r120_4 : runs cal 120 4 [vR 1] [vR 27] I = runs cal 120 5 [vR 1] [vR 1, vR 27] I := runs_to (ins_of mI_120 (by rfl)) rfl rfl
theorem r120_5 : runs cal 120 5 [v0] [vR 1, vR 27] I = runs cal 120 8 [v0] [vR 2, vR 27] I := st_getR (ins_of mI_120 (by rfl)) mC_120 (by decide) fr_10_10 cT_1 (wdc wid_120 wd_1) rfl rfl
theorem r120_8 : runs cal 120 8 [v0] [vR 2, vR 27] I = (cal 84 [vR 27, vR 2] I).bind (fun q => runs cal 120 11 [v0] (pushR q.1 []) q.2) := st_call (st := false) (ins_of mI_120 (by rfl)) mC_120 mr_10_178 (by decide) mS_84 mN_84 rfl (Nat.le_of_ble_eq_true rfl) rfl rfl (Or.inr ⟨_, _, rfl, rcv mC_84 rfl wid_120 (by decide +kernel)⟩) (Or.inl (wid_120.trans wid_84.symm))
theorem r120_11 : runs cal 120 11 [v0] [vI x0] I = some (some (vI x0), I) := st_ret (q := some (vI x0)) (k := 0) (ins_of mI_120 (by rfl)) rfl (by decide) mR_120 rfl trivial
theorem r121_0 : runs cal 121 0 [v0, vI w, v2] [] I = runs cal 121 1 [v0, vI w, v2] [vI w] I := runs_to (ins_of mI_121 (by rfl)) rfl rfl
theorem r121_1 : runs cal 121 1 [v0, v1, v2] [vI x0] I = if x0 < 0 then runs cal 121 4 [v0, v1, v2] [] I else runs cal 121 13 [v0, v1, v2] [] I := st_if_ge (ins_of mI_121 (by rfl)) (by decide)
theorem r121_4 : runs cal 121 4 [vR 1, v1, v2] [] I = runs cal 121 5 [vR 1, v1, v2] [vR 1] I := runs_to (ins_of mI_121 (by rfl)) rfl rfl
theorem r121_5 : runs cal 121 5 [v0, v1, v2] [vR 1] I = runs cal 121 7 [v0, v1, v2] [vI (-2), vR 1] I := runs_to (ins_of mI_121 (by rfl)) rfl rfl
theorem r121_7 : runs cal 121 7 [v0, v1, v2] [vI x0, vR 1] I = runs cal 121 9 [v0, v1, v2] [vI (-10), vI x0, vR 1] I := runs_to (ins_of mI_121 (by rfl)) rfl rfl
theorem r121_9 : runs cal 121 9 [v0, v1, v2] [vI x0, vI x1, vR 1] I = (cal 138 [vR 1, vI x1, vI x0] I).bind (fun q => runs cal 121 12 [v0, v1, v2] (pushR q.1 []) q.2) := st_call (st := false) (ins_of mI_121 (by rfl)) mC_121 mr_10_80 (by decide) mS_138 mN_138 rfl (Nat.le_of_ble_eq_true rfl) rfl rfl (Or.inr ⟨_, _, rfl, rcv mC_138 rfl wid_121 (by decide +kernel)⟩) (Or.inl (wid_121.trans wid_138.symm))
theorem r121_12 : runs cal 121 12 [v0, v1, v2] [vI x0] I = some (some (vI x0), I) := st_ret (q := some (vI x0)) (k := 0) (ins_of mI_121 (by rfl)) rfl (by decide) mR_121 rfl trivial
theorem r121_13 : runs cal 121 13 [vR 1, v1, v2] [] I = runs cal 121 14 [vR 1, v1, v2] [vR 1] I := runs_to (ins_of mI_121 (by rfl)) rfl rfl
theorem r121_14 : runs cal 121 14 [v0, v1, v2] [vR 1] I = runs cal 121 17 [v0, v1, v2] [vR 27] I := st_getR (ins_of mI_121 (by rfl)) mC_121 (by decide) fr_10_52 cT_1 (wdc wid_121 wd_1) rfl rfl
theorem r121_17 : runs cal 121 17 [vR 1, v1, v2] [vR 27] I = runs cal 121 18 [vR 1, v1, v2] [vR 1, vR 27] I := runs_to (ins_of mI_121 (by rfl)) rfl rfl
theorem r121_18 : runs cal 121 18 [v0, v1, v2] [vR 1, vR 27] I = runs cal 121 21 [v0, v1, v2] [vR 2, vR 27] I := st_getR (ins_of mI_121 (by rfl)) mC_121 (by decide) fr_10_10 cT_1 (wdc wid_121 wd_1) rfl rfl
theorem r121_21 : runs cal 121 21 [v0, v1, v2] [vR 2, vR 27] I = (cal 84 [vR 27, vR 2] I).bind (fun q => runs cal 121 24 [v0, v1, v2] (pushR q.1 []) q.2) := st_call (st := false) (ins_of mI_121 (by rfl)) mC_121 mr_10_178 (by decide) mS_84 mN_84 rfl (Nat.le_of_ble_eq_true rfl) rfl rfl (Or.inr ⟨_, _, rfl, rcv mC_84 rfl wid_121 (by decide +kernel)⟩) (Or.inl (wid_121.trans wid_84.symm))
theorem r121_24 : runs cal 121 24 [v0, vI u, v2] [vI x0] I = runs cal 121 25 [v0, vI u, vI x0] [] I := runs_to (ins_of mI_121 (by rfl)) rfl rfl
theorem r121_25 : runs cal 121 25 [v0, vI w, v2] [] I = runs cal 121 26 [v0, vI w, v2] [vI w] I := runs_to (ins_of mI_121 (by rfl)) rfl rfl
theorem r121_26 : runs cal 121 26 [v0, v1, vI w] [vI x0] I = runs cal 121 27 [v0, v1, vI w] [vI w, vI x0] I := runs_to (ins_of mI_121 (by rfl)) rfl rfl
theorem r121_27 : runs cal 121 27 [v0, v1, v2] [vI x0, vI x1] I = if x1 < x0 then runs cal 121 30 [v0, v1, v2] [] I else runs cal 121 41 [v0, v1, v2] [] I := st_cmp_ge (ins_of mI_121 (by rfl)) (by decide)
theorem r121_30 : runs cal 121 30 [vR 1, v1, v2] [] I = runs cal 121 31 [vR 1, v1, v2] [vR 1] I := runs_to (ins_of mI_121 (by rfl)) rfl rfl
theorem r121_31 : runs cal 121 31 [v0, v1, v2] [vR 1] I = runs cal 121 34 [v0, v1, v2] [vR 27] I := st_getR (ins_of mI_121 (by rfl)) mC_121 (by decide) fr_10_52 cT_1 (wdc wid_121 wd_1) rfl rfl
theorem r121_34 : runs cal 121 34 [v0, vI w, v2] [vR 27] I = runs cal 121 35 [v0, vI w, v2] [vI w, vR 27] I := runs_to (ins_of mI_121 (by rfl)) rfl rfl
theorem r121_35 : runs cal 121 35 [v0, v1, v2] [vI x0, vR 27] I = (cal 85 [vR 27, vI x0] I).bind (fun q => runs cal 121 38 [v0, v1, v2] (pushR q.1 []) q.2) := st_call (st := false) (ins_of mI_121 (by rfl)) mC_121 mr_10_181 (by decide) mS_85 mN_85 rfl (Nat.le_of_ble_eq_true rfl) rfl rfl (Or.inr ⟨_, _, rfl, rcv mC_85 rfl wid_121 (by decide +kernel)⟩) (Or.inl (wid_121.trans wid_85.symm))
theorem r121_38 : runs cal 121 38 [v0, v1, v2] [vI x0] I = runs cal 121 43 [v0, v1, v2] [vI x0] I := st_goto (ins_of mI_121 (by rfl)) (by decide)
theorem r121_41 : runs cal 121 41 [v0, v1, v2] [] I = runs cal 121 43 [v0, v1, v2] [vI (-5)] I := runs_to (ins_of mI_121 (by rfl)) rfl rfl
theorem r121_43 : runs cal 121 43 [v0, v1, v2] [vI x0] I = some (some (vI x0), I) := st_ret (q := some (vI x0)) (k := 0) (ins_of mI_121 (by rfl)) rfl (by decide) mR_121 rfl trivial
theorem r122_0 : runs cal 122 0 [vR 1, v1] [] I = runs cal 122 1 [vR 1, v1] [vR 1] I := runs_to (ins_of mI_122 (by rfl)) rfl rfl
theorem r122_1 : runs cal 122 1 [v0, v1] [vR 1] I = runs cal 122 4 [v0, v1] [vR 2] I := st_getR (ins_of mI_122 (by rfl)) mC_122 (by decide) fr_10_10 cT_1 (wdc wid_122 wd_1) rfl rfl
theorem r122_4 : runs cal 122 4 [v0, vI w] [vR 2] I = runs cal 122 5 [v0, vI w] [vI w, vR 2] I := runs_to (ins_of mI_122 (by rfl)) rfl rfl
theorem r122_5 : runs cal 122 5 [v0, v1] [vI x0, vR 2] I = (cal 5 [vR 2, vI x0] I).bind (fun q => runs cal 122 8 [v0, v1] (pushR q.1 []) q.2) := st_call (st := false) (ins_of mI_122 (by rfl)) mC_122 mr_10_143 (by decide) mS_5 mN_5 rfl (Nat.le_of_ble_eq_true rfl) rfl rfl (Or.inr ⟨_, _, rfl, rcv mC_5 rfl wid_122 (by decide +kernel)⟩) (Or.inl (wid_122.trans wid_5.symm))
theorem r122_8 : runs cal 122 8 [v0, v1] [vI x0] I = if x0 = 0 then runs cal 122 11 [v0, v1] [] I else runs cal 122 20 [v0, v1] [] I := st_if_ne (ins_of mI_122 (by rfl)) (by decide)
theorem r122_11 : runs cal 122 11 [vR 1, v1] [] I = runs cal 122 12 [vR 1, v1] [vR 1] I := runs_to (ins_of mI_122 (by rfl)) rfl rfl
theorem r122_12 : runs cal 122 12 [v0, v1] [vR 1] I = runs cal 122 14 [v0, v1] [vI (-2), vR 1] I := runs_to (ins_of mI_122 (by rfl)) rfl rfl
theorem r122_14 : runs cal 122 14 [v0, v1] [vI x0, vR 1] I = runs cal 122 16 [v0, v1] [vI (-2), vI x0, vR 1] I := runs_to (ins_of mI_122 (by rfl)) rfl rfl
theorem r122_16 : runs cal 122 16 [v0, v1] [vI x0, vI x1, vR 1] I = (cal 138 [vR 1, vI x1, vI x0] I).bind (fun q => runs cal 122 19 [v0, v1] (pushR q.1 []) q.2) := st_call (st := false) (ins_of mI_122 (by rfl)) mC_122 mr_10_80 (by decide) mS_138 mN_138 rfl (Nat.le_of_ble_eq_true rfl) rfl rfl (Or.inr ⟨_, _, rfl, rcv mC_138 rfl wid_122 (by decide +kernel)⟩) (Or.inl (wid_122.trans wid_138.symm))
theorem r122_19 : runs cal 122 19 [v0, v1] [vI x0] I = some (some (vI x0), I) := st_ret (q := some (vI x0)) (k := 0) (ins_of mI_122 (by rfl)) rfl (by decide) mR_122 rfl trivial
theorem r122_20 : runs cal 122 20 [vR 1, v1] [] I = runs cal 122 21 [vR 1, v1] [vR 1] I := runs_to (ins_of mI_122 (by rfl)) rfl rfl
theorem r122_21 : runs cal 122 21 [v0, v1] [vR 1] I = runs cal 122 24 [v0, v1] [vR 27] I := st_getR (ins_of mI_122 (by rfl)) mC_122 (by decide) fr_10_52 cT_1 (wdc wid_122 wd_1) rfl rfl
theorem r122_24 : runs cal 122 24 [vR 1, v1] [vR 27] I = runs cal 122 25 [vR 1, v1] [vR 1, vR 27] I := runs_to (ins_of mI_122 (by rfl)) rfl rfl
theorem r122_25 : runs cal 122 25 [v0, v1] [vR 1, vR 27] I = runs cal 122 28 [v0, v1] [vR 2, vR 27] I := st_getR (ins_of mI_122 (by rfl)) mC_122 (by decide) fr_10_10 cT_1 (wdc wid_122 wd_1) rfl rfl
theorem r122_28 : runs cal 122 28 [v0, vI w] [vR 2, vR 27] I = runs cal 122 29 [v0, vI w] [vI w, vR 2, vR 27] I := runs_to (ins_of mI_122 (by rfl)) rfl rfl
theorem r122_29 : runs cal 122 29 [v0, v1] [vI x0, vR 2, vR 27] I = (cal 87 [vR 27, vR 2, vI x0] I).bind (fun q => runs cal 122 32 [v0, v1] (pushR q.1 []) q.2) := st_call (st := false) (ins_of mI_122 (by rfl)) mC_122 mr_10_184 (by decide) mS_87 mN_87 rfl (Nat.le_of_ble_eq_true rfl) rfl rfl (Or.inr ⟨_, _, rfl, rcv mC_87 rfl wid_122 (by decide +kernel)⟩) (Or.inl (wid_122.trans wid_87.symm))
theorem r122_32 : runs cal 122 32 [v0, v1] [vI x0] I = some (some (vI x0), I) := st_ret (q := some (vI x0)) (k := 0) (ins_of mI_122 (by rfl)) rfl (by decide) mR_122 rfl trivial
theorem r123_0 : runs cal 123 0 [v0, vI w] [] I = runs cal 123 1 [v0, vI w] [vI w] I := runs_to (ins_of mI_123 (by rfl)) rfl rfl
theorem r123_1 : runs cal 123 1 [v0, v1] [vI x0] I = runs cal 123 2 [v0, v1] [vI (-1), vI x0] I := runs_to (ins_of mI_123 (by rfl)) rfl rfl
theorem r123_2 : runs cal 123 2 [v0, v1] [vI x0, vI x1] I = if x1 = x0 then runs cal 123 25 [v0, v1] [] I else runs cal 123 5 [v0, v1] [] I := st_cmp_eq (ins_of mI_123 (by rfl)) (by decide)
theorem r123_5 : runs cal 123 5 [vR 1, v1] [] I = runs cal 123 6 [vR 1, v1] [vR 1] I := runs_to (ins_of mI_123 (by rfl)) rfl rfl
theorem r123_6 : runs cal 123 6 [v0, v1] [vR 1] I = runs cal 123 9 [v0, v1] [vR 2] I := st_getR (ins_of mI_123 (by rfl)) mC_123 (by decide) fr_10_10 cT_1 (wdc wid_123 wd_1) rfl rfl
theorem r123_9 : runs cal 123 9 [v0, vI w] [vR 2] I = runs cal 123 10 [v0, vI w] [vI w, vR 2] I := runs_to (ins_of mI_123 (by rfl)) rfl rfl
theorem r123_10 : runs cal 123 10 [v0, v1] [vI x0, vR 2] I = (cal 5 [vR 2, vI x0] I).bind (fun q => runs cal 123 13 [v0, v1] (pushR q.1 []) q.2) := st_call (st := false) (ins_of mI_123 (by rfl)) mC_123 mr_10_143 (by decide) mS_5 mN_5 rfl (Nat.le_of_ble_eq_true rfl) rfl rfl (Or.inr ⟨_, _, rfl, rcv mC_5 rfl wid_123 (by decide +kernel)⟩) (Or.inl (wid_123.trans wid_5.symm))
theorem r123_13 : runs cal 123 13 [v0, v1] [vI x0] I = if x0 = 0 then runs cal 123 16 [v0, v1] [] I else runs cal 123 25 [v0, v1] [] I := st_if_ne (ins_of mI_123 (by rfl)) (by decide)
theorem r123_16 : runs cal 123 16 [vR 1, v1] [] I = runs cal 123 17 [vR 1, v1] [vR 1] I := runs_to (ins_of mI_123 (by rfl)) rfl rfl
theorem r123_17 : runs cal 123 17 [v0, v1] [vR 1] I = runs cal 123 19 [v0, v1] [vI (-2), vR 1] I := runs_to (ins_of mI_123 (by rfl)) rfl rfl
theorem r123_19 : runs cal 123 19 [v0, v1] [vI x0, vR 1] I = runs cal 123 21 [v0, v1] [vI (-2), vI x0, vR 1] I := runs_to (ins_of mI_123 (by rfl)) rfl rfl
theorem r123_21 : runs cal 123 21 [v0, v1] [vI x0, vI x1, vR 1] I = (cal 138 [vR 1, vI x1, vI x0] I).bind (fun q => runs cal 123 24 [v0, v1] (pushR q.1 []) q.2) := st_call (st := false) (ins_of mI_123 (by rfl)) mC_123 mr_10_80 (by decide) mS_138 mN_138 rfl (Nat.le_of_ble_eq_true rfl) rfl rfl (Or.inr ⟨_, _, rfl, rcv mC_138 rfl wid_123 (by decide +kernel)⟩) (Or.inl (wid_123.trans wid_138.symm))
theorem r123_24 : runs cal 123 24 [v0, v1] [vI x0] I = some (some (vI x0), I) := st_ret (q := some (vI x0)) (k := 0) (ins_of mI_123 (by rfl)) rfl (by decide) mR_123 rfl trivial
theorem r123_25 : runs cal 123 25 [vR 1, v1] [] I = runs cal 123 26 [vR 1, v1] [vR 1] I := runs_to (ins_of mI_123 (by rfl)) rfl rfl
theorem r123_26 : runs cal 123 26 [v0, v1] [vR 1] I = runs cal 123 29 [v0, v1] [vR 27] I := st_getR (ins_of mI_123 (by rfl)) mC_123 (by decide) fr_10_52 cT_1 (wdc wid_123 wd_1) rfl rfl
theorem r123_29 : runs cal 123 29 [vR 1, v1] [vR 27] I = runs cal 123 30 [vR 1, v1] [vR 1, vR 27] I := runs_to (ins_of mI_123 (by rfl)) rfl rfl
theorem r123_30 : runs cal 123 30 [v0, v1] [vR 1, vR 27] I = runs cal 123 33 [v0, v1] [vR 2, vR 27] I := st_getR (ins_of mI_123 (by rfl)) mC_123 (by decide) fr_10_10 cT_1 (wdc wid_123 wd_1) rfl rfl
theorem r123_33 : runs cal 123 33 [v0, vI w] [vR 2, vR 27] I = runs cal 123 34 [v0, vI w] [vI w, vR 2, vR 27] I := runs_to (ins_of mI_123 (by rfl)) rfl rfl
theorem r123_34 : runs cal 123 34 [v0, v1] [vI x0, vR 2, vR 27] I = (cal 88 [vR 27, vR 2, vI x0] I).bind (fun q => runs cal 123 37 [v0, v1] (pushR q.1 []) q.2) := st_call (st := false) (ins_of mI_123 (by rfl)) mC_123 mr_10_188 (by decide) mS_88 mN_88 rfl (Nat.le_of_ble_eq_true rfl) rfl rfl (Or.inr ⟨_, _, rfl, rcv mC_88 rfl wid_123 (by decide +kernel)⟩) (Or.inl (wid_123.trans wid_88.symm))
theorem r123_37 : runs cal 123 37 [v0, v1] [vI x0] I = some (some (vI x0), I) := st_ret (q := some (vI x0)) (k := 0) (ins_of mI_123 (by rfl)) rfl (by decide) mR_123 rfl trivial
theorem r124_0 : runs cal 124 0 [v0, vI w, v2, v3] [] I = runs cal 124 1 [v0, vI w, v2, v3] [vI w] I := runs_to (ins_of mI_124 (by rfl)) rfl rfl
theorem r124_1 : runs cal 124 1 [v0, v1, v2, v3] [vI x0] I = runs cal 124 2 [v0, v1, v2, v3] [vI (-1), vI x0] I := runs_to (ins_of mI_124 (by rfl)) rfl rfl
theorem r124_2 : runs cal 124 2 [v0, v1, v2, v3] [vI x0, vI x1] I = if x1 < x0 then runs cal 124 5 [v0, v1, v2, v3] [] I else runs cal 124 14 [v0, v1, v2, v3] [] I := st_cmp_ge (ins_of mI_124 (by rfl)) (by decide)
theorem r124_5 : runs cal 124 5 [vR 1, v1, v2, v3] [] I = runs cal 124 6 [vR 1, v1, v2, v3] [vR 1] I := runs_to (ins_of mI_124 (by rfl)) rfl rfl
theorem r124_6 : runs cal 124 6 [v0, v1, v2, v3] [vR 1] I = runs cal 124 8 [v0, v1, v2, v3] [vI (-2), vR 1] I := runs_to (ins_of mI_124 (by rfl)) rfl rfl
theorem r124_8 : runs cal 124 8 [v0, v1, v2, v3] [vI x0, vR 1] I = runs cal 124 10 [v0, v1, v2, v3] [vI (-10), vI x0, vR 1] I := runs_to (ins_of mI_124 (by rfl)) rfl rfl
theorem r124_10 : runs cal 124 10 [v0, v1, v2, v3] [vI x0, vI x1, vR 1] I = (cal 138 [vR 1, vI x1, vI x0] I).bind (fun q => runs cal 124 13 [v0, v1, v2, v3] (pushR q.1 []) q.2) := st_call (st := false) (ins_of mI_124 (by rfl)) mC_124 mr_10_80 (by decide) mS_138 mN_138 rfl (Nat.le_of_ble_eq_true rfl) rfl rfl (Or.inr ⟨_, _, rfl, rcv mC_138 rfl wid_124 (by decide +kernel)⟩) (Or.inl (wid_124.trans wid_138.symm))
theorem r124_13 : runs cal 124 13 [v0, v1, v2, v3] [vI x0] I = some (some (vI x0), I) := st_ret (q := some (vI x0)) (k := 0) (ins_of mI_124 (by rfl)) rfl (by decide) mR_124 rfl trivial
theorem r124_14 : runs cal 124 14 [v0, v1, v2, v3] [] I = runs cal 124 15 [v0, v1, v2, v3] [vI (0)] I := runs_to (ins_of mI_124 (by rfl)) rfl rfl
theorem r124_15 : runs cal 124 15 [v0, vI u, v2, v3] [vI x0] I = runs cal 124 16 [v0, vI u, vI x0, v3] [] I := runs_to (ins_of mI_124 (by rfl)) rfl rfl
theorem r124_16 : runs cal 124 16 [v0, v1, v2, v3] [] I = runs cal 124 17 [v0, v1, v2, v3] [vI (0)] I := runs_to (ins_of mI_124 (by rfl)) rfl rfl
theorem r124_17 : runs cal 124 17 [v0, v1, vI u, v3] [vI x0] I = runs cal 124 18 [v0, v1, vI u, vI x0] [] I := runs_to (ins_of mI_124 (by rfl)) rfl rfl
theorem r124_18 : runs cal 124 18 [v0, v1, v2, vI w] [] I = runs cal 124 19 [v0, v1, v2, vI w] [vI w] I := runs_to (ins_of mI_124 (by rfl)) rfl rfl
theorem r124_19 : runs cal 124 19 [v0, v1, v2, v3] [vI x0] I = runs cal 124 22 [v0, v1, v2, v3] [vI (1024), vI x0] I := runs_to (ins_of mI_124 (by rfl)) rfl rfl
theorem r124_22 : runs cal 124 22 [v0, v1, v2, v3] [vI x0, vI x1] I = if x1 < x0 then runs cal 124 25 [v0, v1, v2, v3] [] I else runs cal 124 61 [v0, v1, v2, v3] [] I := st_cmp_ge (ins_of mI_124 (by rfl)) (by decide)
theorem r124_25 : runs cal 124 25 [vR 1, v1, v2, v3] [] I = runs cal 124 26 [vR 1, v1, v2, v3] [vR 1] I := runs_to (ins_of mI_124 (by rfl)) rfl rfl
theorem r124_26 : runs cal 124 26 [v0, v1, v2, v3] [vR 1] I = runs cal 124 29 [v0, v1, v2, v3] [vR 2] I := st_getR (ins_of mI_124 (by rfl)) mC_124 (by decide) fr_10_10 cT_1 (wdc wid_124 wd_1) rfl rfl
theorem r124_29 : runs cal 124 29 [vR 1, v1, v2, v3] [vR 2] I = runs cal 124 30 [vR 1, v1, v2, v3] [vR 1, vR 2] I := runs_to (ins_of mI_124 (by rfl)) rfl rfl
theorem r124_30 : runs cal 124 30 [v0, v1, v2, v3] [vR 1, vR 2] I = runs cal 124 33 [v0, v1, v2, v3] [vR 2, vR 2] I := st_getR (ins_of mI_124 (by rfl)) mC_124 (by decide) fr_10_10 cT_1 (wdc wid_124 wd_1) rfl rfl
theorem r124_33 : runs cal 124 33 [v0, v1, v2, v3] [vR 2, vR 2] I = runs cal 124 36 [v0, v1, v2, v3] [vI (I 2 4), vR 2] I := st_getI (ins_of mI_124 (by rfl)) mC_124 (by decide) fr_10_99 cT_2 (wdc wid_124 wd_2) (Or.inl rfl)
theorem r124_36 : runs cal 124 36 [v0, v1, v2, vI w] [vI x0, vR 2] I = runs cal 124 37 [v0, v1, v2, vI w] [vI w, vI x0, vR 2] I := runs_to (ins_of mI_124 (by rfl)) rfl rfl
theorem r124_37 : runs cal 124 37 [v0, v1, v2, v3] [vI x0, vI x1, vR 2] I = (cal 32 [vR 2, vI x1, vI x0] I).bind (fun q => runs cal 124 40 [v0, v1, v2, v3] (pushR q.1 []) q.2) := st_call (st := false) (ins_of mI_124 (by rfl)) mC_124 mr_10_191 (by decide) mS_32 mN_32 rfl (Nat.le_of_ble_eq_true rfl) rfl rfl (Or.inr ⟨_, _, rfl, rcv mC_32 rfl wid_124 (by decide +kernel)⟩) (Or.inl (wid_124.trans wid_32.symm))
theorem r124_40 : runs cal 124 40 [v0, v1, v2, v3] [vI x0] I = runs cal 124 42 [v0, v1, v2, v3] [vI (-3), vI x0] I := runs_to (ins_of mI_124 (by rfl)) rfl rfl
theorem r124_42 : runs cal 124 42 [v0, v1, v2, v3] [vI x0, vI x1] I = if x1 = x0 then runs cal 124 45 [v0, v1, v2, v3] [] I else runs cal 124 55 [v0, v1, v2, v3] [] I := st_cmp_ne (ins_of mI_124 (by rfl)) (by decide)
theorem r124_45 : runs cal 124 45 [v0, v1, vI w, v3] [] I = runs cal 124 46 [v0, v1, vI w, v3] [vI w] I := runs_to (ins_of mI_124 (by rfl)) rfl rfl
theorem r124_46 : runs cal 124 46 [v0, vI w, v2, v3] [vI x0] I = runs cal 124 47 [v0, vI w, v2, v3] [vI w, vI x0] I := runs_to (ins_of mI_124 (by rfl)) rfl rfl
theorem r124_47 : runs cal 124 47 [v0, v1, v2, v3] [vI x0, vI x1] I = if x1 = x0 then runs cal 124 50 [v0, v1, v2, v3] [] I else runs cal 124 52 [v0, v1, v2, v3] [] I := st_cmp_ne (ins_of mI_124 (by rfl)) (by decide)
theorem r124_50 : runs cal 124 50 [v0, v1, v2, vI w] [] I = runs cal 124 51 [v0, v1, v2, vI w] [vI w] I := runs_to (ins_of mI_124 (by rfl)) rfl rfl
theorem r124_51 : runs cal 124 51 [v0, v1, v2, v3] [vI x0] I = some (some (vI x0), I) := st_ret (q := some (vI x0)) (k := 0) (ins_of mI_124 (by rfl)) rfl (by decide) mR_124 rfl trivial
theorem r124_52 : runs cal 124 52 [v0, vI u, vI w, v3] [] I = runs cal 124 55 [v0, vI u, vI (iadd w (1)), v3] [] I := runs_to (ins_of mI_124 (by rfl)) rfl rfl
theorem r124_55 : runs cal 124 55 [v0, v1, vI u, vI w] [] I = runs cal 124 58 [v0, v1, vI u, vI (iadd w (1))] [] I := runs_to (ins_of mI_124 (by rfl)) rfl rfl
theorem r124_58 : runs cal 124 58 [v0, v1, v2, v3] [] I = runs cal 124 18 [v0, v1, v2, v3] [] I := st_goto (ins_of mI_124 (by rfl)) (by decide)
theorem r124_61 : runs cal 124 61 [v0, vI w, v2, v3] [] I = runs cal 124 62 [v0, vI w, v2, v3] [vI w] I := runs_to (ins_of mI_124 (by rfl)) rfl rfl
theorem r124_62 : runs cal 124 62 [v0, v1, v2, v3] [vI x0] I = runs cal 124 63 [v0, v1, v2, v3] [vI (-1), vI x0] I := runs_to (ins_of mI_124 (by rfl)) rfl rfl
theorem r124_63 : runs cal 124 63 [v0, v1, v2, v3] [vI x0, vI x1] I = if x1 = x0 then runs cal 124 66 [v0, v1, v2, v3] [] I else runs cal 124 70 [v0, v1, v2, v3] [] I := st_cmp_ne (ins_of mI_124 (by rfl)) (by decide)
theorem r124_66 : runs cal 124 66 [v0, v1, vI w, v3] [] I = runs cal 124 67 [v0, v1, vI w, v3] [vI w] I := runs_to (ins_of mI_124 (by rfl)) rfl rfl
theorem r124_67 : runs cal 124 67 [v0, v1, v2, v3] [vI x0] I = runs cal 124 72 [v0, v1, v2, v3] [vI x0] I := st_goto (ins_of mI_124 (by rfl)) (by decide)
theorem r124_70 : runs cal 124 70 [v0, v1, v2, v3] [] I = runs cal 124 72 [v0, v1, v2, v3] [vI (-5)] I := runs_to (ins_of mI_124 (by rfl)) rfl rfl
theorem r124_72 : runs cal 124 72 [v0, v1, v2, v3] [vI x0] I = some (some (vI x0), I) := st_ret (q := some (vI x0)) (k := 0) (ins_of mI_124 (by rfl)) rfl (by decide) mR_124 rfl trivial
theorem r125_0 : runs cal 125 0 [v0, vI w] [] I = runs cal 125 1 [v0, vI w] [vI w] I := runs_to (ins_of mI_125 (by rfl)) rfl rfl
theorem r125_1 : runs cal 125 1 [v0, v1] [vI x0] I = if x0 < 0 then runs cal 125 10 [v0, v1] [] I else runs cal 125 4 [v0, v1] [] I := st_if_lt (ins_of mI_125 (by rfl)) (by decide)
theorem r125_4 : runs cal 125 4 [v0, vI w] [] I = runs cal 125 5 [v0, vI w] [vI w] I := runs_to (ins_of mI_125 (by rfl)) rfl rfl
theorem r125_5 : runs cal 125 5 [v0, v1] [vI x0] I = runs cal 125 7 [v0, v1] [vI (127), vI x0] I := runs_to (ins_of mI_125 (by rfl)) rfl rfl
theorem r125_7 : runs cal 125 7 [v0, v1] [vI x0, vI x1] I = if x0 < x1 then runs cal 125 10 [v0, v1] [] I else runs cal 125 19 [v0, v1] [] I := st_cmp_le (ins_of mI_125 (by rfl)) (by decide)
theorem r125_10 : runs cal 125 10 [vR 1, v1] [] I = runs cal 125 11 [vR 1, v1] [vR 1] I := runs_to (ins_of mI_125 (by rfl)) rfl rfl
theorem r125_11 : runs cal 125 11 [v0, v1] [vR 1] I = runs cal 125 13 [v0, v1] [vI (-2), vR 1] I := runs_to (ins_of mI_125 (by rfl)) rfl rfl
theorem r125_13 : runs cal 125 13 [v0, v1] [vI x0, vR 1] I = runs cal 125 15 [v0, v1] [vI (-2), vI x0, vR 1] I := runs_to (ins_of mI_125 (by rfl)) rfl rfl
theorem r125_15 : runs cal 125 15 [v0, v1] [vI x0, vI x1, vR 1] I = (cal 138 [vR 1, vI x1, vI x0] I).bind (fun q => runs cal 125 18 [v0, v1] (pushR q.1 []) q.2) := st_call (st := false) (ins_of mI_125 (by rfl)) mC_125 mr_10_80 (by decide) mS_138 mN_138 rfl (Nat.le_of_ble_eq_true rfl) rfl rfl (Or.inr ⟨_, _, rfl, rcv mC_138 rfl wid_125 (by decide +kernel)⟩) (Or.inl (wid_125.trans wid_138.symm))
theorem r125_18 : runs cal 125 18 [v0, v1] [vI x0] I = some (some (vI x0), I) := st_ret (q := some (vI x0)) (k := 0) (ins_of mI_125 (by rfl)) rfl (by decide) mR_125 rfl trivial
theorem r125_19 : runs cal 125 19 [vR 1, v1] [] I = runs cal 125 20 [vR 1, v1] [vR 1] I := runs_to (ins_of mI_125 (by rfl)) rfl rfl
theorem r125_20 : runs cal 125 20 [v0, v1] [vR 1] I = runs cal 125 23 [v0, v1] [vR 21] I := st_getR (ins_of mI_125 (by rfl)) mC_125 (by decide) fr_10_38 cT_1 (wdc wid_125 wd_1) rfl rfl
theorem r125_23 : runs cal 125 23 [v0, v1] [vR 21] I = runs cal 125 26 [v0, v1] [vI (I 21 1)] I := st_getI (ins_of mI_125 (by rfl)) mC_125 (by decide) fr_10_194 cT_21 (wdc wid_125 wd_21) (Or.inl rfl)
theorem r125_26 : runs cal 125 26 [v0, v1] [vI x0] I = runs cal 125 28 [v0, v1] [vI (40), vI x0] I := runs_to (ins_of mI_125 (by rfl)) rfl rfl
theorem r125_28 : runs cal 125 28 [v0, v1] [vI x0, vI x1] I = if x1 < x0 then runs cal 125 40 [v0, v1] [] I else runs cal 125 31 [v0, v1] [] I := st_cmp_lt (ins_of mI_125 (by rfl)) (by decide)
theorem r125_31 : runs cal 125 31 [vR 1, v1] [] I = runs cal 125 32 [vR 1, v1] [vR 1] I := runs_to (ins_of mI_125 (by rfl)) rfl rfl
theorem r125_32 : runs cal 125 32 [v0, v1] [vR 1] I = runs cal 125 34 [v0, v1] [vI (-4), vR 1] I := runs_to (ins_of mI_125 (by rfl)) rfl rfl
theorem r125_34 : runs cal 125 34 [v0, v1] [vI x0, vR 1] I = runs cal 125 36 [v0, v1] [vI (-4), vI x0, vR 1] I := runs_to (ins_of mI_125 (by rfl)) rfl rfl
theorem r125_36 : runs cal 125 36 [v0, v1] [vI x0, vI x1, vR 1] I = (cal 138 [vR 1, vI x1, vI x0] I).bind (fun q => runs cal 125 39 [v0, v1] (pushR q.1 []) q.2) := st_call (st := false) (ins_of mI_125 (by rfl)) mC_125 mr_10_80 (by decide) mS_138 mN_138 rfl (Nat.le_of_ble_eq_true rfl) rfl rfl (Or.inr ⟨_, _, rfl, rcv mC_138 rfl wid_125 (by decide +kernel)⟩) (Or.inl (wid_125.trans wid_138.symm))
theorem r125_39 : runs cal 125 39 [v0, v1] [vI x0] I = some (some (vI x0), I) := st_ret (q := some (vI x0)) (k := 0) (ins_of mI_125 (by rfl)) rfl (by decide) mR_125 rfl trivial
theorem r125_40 : runs cal 125 40 [vR 1, v1] [] I = runs cal 125 41 [vR 1, v1] [vR 1] I := runs_to (ins_of mI_125 (by rfl)) rfl rfl
theorem r125_41 : runs cal 125 41 [v0, v1] [vR 1] I = runs cal 125 44 [v0, v1] [vR 21] I := st_getR (ins_of mI_125 (by rfl)) mC_125 (by decide) fr_10_38 cT_1 (wdc wid_125 wd_1) rfl rfl
theorem r125_44 : runs cal 125 44 [v0, vI w] [vR 21] I = runs cal 125 45 [v0, vI w] [vI w, vR 21] I := runs_to (ins_of mI_125 (by rfl)) rfl rfl
theorem r125_45 : runs cal 125 45 [v0, v1] [vI x0, vR 21] I = (cal 59 [vR 21, vI x0] I).bind (fun q => runs cal 125 48 [v0, v1] (pushR q.1 []) q.2) := st_call (st := false) (ins_of mI_125 (by rfl)) mC_125 mr_10_195 (by decide) mS_59 mN_59 rfl (Nat.le_of_ble_eq_true rfl) rfl rfl (Or.inr ⟨_, _, rfl, rcv mC_59 rfl wid_125 (by decide +kernel)⟩) (Or.inl (wid_125.trans wid_59.symm))
theorem r125_48 : runs cal 125 48 [vR 1, v1] [] I = runs cal 125 49 [vR 1, v1] [vR 1] I := runs_to (ins_of mI_125 (by rfl)) rfl rfl
theorem r125_49 : runs cal 125 49 [v0, v1] [vR 1] I = runs cal 125 52 [v0, v1] [vR 21] I := st_getR (ins_of mI_125 (by rfl)) mC_125 (by decide) fr_10_38 cT_1 (wdc wid_125 wd_1) rfl rfl
theorem r125_52 : runs cal 125 52 [v0, v1] [vR 21] I = runs cal 125 55 [v0, v1] [vI (I 21 1)] I := st_getI (ins_of mI_125 (by rfl)) mC_125 (by decide) fr_10_194 cT_21 (wdc wid_125 wd_21) (Or.inl rfl)
theorem r125_55 : runs cal 125 55 [v0, v1] [vI x0] I = some (some (vI x0), I) := st_ret (q := some (vI x0)) (k := 0) (ins_of mI_125 (by rfl)) rfl (by decide) mR_125 rfl trivial
theorem r126_0 : runs cal 126 0 [vR 1, v1] [] I = runs cal 126 1 [vR 1, v1] [vR 1] I := runs_to (ins_of mI_126 (by rfl)) rfl rfl
theorem r126_1 : runs cal 126 1 [v0, v1] [vR 1] I = runs cal 126 4 [v0, v1] [vR 21] I := st_getR (ins_of mI_126 (by rfl)) mC_126 (by decide) fr_10_38 cT_1 (wdc wid_126 wd_1) rfl rfl
theorem r126_4 : runs cal 126 4 [v0, v1] [vR 21] I = runs cal 126 7 [v0, v1] [vI (I 21 1)] I := st_getI (ins_of mI_126 (by rfl)) mC_126 (by decide) fr_10_194 cT_21 (wdc wid_126 wd_21) (Or.inl rfl)
theorem r126_7 : runs cal 126 7 [vR b0, v1] [vI x0] I = runs cal 126 8 [vR b0, vI x0] [] I := runs_to (ins_of mI_126 (by rfl)) rfl rfl
theorem r126_8 : runs cal 126 8 [vR 1, v1] [] I = runs cal 126 9 [vR 1, v1] [vR 1] I := runs_to (ins_of mI_126 (by rfl)) rfl rfl
theorem r126_9 : runs cal 126 9 [v0, v1] [vR 1] I = runs cal 126 12 [v0, v1] [vR 21] I := st_getR (ins_of mI_126 (by rfl)) mC_126 (by decide) fr_10_38 cT_1 (wdc wid_126 wd_1) rfl rfl
theorem r126_12 : runs cal 126 12 [v0, v1] [vR 21] I = (cal 60 [vR 21] I).bind (fun q => runs cal 126 15 [v0, v1] (pushR q.1 []) q.2) := st_call (st := false) (ins_of mI_126 (by rfl)) mC_126 mr_10_196 (by decide) mS_60 mN_60 rfl (Nat.le_of_ble_eq_true rfl) rfl rfl (Or.inr ⟨_, _, rfl, rcv mC_60 rfl wid_126 (by decide +kernel)⟩) (Or.inl (wid_126.trans wid_60.symm))
theorem r126_15 : runs cal 126 15 [v0, vI w] [] I = runs cal 126 16 [v0, vI w] [vI w] I := runs_to (ins_of mI_126 (by rfl)) rfl rfl
theorem r126_16 : runs cal 126 16 [v0, v1] [vI x0] I = some (some (vI x0), I) := st_ret (q := some (vI x0)) (k := 0) (ins_of mI_126 (by rfl)) rfl (by decide) mR_126 rfl trivial
theorem r127_0 : runs cal 127 0 [vR 1] [] I = runs cal 127 1 [vR 1] [vR 1] I := runs_to (ins_of mI_127 (by rfl)) rfl rfl
theorem r127_1 : runs cal 127 1 [v0] [vR 1] I = runs cal 127 4 [v0] [vR 21] I := st_getR (ins_of mI_127 (by rfl)) mC_127 (by decide) fr_10_38 cT_1 (wdc wid_127 wd_1) rfl rfl
theorem r127_4 : runs cal 127 4 [v0] [vR 21] I = (cal 62 [vR 21] I).bind (fun q => runs cal 127 7 [v0] (pushR q.1 []) q.2) := st_call (st := false) (ins_of mI_127 (by rfl)) mC_127 mr_10_199 (by decide) mS_62 mN_62 rfl (Nat.le_of_ble_eq_true rfl) rfl rfl (Or.inr ⟨_, _, rfl, rcv mC_62 rfl wid_127 (by decide +kernel)⟩) (Or.inl (wid_127.trans wid_62.symm))
theorem r127_7 : runs cal 127 7 [v0] [vI x0] I = some (some (vI x0), I) := st_ret (q := some (vI x0)) (k := 0) (ins_of mI_127 (by rfl)) rfl (by decide) mR_127 rfl trivial
theorem r128_0 : runs cal 128 0 [v0, vI w, v2] [] I = runs cal 128 1 [v0, vI w, v2] [vI w] I := runs_to (ins_of mI_128 (by rfl)) rfl rfl
theorem r128_1 : runs cal 128 1 [v0, v1, v2] [vI x0] I = if x0 < 0 then runs cal 128 19 [v0, v1, v2] [] I else runs cal 128 4 [v0, v1, v2] [] I := st_if_lt (ins_of mI_128 (by rfl)) (by decide)
theorem r128_4 : runs cal 128 4 [v0, vI w, v2] [] I = runs cal 128 5 [v0, vI w, v2] [vI w] I := runs_to (ins_of mI_128 (by rfl)) rfl rfl
theorem r128_5 : runs cal 128 5 [v0, v1, v2] [vI x0] I = runs cal 128 7 [v0, v1, v2] [vI (40), vI x0] I := runs_to (ins_of mI_128 (by rfl)) rfl rfl
theorem r128_7 : runs cal 128 7 [v0, v1, v2] [vI x0, vI x1] I = if x0 < x1 then runs cal 128 19 [v0, v1, v2] [] I else runs cal 128 10 [v0, v1, v2] [] I := st_cmp_gt (ins_of mI_128 (by rfl)) (by decide)
theorem r128_10 : runs cal 128 10 [v0, v1, vI w] [] I = runs cal 128 11 [v0, v1, vI w] [vI w] I := runs_to (ins_of mI_128 (by rfl)) rfl rfl
theorem r128_11 : runs cal 128 11 [v0, v1, v2] [vI x0] I = if x0 < 0 then runs cal 128 19 [v0, v1, v2] [] I else runs cal 128 14 [v0, v1, v2] [] I := st_if_lt (ins_of mI_128 (by rfl)) (by decide)
theorem r128_14 : runs cal 128 14 [v0, v1, vI w] [] I = runs cal 128 15 [v0, v1, vI w] [vI w] I := runs_to (ins_of mI_128 (by rfl)) rfl rfl
theorem r128_15 : runs cal 128 15 [v0, v1, v2] [vI x0] I = runs cal 128 16 [v0, v1, v2] [vI (2), vI x0] I := runs_to (ins_of mI_128 (by rfl)) rfl rfl
theorem r128_16 : runs cal 128 16 [v0, v1, v2] [vI x0, vI x1] I = if x0 < x1 then runs cal 128 19 [v0, v1, v2] [] I else runs cal 128 28 [v0, v1, v2] [] I := st_cmp_le (ins_of mI_128 (by rfl)) (by decide)
theorem r128_19 : runs cal 128 19 [vR 1, v1, v2] [] I = runs cal 128 20 [vR 1, v1, v2] [vR 1] I := runs_to (ins_of mI_128 (by rfl)) rfl rfl
theorem r128_20 : runs cal 128 20 [v0, v1, v2] [vR 1] I = runs cal 128 22 [v0, v1, v2] [vI (-2), vR 1] I := runs_to (ins_of mI_128 (by rfl)) rfl rfl
theorem r128_22 : runs cal 128 22 [v0, v1, v2] [vI x0, vR 1] I = runs cal 128 24 [v0, v1, v2] [vI (-2), vI x0, vR 1] I := runs_to (ins_of mI_128 (by rfl)) rfl rfl
theorem r128_24 : runs cal 128 24 [v0, v1, v2] [vI x0, vI x1, vR 1] I = (cal 138 [vR 1, vI x1, vI x0] I).bind (fun q => runs cal 128 27 [v0, v1, v2] (pushR q.1 []) q.2) := st_call (st := false) (ins_of mI_128 (by rfl)) mC_128 mr_10_80 (by decide) mS_138 mN_138 rfl (Nat.le_of_ble_eq_true rfl) rfl rfl (Or.inr ⟨_, _, rfl, rcv mC_138 rfl wid_128 (by decide +kernel)⟩) (Or.inl (wid_128.trans wid_138.symm))
theorem r128_27 : runs cal 128 27 [v0, v1, v2] [vI x0] I = some (some (vI x0), I) := st_ret (q := some (vI x0)) (k := 0) (ins_of mI_128 (by rfl)) rfl (by decide) mR_128 rfl trivial
theorem r128_28 : runs cal 128 28 [vR 1, v1, v2] [] I = runs cal 128 29 [vR 1, v1, v2] [vR 1] I := runs_to (ins_of mI_128 (by rfl)) rfl rfl
theorem r128_29 : runs cal 128 29 [v0, v1, v2] [vR 1] I = runs cal 128 32 [v0, v1, v2] [vR 34] I := st_getR (ins_of mI_128 (by rfl)) mC_128 (by decide) fr_10_59 cT_1 (wdc wid_128 wd_1) rfl rfl
theorem r128_32 : runs cal 128 32 [vR 1, v1, v2] [vR 34] I = runs cal 128 33 [vR 1, v1, v2] [vR 1, vR 34] I := runs_to (ins_of mI_128 (by rfl)) rfl rfl
theorem r128_33 : runs cal 128 33 [v0, v1, v2] [vR 1, vR 34] I = runs cal 128 36 [v0, v1, v2] [vR 2, vR 34] I := st_getR (ins_of mI_128 (by rfl)) mC_128 (by decide) fr_10_10 cT_1 (wdc wid_128 wd_1) rfl rfl
theorem r128_36 : runs cal 128 36 [vR 1, v1, v2] [vR 2, vR 34] I = runs cal 128 37 [vR 1, v1, v2] [vR 1, vR 2, vR 34] I := runs_to (ins_of mI_128 (by rfl)) rfl rfl
theorem r128_37 : runs cal 128 37 [v0, v1, v2] [vR 1, vR 2, vR 34] I = runs cal 128 40 [v0, v1, v2] [vR 21, vR 2, vR 34] I := st_getR (ins_of mI_128 (by rfl)) mC_128 (by decide) fr_10_38 cT_1 (wdc wid_128 wd_1) rfl rfl
theorem r128_40 : runs cal 128 40 [v0, vI w, v2] [vR 21, vR 2, vR 34] I = runs cal 128 41 [v0, vI w, v2] [vI w, vR 21, vR 2, vR 34] I := runs_to (ins_of mI_128 (by rfl)) rfl rfl
theorem r128_41 : runs cal 128 41 [v0, v1, v2] [vI x0, vR 21, vR 2, vR 34] I = (cal 52 [vR 34, vR 2, vR 21, vI x0] I).bind (fun q => runs cal 128 44 [v0, v1, v2] (pushR q.1 []) q.2) := st_call (st := false) (ins_of mI_128 (by rfl)) mC_128 mr_10_202 (by decide) mS_52 mN_52 rfl (Nat.le_of_ble_eq_true rfl) rfl rfl (Or.inr ⟨_, _, rfl, rcv mC_52 rfl wid_128 (by decide +kernel)⟩) (Or.inl (wid_128.trans wid_52.symm))
theorem r128_44 : runs cal 128 44 [v0, v1, vI w] [] I = runs cal 128 45 [v0, v1, vI w] [vI w] I := runs_to (ins_of mI_128 (by rfl)) rfl rfl
theorem r128_45 : runs cal 128 45 [v0, v1, v2] [vI (0)] I = runs cal 128 72 [v0, v1, v2] [] I := st_sw (off := 27) (ins_of mI_128 (by rfl)) rfl rfl (by decide)
theorem r128_45a : runs cal 128 45 [v0, v1, v2] [vI (1)] I = runs cal 128 80 [v0, v1, v2] [] I := st_sw (off := 35) (ins_of mI_128 (by rfl)) rfl rfl (by decide)
theorem r128_45b (hd : ¬ x0 = 0 ∧ ¬ x0 = 1) : runs cal 128 45 [v0, v1, v2] [vI x0] I = runs cal 128 95 [v0, v1, v2] [] I := st_lswD (ins_of mI_128 (by rfl)) (by decide) (by simp; omega) (by decide)
theorem r128_72 : runs cal 128 72 [vR 1, v1, v2] [] I = runs cal 128 73 [vR 1, v1, v2] [vR 1] I := runs_to (ins_of mI_128 (by rfl)) rfl rfl
theorem r128_73 : runs cal 128 73 [v0, v1, v2] [vR 1] I = runs cal 128 76 [v0, v1, v2] [vR 34] I := st_getR (ins_of mI_128 (by rfl)) mC_128 (by decide) fr_10_59 cT_1 (wdc wid_128 wd_1) rfl rfl
theorem r128_76 : runs cal 128 76 [v0, v1, v2] [vR 34] I = runs cal 128 79 [v0, v1, v2] [vI (I 34 2)] I := st_getI (ins_of mI_128 (by rfl)) mC_128 (by decide) fr_10_206 cT_34 (wdc wid_128 wd_34) (Or.inl rfl)
theorem r128_79 : runs cal 128 79 [v0, v1, v2] [vI x0] I = some (some (vI x0), I) := st_ret (q := some (vI x0)) (k := 0) (ins_of mI_128 (by rfl)) rfl (by decide) mR_128 rfl trivial
theorem r128_80 : runs cal 128 80 [vR 1, v1, v2] [] I = runs cal 128 81 [vR 1, v1, v2] [vR 1] I := runs_to (ins_of mI_128 (by rfl)) rfl rfl
theorem r128_81 : runs cal 128 81 [v0, v1, v2] [vR 1] I = runs cal 128 84 [v0, v1, v2] [vR 2] I := st_getR (ins_of mI_128 (by rfl)) mC_128 (by decide) fr_10_10 cT_1 (wdc wid_128 wd_1) rfl rfl
theorem r128_84 : runs cal 128 84 [vR 1, v1, v2] [vR 2] I = runs cal 128 85 [vR 1, v1, v2] [vR 1, vR 2] I := runs_to (ins_of mI_128 (by rfl)) rfl rfl
theorem r128_85 : runs cal 128 85 [v0, v1, v2] [vR 1, vR 2] I = runs cal 128 88 [v0, v1, v2] [vR 34, vR 2] I := st_getR (ins_of mI_128 (by rfl)) mC_128 (by decide) fr_10_59 cT_1 (wdc wid_128 wd_1) rfl rfl
theorem r128_88 : runs cal 128 88 [v0, v1, v2] [vR 34, vR 2] I = runs cal 128 91 [v0, v1, v2] [vI (I 34 1), vR 2] I := st_getI (ins_of mI_128 (by rfl)) mC_128 (by decide) fr_10_209 cT_34 (wdc wid_128 wd_34) (Or.inl rfl)
theorem r128_91 : runs cal 128 91 [v0, v1, v2] [vI x0, vR 2] I = (cal 14 [vR 2, vI x0] I).bind (fun q => runs cal 128 94 [v0, v1, v2] (pushR q.1 []) q.2) := st_call (st := false) (ins_of mI_128 (by rfl)) mC_128 mr_10_212 (by decide) mS_14 mN_14 rfl (Nat.le_of_ble_eq_true rfl) rfl rfl (Or.inr ⟨_, _, rfl, rcv mC_14 rfl wid_128 (by decide +kernel)⟩) (Or.inl (wid_128.trans wid_14.symm))
theorem r128_94 : runs cal 128 94 [v0, v1, v2] [vI x0] I = some (some (vI x0), I) := st_ret (q := some (vI x0)) (k := 0) (ins_of mI_128 (by rfl)) rfl (by decide) mR_128 rfl trivial
theorem r128_95 : runs cal 128 95 [vR 1, v1, v2] [] I = runs cal 128 96 [vR 1, v1, v2] [vR 1] I := runs_to (ins_of mI_128 (by rfl)) rfl rfl
theorem r128_96 : runs cal 128 96 [v0, v1, v2] [vR 1] I = runs cal 128 99 [v0, v1, v2] [vR 34] I := st_getR (ins_of mI_128 (by rfl)) mC_128 (by decide) fr_10_59 cT_1 (wdc wid_128 wd_1) rfl rfl
theorem r128_99 : runs cal 128 99 [v0, v1, v2] [vR 34] I = runs cal 128 102 [v0, v1, v2] [vI (I 34 3)] I := st_getI (ins_of mI_128 (by rfl)) mC_128 (by decide) fr_10_215 cT_34 (wdc wid_128 wd_34) (Or.inl rfl)
theorem r128_102 : runs cal 128 102 [v0, v1, v2] [vI x0] I = some (some (vI x0), I) := st_ret (q := some (vI x0)) (k := 0) (ins_of mI_128 (by rfl)) rfl (by decide) mR_128 rfl trivial
theorem r129_0 : runs cal 129 0 [v0, vI w, v2, v3] [] I = runs cal 129 1 [v0, vI w, v2, v3] [vI w] I := runs_to (ins_of mI_129 (by rfl)) rfl rfl
theorem r129_1 : runs cal 129 1 [v0, v1, v2, v3] [vI x0] I = runs cal 129 2 [v0, v1, v2, v3] [vI (1), vI x0] I := runs_to (ins_of mI_129 (by rfl)) rfl rfl
theorem r129_2 : runs cal 129 2 [v0, v1, v2, v3] [vI x0, vI x1] I = if x1 < x0 then runs cal 129 30 [v0, v1, v2, v3] [] I else runs cal 129 5 [v0, v1, v2, v3] [] I := st_cmp_lt (ins_of mI_129 (by rfl)) (by decide)
theorem r129_5 : runs cal 129 5 [v0, vI w, v2, v3] [] I = runs cal 129 6 [v0, vI w, v2, v3] [vI w] I := runs_to (ins_of mI_129 (by rfl)) rfl rfl
theorem r129_6 : runs cal 129 6 [v0, v1, v2, v3] [vI x0] I = runs cal 129 8 [v0, v1, v2, v3] [vI (20), vI x0] I := runs_to (ins_of mI_129 (by rfl)) rfl rfl
theorem r129_8 : runs cal 129 8 [v0, v1, v2, v3] [vI x0, vI x1] I = if x0 < x1 then runs cal 129 30 [v0, v1, v2, v3] [] I else runs cal 129 11 [v0, v1, v2, v3] [] I := st_cmp_gt (ins_of mI_129 (by rfl)) (by decide)
theorem r129_11 : runs cal 129 11 [v0, v1, vI w, v3] [] I = runs cal 129 12 [v0, v1, vI w, v3] [vI w] I := runs_to (ins_of mI_129 (by rfl)) rfl rfl
theorem r129_12 : runs cal 129 12 [v0, v1, v2, v3] [vI x0] I = if x0 < 0 then runs cal 129 30 [v0, v1, v2, v3] [] I else runs cal 129 15 [v0, v1, v2, v3] [] I := st_if_lt (ins_of mI_129 (by rfl)) (by decide)
theorem r129_15 : runs cal 129 15 [v0, v1, vI w, v3] [] I = runs cal 129 16 [v0, v1, vI w, v3] [vI w] I := runs_to (ins_of mI_129 (by rfl)) rfl rfl
theorem r129_16 : runs cal 129 16 [v0, v1, v2, v3] [vI x0] I = runs cal 129 18 [v0, v1, v2, v3] [vI (10), vI x0] I := runs_to (ins_of mI_129 (by rfl)) rfl rfl
theorem r129_18 : runs cal 129 18 [v0, v1, v2, v3] [vI x0, vI x1] I = if x0 < x1 then runs cal 129 30 [v0, v1, v2, v3] [] I else runs cal 129 21 [v0, v1, v2, v3] [] I := st_cmp_gt (ins_of mI_129 (by rfl)) (by decide)
theorem r129_21 : runs cal 129 21 [v0, v1, v2, vI w] [] I = runs cal 129 22 [v0, v1, v2, vI w] [vI w] I := runs_to (ins_of mI_129 (by rfl)) rfl rfl
theorem r129_22 : runs cal 129 22 [v0, v1, v2, v3] [vI x0] I = if x0 < 0 then runs cal 129 30 [v0, v1, v2, v3] [] I else runs cal 129 25 [v0, v1, v2, v3] [] I := st_if_lt (ins_of mI_129 (by rfl)) (by decide)
theorem r129_25 : runs cal 129 25 [v0, v1, v2, vI w] [] I = runs cal 129 26 [v0, v1, v2, vI w] [vI w] I := runs_to (ins_of mI_129 (by rfl)) rfl rfl
theorem r129_26 : runs cal 129 26 [v0, vI w, v2, v3] [vI x0] I = runs cal 129 27 [v0, vI w, v2, v3] [vI w, vI x0] I := runs_to (ins_of mI_129 (by rfl)) rfl rfl
theorem r129_27 : runs cal 129 27 [v0, v1, v2, v3] [vI x0, vI x1] I = if x0 < x1 then runs cal 129 30 [v0, v1, v2, v3] [] I else runs cal 129 39 [v0, v1, v2, v3] [] I := st_cmp_le (ins_of mI_129 (by rfl)) (by decide)
theorem r129_30 : runs cal 129 30 [vR 1, v1, v2, v3] [] I = runs cal 129 31 [vR 1, v1, v2, v3] [vR 1] I := runs_to (ins_of mI_129 (by rfl)) rfl rfl
theorem r129_31 : runs cal 129 31 [v0, v1, v2, v3] [vR 1] I = runs cal 129 33 [v0, v1, v2, v3] [vI (-2), vR 1] I := runs_to (ins_of mI_129 (by rfl)) rfl rfl
theorem r129_33 : runs cal 129 33 [v0, v1, v2, v3] [vI x0, vR 1] I = runs cal 129 35 [v0, v1, v2, v3] [vI (-2), vI x0, vR 1] I := runs_to (ins_of mI_129 (by rfl)) rfl rfl
theorem r129_35 : runs cal 129 35 [v0, v1, v2, v3] [vI x0, vI x1, vR 1] I = (cal 138 [vR 1, vI x1, vI x0] I).bind (fun q => runs cal 129 38 [v0, v1, v2, v3] (pushR q.1 []) q.2) := st_call (st := false) (ins_of mI_129 (by rfl)) mC_129 mr_10_80 (by decide) mS_138 mN_138 rfl (Nat.le_of_ble_eq_true rfl) rfl rfl (Or.inr ⟨_, _, rfl, rcv mC_138 rfl wid_129 (by decide +kernel)⟩) (Or.inl (wid_129.trans wid_138.symm))
theorem r129_38 : runs cal 129 38 [v0, v1, v2, v3] [vI x0] I = some (some (vI x0), I) := st_ret (q := some (vI x0)) (k := 0) (ins_of mI_129 (by rfl)) rfl (by decide) mR_129 rfl trivial
theorem r129_39 : runs cal 129 39 [vR 1, v1, v2, v3] [] I = runs cal 129 40 [vR 1, v1, v2, v3] [vR 1] I := runs_to (ins_of mI_129 (by rfl)) rfl rfl
theorem r129_40 : runs cal 129 40 [v0, v1, v2, v3] [vR 1] I = runs cal 129 43 [v0, v1, v2, v3] [vR 34] I := st_getR (ins_of mI_129 (by rfl)) mC_129 (by decide) fr_10_59 cT_1 (wdc wid_129 wd_1) rfl rfl
theorem r129_43 : runs cal 129 43 [vR 1, v1, v2, v3] [vR 34] I = runs cal 129 44 [vR 1, v1, v2, v3] [vR 1, vR 34] I := runs_to (ins_of mI_129 (by rfl)) rfl rfl
theorem r129_44 : runs cal 129 44 [v0, v1, v2, v3] [vR 1, vR 34] I = runs cal 129 47 [v0, v1, v2, v3] [vR 2, vR 34] I := st_getR (ins_of mI_129 (by rfl)) mC_129 (by decide) fr_10_10 cT_1 (wdc wid_129 wd_1) rfl rfl
theorem r129_47 : runs cal 129 47 [vR 1, v1, v2, v3] [vR 2, vR 34] I = runs cal 129 48 [vR 1, v1, v2, v3] [vR 1, vR 2, vR 34] I := runs_to (ins_of mI_129 (by rfl)) rfl rfl
theorem r129_48 : runs cal 129 48 [v0, v1, v2, v3] [vR 1, vR 2, vR 34] I = runs cal 129 51 [v0, v1, v2, v3] [vR 21, vR 2, vR 34] I := st_getR (ins_of mI_129 (by rfl)) mC_129 (by decide) fr_10_38 cT_1 (wdc wid_129 wd_1) rfl rfl
theorem r129_51 : runs cal 129 51 [v0, v1, v2, v3] [vR 21, vR 2, vR 34] I = runs cal 129 53 [v0, v1, v2, v3] [vI (40), vR 21, vR 2, vR 34] I := runs_to (ins_of mI_129 (by rfl)) rfl rfl
theorem r129_53 : runs cal 129 53 [v0, v1, v2, v3] [vI x0, vR 21, vR 2, vR 34] I = (cal 52 [vR 34, vR 2, vR 21, vI x0] I).bind (fun q => runs cal 129 56 [v0, v1, v2, v3] (pushR q.1 []) q.2) := st_call (st := false) (ins_of mI_129 (by rfl)) mC_129 mr_10_202 (by decide) mS_52 mN_52 rfl (Nat.le_of_ble_eq_true rfl) rfl rfl (Or.inr ⟨_, _, rfl, rcv mC_52 rfl wid_129 (by decide +kernel)⟩) (Or.inl (wid_129.trans wid_52.symm))
theorem r129_56 : runs cal 129 56 [vR 1, v1, v2, v3] [] I = runs cal 129 57 [vR 1, v1, v2, v3] [vR 1] I := runs_to (ins_of mI_129 (by rfl)) rfl rfl
theorem r129_57 : runs cal 129 57 [v0, v1, v2, v3] [vR 1] I = runs cal 129 60 [v0, v1, v2, v3] [vR 36] I := st_getR (ins_of mI_129 (by rfl)) mC_129 (by decide) fr_10_66 cT_1 (wdc wid_129 wd_1) rfl rfl
theorem r129_60 : runs cal 129 60 [v0, vI w, v2, v3] [vR 36] I = runs cal 129 61 [v0, vI w, v2, v3] [vI w, vR 36] I := runs_to (ins_of mI_129 (by rfl)) rfl rfl
theorem r129_61 : runs cal 129 61 [vR 1, v1, v2, v3] [vI x0, vR 36] I = runs cal 129 62 [vR 1, v1, v2, v3] [vR 1, vI x0, vR 36] I := runs_to (ins_of mI_129 (by rfl)) rfl rfl
theorem r129_62 : runs cal 129 62 [v0, v1, v2, v3] [vR 1, vI x1, vR 36] I = runs cal 129 65 [v0, v1, v2, v3] [vR 34, vI x1, vR 36] I := st_getR (ins_of mI_129 (by rfl)) mC_129 (by decide) fr_10_59 cT_1 (wdc wid_129 wd_1) rfl rfl
theorem r129_65 : runs cal 129 65 [v0, v1, v2, v3] [vR 34, vI x1, vR 36] I = runs cal 129 68 [v0, v1, v2, v3] [vI (I 34 2), vI x1, vR 36] I := st_getI (ins_of mI_129 (by rfl)) mC_129 (by decide) fr_10_206 cT_34 (wdc wid_129 wd_34) (Or.inl rfl)
theorem r129_68 : runs cal 129 68 [v0, v1, v2, v3] [vI x0, vI x1, vR 36] I = runs cal 129 69 [v0, v1, v2, v3] [vI (-1), vI x0, vI x1, vR 36] I := runs_to (ins_of mI_129 (by rfl)) rfl rfl
theorem r129_69 : runs cal 129 69 [v0, v1, v2, v3] [vI x0, vI x1, vI x2, vR 36] I = if x1 = x0 then runs cal 129 72 [v0, v1, v2, v3] [vI x2, vR 36] I else runs cal 129 76 [v0, v1, v2, v3] [vI x2, vR 36] I := st_cmp_ne (ins_of mI_129 (by rfl)) (by decide)
theorem r129_72 : runs cal 129 72 [v0, v1, v2, v3] [vI x0, vR 36] I = runs cal 129 73 [v0, v1, v2, v3] [vI (0), vI x0, vR 36] I := runs_to (ins_of mI_129 (by rfl)) rfl rfl
theorem r129_73 : runs cal 129 73 [v0, v1, v2, v3] [vI x0, vI x1, vR 36] I = runs cal 129 77 [v0, v1, v2, v3] [vI x0, vI x1, vR 36] I := st_goto (ins_of mI_129 (by rfl)) (by decide)
theorem r129_76 : runs cal 129 76 [v0, v1, vI w, v3] [vI x0, vR 36] I = runs cal 129 77 [v0, v1, vI w, v3] [vI w, vI x0, vR 36] I := runs_to (ins_of mI_129 (by rfl)) rfl rfl
theorem r129_77 : runs cal 129 77 [v0, v1, v2, vI w] [vI x0, vI x1, vR 36] I = runs cal 129 78 [v0, v1, v2, vI w] [vI w, vI x0, vI x1, vR 36] I := runs_to (ins_of mI_129 (by rfl)) rfl rfl
theorem r129_78 : runs cal 129 78 [v0, v1, v2, v3] [vI x0, vI x1, vI x2, vR 36] I = (cal 39 [vR 36, vI x2, vI x1, vI x0] I).bind (fun q => runs cal 129 81 [v0, v1, v2, v3] (pushR q.1 []) q.2) := st_call (st := false) (ins_of mI_129 (by rfl)) mC_129 mr_10_218 (by decide) mS_39 mN_39 rfl (Nat.le_of_ble_eq_true rfl) rfl rfl (Or.inr ⟨_, _, rfl, rcv mC_39 rfl wid_129 (by decide +kernel)⟩) (Or.inl (wid_129.trans wid_39.symm))
theorem r129_81 : runs cal 129 81 [v0, v1, v2, v3] [] I = runs cal 129 82 [v0, v1, v2, v3] [vI (1)] I := runs_to (ins_of mI_129 (by rfl)) rfl rfl
theorem r129_82 : runs cal 129 82 [v0, v1, v2, v3] [vI x0] I = some (some (vI x0), I) := st_ret (q := some (vI x0)) (k := 0) (ins_of mI_129 (by rfl)) rfl (by decide) mR_129 rfl trivial
theorem r130_0 : runs cal 130 0 [v0, vI w] [] I = runs cal 130 1 [v0, vI w] [vI w] I := runs_to (ins_of mI_130 (by rfl)) rfl rfl
theorem r130_1 : runs cal 130 1 [v0, v1] [vI (0)] I = runs cal 130 28 [v0, v1] [] I := st_sw (off := 27) (ins_of mI_130 (by rfl)) rfl rfl (by decide)
theorem r130_1a : runs cal 130 1 [v0, v1] [vI (1)] I = runs cal 130 44 [v0, v1] [] I := st_sw (off := 43) (ins_of mI_130 (by rfl)) rfl rfl (by decide)
theorem r130_1b : runs cal 130 1 [v0, v1] [vI (2)] I = runs cal 130 52 [v0, v1] [] I := st_sw (off := 51) (ins_of mI_130 (by rfl)) rfl rfl (by decide)
theorem r130_1c (hd : x0 < 0 ∨ 2 < x0) : runs cal 130 1 [v0, v1] [vI x0] I = runs cal 130 60 [v0, v1] [] I := st_tswD (ins_of mI_130 (by rfl)) (by decide) hd (by decide)
theorem r130_28 : runs cal 130 28 [vR 1, v1] [] I = runs cal 130 29 [vR 1, v1] [vR 1] I := runs_to (ins_of mI_130 (by rfl)) rfl rfl
theorem r130_29 : runs cal 130 29 [v0, v1] [vR 1] I = runs cal 130 32 [v0, v1] [vR 36] I := st_getR (ins_of mI_130 (by rfl)) mC_130 (by decide) fr_10_66 cT_1 (wdc wid_130 wd_1) rfl rfl
theorem r130_32 : runs cal 130 32 [v0, v1] [vR 36] I = runs cal 130 35 [v0, v1] [vI (I 36 3)] I := st_getI (ins_of mI_130 (by rfl)) mC_130 (by decide) fr_10_222 cT_36 (wdc wid_130 wd_36) (Or.inl rfl)
theorem r130_35 : runs cal 130 35 [v0, v1] [vI x0] I = if x0 = 0 then runs cal 130 38 [v0, v1] [] I else runs cal 130 42 [v0, v1] [] I := st_if_ne (ins_of mI_130 (by rfl)) (by decide)
theorem r130_38 : runs cal 130 38 [v0, v1] [] I = runs cal 130 39 [v0, v1] [vI (0)] I := runs_to (ins_of mI_130 (by rfl)) rfl rfl
theorem r130_39 : runs cal 130 39 [v0, v1] [vI x0] I = runs cal 130 43 [v0, v1] [vI x0] I := st_goto (ins_of mI_130 (by rfl)) (by decide)
theorem r130_42 : runs cal 130 42 [v0, v1] [] I = runs cal 130 43 [v0, v1] [vI (1)] I := runs_to (ins_of mI_130 (by rfl)) rfl rfl
theorem r130_43 : runs cal 130 43 [v0, v1] [vI x0] I = some (some (vI x0), I) := st_ret (q := some (vI x0)) (k := 0) (ins_of mI_130 (by rfl)) rfl (by decide) mR_130 rfl trivial
theorem r130_44 : runs cal 130 44 [vR 1, v1] [] I = runs cal 130 45 [vR 1, v1] [vR 1] I := runs_to (ins_of mI_130 (by rfl)) rfl rfl
theorem r130_45 : runs cal 130 45 [v0, v1] [vR 1] I = runs cal 130 48 [v0, v1] [vR 36] I := st_getR (ins_of mI_130 (by rfl)) mC_130 (by decide) fr_10_66 cT_1 (wdc wid_130 wd_1) rfl rfl
theorem r130_48 : runs cal 130 48 [v0, v1] [vR 36] I = runs cal 130 51 [v0, v1] [vI (I 36 3)] I := st_getI (ins_of mI_130 (by rfl)) mC_130 (by decide) fr_10_222 cT_36 (wdc wid_130 wd_36) (Or.inl rfl)
theorem r130_51 : runs cal 130 51 [v0, v1] [vI x0] I = some (some (vI x0), I) := st_ret (q := some (vI x0)) (k := 0) (ins_of mI_130 (by rfl)) rfl (by decide) mR_130 rfl trivial
theorem r130_52 : runs cal 130 52 [vR 1, v1] [] I = runs cal 130 53 [vR 1, v1] [vR 1] I := runs_to (ins_of mI_130 (by rfl)) rfl rfl
theorem r130_53 : runs cal 130 53 [v0, v1] [vR 1] I = runs cal 130 56 [v0, v1] [vR 36] I := st_getR (ins_of mI_130 (by rfl)) mC_130 (by decide) fr_10_66 cT_1 (wdc wid_130 wd_1) rfl rfl
theorem r130_56 : runs cal 130 56 [v0, v1] [vR 36] I = runs cal 130 59 [v0, v1] [vI (I 36 4)] I := st_getI (ins_of mI_130 (by rfl)) mC_130 (by decide) fr_10_225 cT_36 (wdc wid_130 wd_36) (Or.inl rfl)
theorem r130_59 : runs cal 130 59 [v0, v1] [vI x0] I = some (some (vI x0), I) := st_ret (q := some (vI x0)) (k := 0) (ins_of mI_130 (by rfl)) rfl (by decide) mR_130 rfl trivial
theorem r130_60 : runs cal 130 60 [vR 1, v1] [] I = runs cal 130 61 [vR 1, v1] [vR 1] I := runs_to (ins_of mI_130 (by rfl)) rfl rfl
theorem r130_61 : runs cal 130 61 [v0, v1] [vR 1] I = runs cal 130 63 [v0, v1] [vI (-2), vR 1] I := runs_to (ins_of mI_130 (by rfl)) rfl rfl
theorem r130_63 : runs cal 130 63 [v0, v1] [vI x0, vR 1] I = runs cal 130 65 [v0, v1] [vI (-2), vI x0, vR 1] I := runs_to (ins_of mI_130 (by rfl)) rfl rfl
theorem r130_65 : runs cal 130 65 [v0, v1] [vI x0, vI x1, vR 1] I = (cal 138 [vR 1, vI x1, vI x0] I).bind (fun q => runs cal 130 68 [v0, v1] (pushR q.1 []) q.2) := st_call (st := false) (ins_of mI_130 (by rfl)) mC_130 mr_10_80 (by decide) mS_138 mN_138 rfl (Nat.le_of_ble_eq_true rfl) rfl rfl (Or.inr ⟨_, _, rfl, rcv mC_138 rfl wid_130 (by decide +kernel)⟩) (Or.inl (wid_130.trans wid_138.symm))
theorem r130_68 : runs cal 130 68 [v0, v1] [vI x0] I = some (some (vI x0), I) := st_ret (q := some (vI x0)) (k := 0) (ins_of mI_130 (by rfl)) rfl (by decide) mR_130 rfl trivial
theorem r131_0 : runs cal 131 0 [v0, vI w, v2] [] I = runs cal 131 1 [v0, vI w, v2] [vI w] I := runs_to (ins_of mI_131 (by rfl)) rfl rfl
theorem r131_1 : runs cal 131 1 [v0, v1, v2] [vI x0] I = if x0 < 0 then runs cal 131 13 [v0, v1, v2] [] I else runs cal 131 4 [v0, v1, v2] [] I := st_if_lt (ins_of mI_131 (by rfl)) (by decide)
theorem r131_4 : runs cal 131 4 [v0, vI w, v2] [] I = runs cal 131 5 [v0, vI w, v2] [vI w] I := runs_to (ins_of mI_131 (by rfl)) rfl rfl
theorem r131_5 : runs cal 131 5 [v0, v1, v2] [vI x0] I = runs cal 131 6 [v0, v1, v2] [vI (1), vI x0] I := runs_to (ins_of mI_131 (by rfl)) rfl rfl
theorem r131_6 : runs cal 131 6 [v0, v1, v2] [vI x0, vI x1] I = if x0 < x1 then runs cal 131 13 [v0, v1, v2] [] I else runs cal 131 9 [v0, v1, v2] [] I := st_cmp_gt (ins_of mI_131 (by rfl)) (by decide)
theorem r131_9 : runs cal 131 9 [v0, v1, vI w] [] I = runs cal 131 10 [v0, v1, vI w] [vI w] I := runs_to (ins_of mI_131 (by rfl)) rfl rfl
theorem r131_10 : runs cal 131 10 [v0, v1, v2] [vI x0] I = if x0 < 0 then runs cal 131 13 [v0, v1, v2] [] I else runs cal 131 22 [v0, v1, v2] [] I := st_if_ge (ins_of mI_131 (by rfl)) (by decide)
theorem r131_13 : runs cal 131 13 [vR 1, v1, v2] [] I = runs cal 131 14 [vR 1, v1, v2] [vR 1] I := runs_to (ins_of mI_131 (by rfl)) rfl rfl
theorem r131_14 : runs cal 131 14 [v0, v1, v2] [vR 1] I = runs cal 131 16 [v0, v1, v2] [vI (-2), vR 1] I := runs_to (ins_of mI_131 (by rfl)) rfl rfl
theorem r131_16 : runs cal 131 16 [v0, v1, v2] [vI x0, vR 1] I = runs cal 131 18 [v0, v1, v2] [vI (-2), vI x0, vR 1] I := runs_to (ins_of mI_131 (by rfl)) rfl rfl
theorem r131_18 : runs cal 131 18 [v0, v1, v2] [vI x0, vI x1, vR 1] I = (cal 138 [vR 1, vI x1, vI x0] I).bind (fun q => runs cal 131 21 [v0, v1, v2] (pushR q.1 []) q.2) := st_call (st := false) (ins_of mI_131 (by rfl)) mC_131 mr_10_80 (by decide) mS_138 mN_138 rfl (Nat.le_of_ble_eq_true rfl) rfl rfl (Or.inr ⟨_, _, rfl, rcv mC_138 rfl wid_131 (by decide +kernel)⟩) (Or.inl (wid_131.trans wid_138.symm))
theorem r131_21 : runs cal 131 21 [v0, v1, v2] [vI x0] I = some (some (vI x0), I) := st_ret (q := some (vI x0)) (k := 0) (ins_of mI_131 (by rfl)) rfl (by decide) mR_131 rfl trivial
theorem r131_22 : runs cal 131 22 [v0, vI w, v2] [] I = runs cal 131 23 [v0, vI w, v2] [vI w] I := runs_to (ins_of mI_131 (by rfl)) rfl rfl
theorem r131_23 : runs cal 131 23 [v0, v1, v2] [vI x0] I = if x0 = 0 then runs cal 131 26 [v0, v1, v2] [] I else runs cal 131 37 [v0, v1, v2] [] I := st_if_ne (ins_of mI_131 (by rfl)) (by decide)
theorem r131_26 : runs cal 131 26 [vR 1, v1, v2] [] I = runs cal 131 27 [vR 1, v1, v2] [vR 1] I := runs_to (ins_of mI_131 (by rfl)) rfl rfl
theorem r131_27 : runs cal 131 27 [v0, v1, v2] [vR 1] I = runs cal 131 30 [v0, v1, v2] [vR 36] I := st_getR (ins_of mI_131 (by rfl)) mC_131 (by decide) fr_10_66 cT_1 (wdc wid_131 wd_1) rfl rfl
theorem r131_30 : runs cal 131 30 [v0, v1, vI w] [vR 36] I = runs cal 131 31 [v0, v1, vI w] [vI w, vR 36] I := runs_to (ins_of mI_131 (by rfl)) rfl rfl
theorem r131_31 : runs cal 131 31 [v0, v1, v2] [vI x0, vR 36] I = (cal 49 [vR 36, vI x0] I).bind (fun q => runs cal 131 34 [v0, v1, v2] (pushR q.1 []) q.2) := st_call (st := false) (ins_of mI_131 (by rfl)) mC_131 mr_10_228 (by decide) mS_49 mN_49 rfl (Nat.le_of_ble_eq_true rfl) rfl rfl (Or.inr ⟨_, _, rfl, rcv mC_49 rfl wid_131 (by decide +kernel)⟩) (Or.inl (wid_131.trans wid_49.symm))
theorem r131_34 : runs cal 131 34 [v0, v1, v2] [vI x0] I = runs cal 131 45 [v0, v1, v2] [vI x0] I := st_goto (ins_of mI_131 (by rfl)) (by decide)
theorem r131_37 : runs cal 131 37 [vR 1, v1, v2] [] I = runs cal 131 38 [vR 1, v1, v2] [vR 1] I := runs_to (ins_of mI_131 (by rfl)) rfl rfl
theorem r131_38 : runs cal 131 38 [v0, v1, v2] [vR 1] I = runs cal 131 41 [v0, v1, v2] [vR 36] I := st_getR (ins_of mI_131 (by rfl)) mC_131 (by decide) fr_10_66 cT_1 (wdc wid_131 wd_1) rfl rfl
theorem r131_41 : runs cal 131 41 [v0, v1, vI w] [vR 36] I = runs cal 131 42 [v0, v1, vI w] [vI w, vR 36] I := runs_to (ins_of mI_131 (by rfl)) rfl rfl
theorem r131_42 : runs cal 131 42 [v0, v1, v2] [vI x0, vR 36] I = (cal 50 [vR 36, vI x0] I).bind (fun q => runs cal 131 45 [v0, v1, v2] (pushR q.1 []) q.2) := st_call (st := false) (ins_of mI_131 (by rfl)) mC_131 mr_10_231 (by decide) mS_50 mN_50 rfl (Nat.le_of_ble_eq_true rfl) rfl rfl (Or.inr ⟨_, _, rfl, rcv mC_50 rfl wid_131 (by decide +kernel)⟩) (Or.inl (wid_131.trans wid_50.symm))
theorem r131_45 : runs cal 131 45 [v0, v1, v2] [vI x0] I = some (some (vI x0), I) := st_ret (q := some (vI x0)) (k := 0) (ins_of mI_131 (by rfl)) rfl (by decide) mR_131 rfl trivial
theorem r132_0 : runs cal 132 0 [v0, vI w, v2] [] I = runs cal 132 1 [v0, vI w, v2] [vI w] I := runs_to (ins_of mI_132 (by rfl)) rfl rfl
theorem r132_1 : runs cal 132 1 [v0, v1, v2] [vI x0] I = if x0 < 0 then runs cal 132 9 [v0, v1, v2] [] I else runs cal 132 4 [v0, v1, v2] [] I := st_if_lt (ins_of mI_132 (by rfl)) (by decide)
theorem r132_4 : runs cal 132 4 [v0, vI w, v2] [] I = runs cal 132 5 [v0, vI w, v2] [vI w] I := runs_to (ins_of mI_132 (by rfl)) rfl rfl
theorem r132_5 : runs cal 132 5 [v0, v1, v2] [vI x0] I = runs cal 132 6 [v0, v1, v2] [vI (1), vI x0] I := runs_to (ins_of mI_132 (by rfl)) rfl rfl
theorem r132_6 : runs cal 132 6 [v0, v1, v2] [vI x0, vI x1] I = if x0 < x1 then runs cal 132 9 [v0, v1, v2] [] I else runs cal 132 18 [v0, v1, v2] [] I := st_cmp_le (ins_of mI_132 (by rfl)) (by decide)
theorem r132_9 : runs cal 132 9 [vR 1, v1, v2] [] I = runs cal 132 10 [vR 1, v1, v2] [vR 1] I := runs_to (ins_of mI_132 (by rfl)) rfl rfl
theorem r132_10 : runs cal 132 10 [v0, v1, v2] [vR 1] I = runs cal 132 12 [v0, v1, v2] [vI (-2), vR 1] I := runs_to (ins_of mI_132 (by rfl)) rfl rfl
theorem r132_12 : runs cal 132 12 [v0, v1, v2] [vI x0, vR 1] I = runs cal 132 14 [v0, v1, v2] [vI (-2), vI x0, vR 1] I := runs_to (ins_of mI_132 (by rfl)) rfl rfl
theorem r132_14 : runs cal 132 14 [v0, v1, v2] [vI x0, vI x1, vR 1] I = (cal 138 [vR 1, vI x1, vI x0] I).bind (fun q => runs cal 132 17 [v0, v1, v2] (pushR q.1 []) q.2) := st_call (st := false) (ins_of mI_132 (by rfl)) mC_132 mr_10_80 (by decide) mS_138 mN_138 rfl (Nat.le_of_ble_eq_true rfl) rfl rfl (Or.inr ⟨_, _, rfl, rcv mC_138 rfl wid_132 (by decide +kernel)⟩) (Or.inl (wid_132.trans wid_138.symm))
theorem r132_17 : runs cal 132 17 [v0, v1, v2] [vI x0] I = some (some (vI x0), I) := st_ret (q := some (vI x0)) (k := 0) (ins_of mI_132 (by rfl)) rfl (by decide) mR_132 rfl trivial
theorem r132_18 : runs cal 132 18 [vR 1, v1, v2] [] I = runs cal 132 19 [vR 1, v1, v2] [vR 1] I := runs_to (ins_of mI_132 (by rfl)) rfl rfl
theorem r132_19 : runs cal 132 19 [v0, vI w, v2] [vR 1] I = runs cal 132 20 [v0, vI w, v2] [vI w, vR 1] I := runs_to (ins_of mI_132 (by rfl)) rfl rfl
theorem r132_20 : runs cal 132 20 [v0, v1, v2] [vI x0, vR 1] I = (cal 141 [vR 1, vI x0] I).bind (fun q => runs cal 132 23 [v0, v1, v2] (pushR q.1 []) q.2) := st_call (st := false) (ins_of mI_132 (by rfl)) mC_132 mr_10_234 (by decide) mS_141 mN_141 rfl (Nat.le_of_ble_eq_true rfl) rfl rfl (Or.inr ⟨_, _, rfl, rcv mC_141 rfl wid_132 (by decide +kernel)⟩) (Or.inl (wid_132.trans wid_141.symm))
theorem r132_23 : runs cal 132 23 [v0, vI u, v2] [vR 40] I = runs cal 132 24 [v0, vI u, vR 40] [] I := runs_to (ins_of mI_132 (by rfl)) rfl rfl
theorem r132_23a : runs cal 132 23 [v0, vI u, v2] [vR 55] I = runs cal 132 24 [v0, vI u, vR 55] [] I := runs_to (ins_of mI_132 (by rfl)) rfl rfl
theorem r132_24 : runs cal 132 24 [v0, v1, vR 40] [] I = runs cal 132 25 [v0, v1, vR 40] [vR 40] I := runs_to (ins_of mI_132 (by rfl)) rfl rfl
theorem r132_24a : runs cal 132 24 [v0, v1, vR 55] [] I = runs cal 132 25 [v0, v1, vR 55] [vR 55] I := runs_to (ins_of mI_132 (by rfl)) rfl rfl
theorem r132_25 : runs cal 132 25 [v0, v1, v2] [vR 40] I = runs cal 132 28 [v0, v1, v2] [vR 41] I := st_getR (ins_of mI_132 (by rfl)) mC_132 (by decide) fr_10_238 cT_40 (wdc wid_132 wd_40) rfl rfl
theorem r132_25a : runs cal 132 25 [v0, v1, v2] [vR 55] I = runs cal 132 28 [v0, v1, v2] [vR 56] I := st_getR (ins_of mI_132 (by rfl)) mC_132 (by decide) fr_10_238 cT_55 (wdc wid_132 wd_55) rfl rfl
theorem r132_28 : runs cal 132 28 [vR 1, v1, v2] [vR a0] I = runs cal 132 29 [vR 1, v1, v2] [vR 1, vR a0] I := runs_to (ins_of mI_132 (by rfl)) rfl rfl
theorem r132_29 : runs cal 132 29 [v0, v1, v2] [vR 1, vR a1] I = runs cal 132 32 [v0, v1, v2] [vR 2, vR a1] I := st_getR (ins_of mI_132 (by rfl)) mC_132 (by decide) fr_10_10 cT_1 (wdc wid_132 wd_1) rfl rfl
theorem r132_32 : runs cal 132 32 [v0, v1, v2] [vR 2, vR 41] I = (cal 1 [vR 41, vR 2] I).bind (fun q => runs cal 132 35 [v0, v1, v2] (pushR q.1 []) q.2) := st_call (st := false) (ins_of mI_132 (by rfl)) mC_132 mr_10_106 (by decide) mS_1 mN_1 rfl (Nat.le_of_ble_eq_true rfl) rfl rfl (Or.inr ⟨_, _, rfl, rcv mC_1 rfl wid_132 (by decide +kernel)⟩) (Or.inl (wid_132.trans wid_1.symm))
theorem r132_32a : runs cal 132 32 [v0, v1, v2] [vR 2, vR 56] I = (cal 1 [vR 56, vR 2] I).bind (fun q => runs cal 132 35 [v0, v1, v2] (pushR q.1 []) q.2) := st_call (st := false) (ins_of mI_132 (by rfl)) mC_132 mr_10_106 (by decide) mS_1 mN_1 rfl (Nat.le_of_ble_eq_true rfl) rfl rfl (Or.inr ⟨_, _, rfl, rcv mC_1 rfl wid_132 (by decide +kernel)⟩) (Or.inl (wid_132.trans wid_1.symm))
theorem r132_35 : runs cal 132 35 [v0, v1, vR 40] [] I = runs cal 132 36 [v0, v1, vR 40] [vR 40] I := runs_to (ins_of mI_132 (by rfl)) rfl rfl
theorem r132_35a : runs cal 132 35 [v0, v1, vR 55] [] I = runs cal 132 36 [v0, v1, vR 55] [vR 55] I := runs_to (ins_of mI_132 (by rfl)) rfl rfl
theorem r132_36 : runs cal 132 36 [v0, v1, v2] [vR 40] I = runs cal 132 39 [v0, v1, v2] [vR 49] I := st_getR (ins_of mI_132 (by rfl)) mC_132 (by decide) fr_10_239 cT_40 (wdc wid_132 wd_40) rfl rfl
theorem r132_36a : runs cal 132 36 [v0, v1, v2] [vR 55] I = runs cal 132 39 [v0, v1, v2] [vR 64] I := st_getR (ins_of mI_132 (by rfl)) mC_132 (by decide) fr_10_239 cT_55 (wdc wid_132 wd_55) rfl rfl
theorem r132_39 : runs cal 132 39 [vR 1, v1, v2] [vR a0] I = runs cal 132 40 [vR 1, v1, v2] [vR 1, vR a0] I := runs_to (ins_of mI_132 (by rfl)) rfl rfl
theorem r132_40 : runs cal 132 40 [v0, v1, v2] [vR 1, vR a1] I = runs cal 132 43 [v0, v1, v2] [vR 21, vR a1] I := st_getR (ins_of mI_132 (by rfl)) mC_132 (by decide) fr_10_38 cT_1 (wdc wid_132 wd_1) rfl rfl
theorem r132_43 : runs cal 132 43 [v0, v1, v2] [vR 21, vR 49] I = (cal 61 [vR 49, vR 21] I).bind (fun q => runs cal 132 46 [v0, v1, v2] (pushR q.1 []) q.2) := st_call (st := false) (ins_of mI_132 (by rfl)) mC_132 mr_10_240 (by decide) mS_61 mN_61 rfl (Nat.le_of_ble_eq_true rfl) rfl rfl (Or.inr ⟨_, _, rfl, rcv mC_61 rfl wid_132 (by decide +kernel)⟩) (Or.inl (wid_132.trans wid_61.symm))
theorem r132_43a : runs cal 132 43 [v0, v1, v2] [vR 21, vR 64] I = (cal 61 [vR 64, vR 21] I).bind (fun q => runs cal 132 46 [v0, v1, v2] (pushR q.1 []) q.2) := st_call (st := false) (ins_of mI_132 (by rfl)) mC_132 mr_10_240 (by decide) mS_61 mN_61 rfl (Nat.le_of_ble_eq_true rfl) rfl rfl (Or.inr ⟨_, _, rfl, rcv mC_61 rfl wid_132 (by decide +kernel)⟩) (Or.inl (wid_132.trans wid_61.symm))
theorem r132_46 : runs cal 132 46 [v0, v1, vR 40] [] I = runs cal 132 47 [v0, v1, vR 40] [vR 40] I := runs_to (ins_of mI_132 (by rfl)) rfl rfl
theorem r132_46a : runs cal 132 46 [v0, v1, vR 55] [] I = runs cal 132 47 [v0, v1, vR 55] [vR 55] I := runs_to (ins_of mI_132 (by rfl)) rfl rfl
theorem r132_47 : runs cal 132 47 [v0, v1, v2] [vR 40] I = runs cal 132 50 [v0, v1, v2] [vR 53] I := st_getR (ins_of mI_132 (by rfl)) mC_132 (by decide) fr_10_243 cT_40 (wdc wid_132 wd_40) rfl rfl
theorem r132_47a : runs cal 132 47 [v0, v1, v2] [vR 55] I = runs cal 132 50 [v0, v1, v2] [vR 68] I := st_getR (ins_of mI_132 (by rfl)) mC_132 (by decide) fr_10_243 cT_55 (wdc wid_132 wd_55) rfl rfl
theorem r132_50 : runs cal 132 50 [vR 1, v1, v2] [vR a0] I = runs cal 132 51 [vR 1, v1, v2] [vR 1, vR a0] I := runs_to (ins_of mI_132 (by rfl)) rfl rfl
theorem r132_51 : runs cal 132 51 [v0, v1, v2] [vR 1, vR a1] I = runs cal 132 54 [v0, v1, v2] [vR 25, vR a1] I := st_getR (ins_of mI_132 (by rfl)) mC_132 (by decide) fr_10_45 cT_1 (wdc wid_132 wd_1) rfl rfl
theorem r132_54 : runs cal 132 54 [v0, v1, v2] [vR 25, vR 53] I = (cal 58 [vR 53, vR 25] I).bind (fun q => runs cal 132 57 [v0, v1, v2] (pushR q.1 []) q.2) := st_call (st := false) (ins_of mI_132 (by rfl)) mC_132 mr_10_244 (by decide) mS_58 mN_58 rfl (Nat.le_of_ble_eq_true rfl) rfl rfl (Or.inr ⟨_, _, rfl, rcv mC_58 rfl wid_132 (by decide +kernel)⟩) (Or.inl (wid_132.trans wid_58.symm))
theorem r132_54a : runs cal 132 54 [v0, v1, v2] [vR 25, vR 68] I = (cal 58 [vR 68, vR 25] I).bind (fun q => runs cal 132 57 [v0, v1, v2] (pushR q.1 []) q.2) := st_call (st := false) (ins_of mI_132 (by rfl)) mC_132 mr_10_244 (by decide) mS_58 mN_58 rfl (Nat.le_of_ble_eq_true rfl) rfl rfl (Or.inr ⟨_, _, rfl, rcv mC_58 rfl wid_132 (by decide +kernel)⟩) (Or.inl (wid_132.trans wid_58.symm))
theorem r132_57 : runs cal 132 57 [v0, v1, vR 40] [] I = runs cal 132 58 [v0, v1, vR 40] [vR 40] I := runs_to (ins_of mI_132 (by rfl)) rfl rfl
theorem r132_57a : runs cal 132 57 [v0, v1, vR 55] [] I = runs cal 132 58 [v0, v1, vR 55] [vR 55] I := runs_to (ins_of mI_132 (by rfl)) rfl rfl
theorem r132_58 : runs cal 132 58 [v0, v1, v2] [vR a0] I = runs cal 132 59 [v0, v1, v2] [vI (1), vR a0] I := runs_to (ins_of mI_132 (by rfl)) rfl rfl
theorem r132_59 : runs cal 132 59 [v0, v1, v2] [vI x0, vR 40] I = if x0 = 0 ∨ x0 = 1 then runs cal 132 62 [v0, v1, v2] [] (mset I 40 0 x0) else none := st_putZ (ins_of mI_132 (by rfl)) mC_132 fr_10_247 cT_40 (wdc wid_132 wd_40) rfl
theorem r132_59a : runs cal 132 59 [v0, v1, v2] [vI x0, vR 55] I = if x0 = 0 ∨ x0 = 1 then runs cal 132 62 [v0, v1, v2] [] (mset I 55 0 x0) else none := st_putZ (ins_of mI_132 (by rfl)) mC_132 fr_10_247 cT_55 (wdc wid_132 wd_55) rfl
theorem r132_62 : runs cal 132 62 [v0, v1, v2] [] I = runs cal 132 63 [v0, v1, v2] [vI (1)] I := runs_to (ins_of mI_132 (by rfl)) rfl rfl
theorem r132_63 : runs cal 132 63 [v0, v1, v2] [vI x0] I = some (some (vI x0), I) := st_ret (q := some (vI x0)) (k := 0) (ins_of mI_132 (by rfl)) rfl (by decide) mR_132 rfl trivial
theorem r133_0 : runs cal 133 0 [v0, vI w, v2] [] I = runs cal 133 1 [v0, vI w, v2] [vI w] I := runs_to (ins_of mI_133 (by rfl)) rfl rfl
theorem r133_1 : runs cal 133 1 [v0, v1, v2] [vI x0] I = if x0 < 0 then runs cal 133 9 [v0, v1, v2] [] I else runs cal 133 4 [v0, v1, v2] [] I := st_if_lt (ins_of mI_133 (by rfl)) (by decide)
theorem r133_4 : runs cal 133 4 [v0, vI w, v2] [] I = runs cal 133 5 [v0, vI w, v2] [vI w] I := runs_to (ins_of mI_133 (by rfl)) rfl rfl
theorem r133_5 : runs cal 133 5 [v0, v1, v2] [vI x0] I = runs cal 133 6 [v0, v1, v2] [vI (1), vI x0] I := runs_to (ins_of mI_133 (by rfl)) rfl rfl
theorem r133_6 : runs cal 133 6 [v0, v1, v2] [vI x0, vI x1] I = if x0 < x1 then runs cal 133 9 [v0, v1, v2] [] I else runs cal 133 18 [v0, v1, v2] [] I := st_cmp_le (ins_of mI_133 (by rfl)) (by decide)
theorem r133_9 : runs cal 133 9 [vR 1, v1, v2] [] I = runs cal 133 10 [vR 1, v1, v2] [vR 1] I := runs_to (ins_of mI_133 (by rfl)) rfl rfl
theorem r133_10 : runs cal 133 10 [v0, v1, v2] [vR 1] I = runs cal 133 12 [v0, v1, v2] [vI (-2), vR 1] I := runs_to (ins_of mI_133 (by rfl)) rfl rfl
theorem r133_12 : runs cal 133 12 [v0, v1, v2] [vI x0, vR 1] I = runs cal 133 14 [v0, v1, v2] [vI (-2), vI x0, vR 1] I := runs_to (ins_of mI_133 (by rfl)) rfl rfl
theorem r133_14 : runs cal 133 14 [v0, v1, v2] [vI x0, vI x1, vR 1] I = (cal 138 [vR 1, vI x1, vI x0] I).bind (fun q => runs cal 133 17 [v0, v1, v2] (pushR q.1 []) q.2) := st_call (st := false) (ins_of mI_133 (by rfl)) mC_133 mr_10_80 (by decide) mS_138 mN_138 rfl (Nat.le_of_ble_eq_true rfl) rfl rfl (Or.inr ⟨_, _, rfl, rcv mC_138 rfl wid_133 (by decide +kernel)⟩) (Or.inl (wid_133.trans wid_138.symm))
theorem r133_17 : runs cal 133 17 [v0, v1, v2] [vI x0] I = some (some (vI x0), I) := st_ret (q := some (vI x0)) (k := 0) (ins_of mI_133 (by rfl)) rfl (by decide) mR_133 rfl trivial
theorem r133_18 : runs cal 133 18 [vR 1, v1, v2] [] I = runs cal 133 19 [vR 1, v1, v2] [vR 1] I := runs_to (ins_of mI_133 (by rfl)) rfl rfl
theorem r133_19 : runs cal 133 19 [v0, vI w, v2] [vR 1] I = runs cal 133 20 [v0, vI w, v2] [vI w, vR 1] I := runs_to (ins_of mI_133 (by rfl)) rfl rfl
theorem r133_20 : runs cal 133 20 [v0, v1, v2] [vI x0, vR 1] I = (cal 141 [vR 1, vI x0] I).bind (fun q => runs cal 133 23 [v0, v1, v2] (pushR q.1 []) q.2) := st_call (st := false) (ins_of mI_133 (by rfl)) mC_133 mr_10_234 (by decide) mS_141 mN_141 rfl (Nat.le_of_ble_eq_true rfl) rfl rfl (Or.inr ⟨_, _, rfl, rcv mC_141 rfl wid_133 (by decide +kernel)⟩) (Or.inl (wid_133.trans wid_141.symm))
theorem r133_23 : runs cal 133 23 [v0, vI u, v2] [vR 40] I = runs cal 133 24 [v0, vI u, vR 40] [] I := runs_to (ins_of mI_133 (by rfl)) rfl rfl
theorem r133_23a : runs cal 133 23 [v0, vI u, v2] [vR 55] I = runs cal 133 24 [v0, vI u, vR 55] [] I := runs_to (ins_of mI_133 (by rfl)) rfl rfl
theorem r133_24 : runs cal 133 24 [v0, v1, vR 40] [] I = runs cal 133 25 [v0, v1, vR 40] [vR 40] I := runs_to (ins_of mI_133 (by rfl)) rfl rfl
theorem r133_24a : runs cal 133 24 [v0, v1, vR 55] [] I = runs cal 133 25 [v0, v1, vR 55] [vR 55] I := runs_to (ins_of mI_133 (by rfl)) rfl rfl
theorem r133_25 : runs cal 133 25 [v0, v1, v2] [vR 40] I = runs cal 133 28 [v0, v1, v2] [vI (I 40 0)] I := st_getI (ins_of mI_133 (by rfl)) mC_133 (by decide) fr_10_247 cT_40 (wdc wid_133 wd_40) (Or.inr rfl)
theorem r133_25a : runs cal 133 25 [v0, v1, v2] [vR 55] I = runs cal 133 28 [v0, v1, v2] [vI (I 55 0)] I := st_getI (ins_of mI_133 (by rfl)) mC_133 (by decide) fr_10_247 cT_55 (wdc wid_133 wd_55) (Or.inr rfl)
theorem r133_28 : runs cal 133 28 [v0, v1, v2] [vI x0] I = if x0 = 0 then runs cal 133 31 [v0, v1, v2] [] I else runs cal 133 40 [v0, v1, v2] [] I := st_if_ne (ins_of mI_133 (by rfl)) (by decide)
theorem r133_31 : runs cal 133 31 [vR 1, v1, v2] [] I = runs cal 133 32 [vR 1, v1, v2] [vR 1] I := runs_to (ins_of mI_133 (by rfl)) rfl rfl
theorem r133_32 : runs cal 133 32 [v0, v1, v2] [vR 1] I = runs cal 133 34 [v0, v1, v2] [vI (-3), vR 1] I := runs_to (ins_of mI_133 (by rfl)) rfl rfl
theorem r133_34 : runs cal 133 34 [v0, v1, v2] [vI x0, vR 1] I = runs cal 133 36 [v0, v1, v2] [vI (-3), vI x0, vR 1] I := runs_to (ins_of mI_133 (by rfl)) rfl rfl
theorem r133_36 : runs cal 133 36 [v0, v1, v2] [vI x0, vI x1, vR 1] I = (cal 138 [vR 1, vI x1, vI x0] I).bind (fun q => runs cal 133 39 [v0, v1, v2] (pushR q.1 []) q.2) := st_call (st := false) (ins_of mI_133 (by rfl)) mC_133 mr_10_80 (by decide) mS_138 mN_138 rfl (Nat.le_of_ble_eq_true rfl) rfl rfl (Or.inr ⟨_, _, rfl, rcv mC_138 rfl wid_133 (by decide +kernel)⟩) (Or.inl (wid_133.trans wid_138.symm))
theorem r133_39 : runs cal 133 39 [v0, v1, v2] [vI x0] I = some (some (vI x0), I) := st_ret (q := some (vI x0)) (k := 0) (ins_of mI_133 (by rfl)) rfl (by decide) mR_133 rfl trivial
theorem r133_40 : runs cal 133 40 [vR 1, v1, v2] [] I = runs cal 133 41 [vR 1, v1, v2] [vR 1] I := runs_to (ins_of mI_133 (by rfl)) rfl rfl
theorem r133_41 : runs cal 133 41 [v0, v1, v2] [vR 1] I = runs cal 133 44 [v0, v1, v2] [vR 2] I := st_getR (ins_of mI_133 (by rfl)) mC_133 (by decide) fr_10_10 cT_1 (wdc wid_133 wd_1) rfl rfl
theorem r133_44 : runs cal 133 44 [v0, v1, vR 40] [vR 2] I = runs cal 133 45 [v0, v1, vR 40] [vR 40, vR 2] I := runs_to (ins_of mI_133 (by rfl)) rfl rfl
theorem r133_44a : runs cal 133 44 [v0, v1, vR 55] [vR 2] I = runs cal 133 45 [v0, v1, vR 55] [vR 55, vR 2] I := runs_to (ins_of mI_133 (by rfl)) rfl rfl
theorem r133_45 : runs cal 133 45 [v0, v1, v2] [vR 40, vR 2] I = runs cal 133 48 [v0, v1, v2] [vR 41, vR 2] I := st_getR (ins_of mI_133 (by rfl)) mC_133 (by decide) fr_10_238 cT_40 (wdc wid_133 wd_40) rfl rfl
theorem r133_45a : runs cal 133 45 [v0, v1, v2] [vR 55, vR 2] I = runs cal 133 48 [v0, v1, v2] [vR 56, vR 2] I := st_getR (ins_of mI_133 (by rfl)) mC_133 (by decide) fr_10_238 cT_55 (wdc wid_133 wd_55) rfl rfl
theorem r133_48 : runs cal 133 48 [v0, v1, v2] [vR 41, vR 2] I = (cal 1 [vR 2, vR 41] I).bind (fun q => runs cal 133 51 [v0, v1, v2] (pushR q.1 []) q.2) := st_call (st := false) (ins_of mI_133 (by rfl)) mC_133 mr_10_106 (by decide) mS_1 mN_1 rfl (Nat.le_of_ble_eq_true rfl) rfl rfl (Or.inr ⟨_, _, rfl, rcv mC_1 rfl wid_133 (by decide +kernel)⟩) (Or.inl (wid_133.trans wid_1.symm))
theorem r133_48a : runs cal 133 48 [v0, v1, v2] [vR 56, vR 2] I = (cal 1 [vR 2, vR 56] I).bind (fun q => runs cal 133 51 [v0, v1, v2] (pushR q.1 []) q.2) := st_call (st := false) (ins_of mI_133 (by rfl)) mC_133 mr_10_106 (by decide) mS_1 mN_1 rfl (Nat.le_of_ble_eq_true rfl) rfl rfl (Or.inr ⟨_, _, rfl, rcv mC_1 rfl wid_133 (by decide +kernel)⟩) (Or.inl (wid_133.trans wid_1.symm))
theorem r133_51 : runs cal 133 51 [vR 1, v1, v2] [] I = runs cal 133 52 [vR 1, v1, v2] [vR 1] I := runs_to (ins_of mI_133 (by rfl)) rfl rfl
theorem r133_52 : runs cal 133 52 [v0, v1, v2] [vR 1] I = runs cal 133 55 [v0, v1, v2] [vR 21] I := st_getR (ins_of mI_133 (by rfl)) mC_133 (by decide) fr_10_38 cT_1 (wdc wid_133 wd_1) rfl rfl
theorem r133_55 : runs cal 133 55 [v0, v1, vR 40] [vR 21] I = runs cal 133 56 [v0, v1, vR 40] [vR 40, vR 21] I := runs_to (ins_of mI_133 (by rfl)) rfl rfl
theorem r133_55a : runs cal 133 55 [v0, v1, vR 55] [vR 21] I = runs cal 133 56 [v0, v1, vR 55] [vR 55, vR 21] I := runs_to (ins_of mI_133 (by rfl)) rfl rfl
theorem r133_56 : runs cal 133 56 [v0, v1, v2] [vR 40, vR 21] I = runs cal 133 59 [v0, v1, v2] [vR 49, vR 21] I := st_getR (ins_of mI_133 (by rfl)) mC_133 (by decide) fr_10_239 cT_40 (wdc wid_133 wd_40) rfl rfl
theorem r133_56a : runs cal 133 56 [v0, v1, v2] [vR 55, vR 21] I = runs cal 133 59 [v0, v1, v2] [vR 64, vR 21] I := st_getR (ins_of mI_133 (by rfl)) mC_133 (by decide) fr_10_239 cT_55 (wdc wid_133 wd_55) rfl rfl
theorem r133_59 : runs cal 133 59 [v0, v1, v2] [vR 49, vR 21] I = (cal 61 [vR 21, vR 49] I).bind (fun q => runs cal 133 62 [v0, v1, v2] (pushR q.1 []) q.2) := st_call (st := false) (ins_of mI_133 (by rfl)) mC_133 mr_10_240 (by decide) mS_61 mN_61 rfl (Nat.le_of_ble_eq_true rfl) rfl rfl (Or.inr ⟨_, _, rfl, rcv mC_61 rfl wid_133 (by decide +kernel)⟩) (Or.inl (wid_133.trans wid_61.symm))
theorem r133_59a : runs cal 133 59 [v0, v1, v2] [vR 64, vR 21] I = (cal 61 [vR 21, vR 64] I).bind (fun q => runs cal 133 62 [v0, v1, v2] (pushR q.1 []) q.2) := st_call (st := false) (ins_of mI_133 (by rfl)) mC_133 mr_10_240 (by decide) mS_61 mN_61 rfl (Nat.le_of_ble_eq_true rfl) rfl rfl (Or.inr ⟨_, _, rfl, rcv mC_61 rfl wid_133 (by decide +kernel)⟩) (Or.inl (wid_133.trans wid_61.symm))
theorem r133_62 : runs cal 133 62 [vR 1, v1, v2] [] I = runs cal 133 63 [vR 1, v1, v2] [vR 1] I := runs_to (ins_of mI_133 (by rfl)) rfl rfl
theorem r133_63 : runs cal 133 63 [v0, v1, v2] [vR 1] I = runs cal 133 66 [v0, v1, v2] [vR 25] I := st_getR (ins_of mI_133 (by rfl)) mC_133 (by decide) fr_10_45 cT_1 (wdc wid_133 wd_1) rfl rfl
theorem r133_66 : runs cal 133 66 [v0, v1, vR 40] [vR 25] I = runs cal 133 67 [v0, v1, vR 40] [vR 40, vR 25] I := runs_to (ins_of mI_133 (by rfl)) rfl rfl
theorem r133_66a : runs cal 133 66 [v0, v1, vR 55] [vR 25] I = runs cal 133 67 [v0, v1, vR 55] [vR 55, vR 25] I := runs_to (ins_of mI_133 (by rfl)) rfl rfl
theorem r133_67 : runs cal 133 67 [v0, v1, v2] [vR 40, vR 25] I = runs cal 133 70 [v0, v1, v2] [vR 53, vR 25] I := st_getR (ins_of mI_133 (by rfl)) mC_133 (by decide) fr_10_243 cT_40 (wdc wid_133 wd_40) rfl rfl
theorem r133_67a : runs cal 133 67 [v0, v1, v2] [vR 55, vR 25] I = runs cal 133 70 [v0, v1, v2] [vR 68, vR 25] I := st_getR (ins_of mI_133 (by rfl)) mC_133 (by decide) fr_10_243 cT_55 (wdc wid_133 wd_55) rfl rfl
theorem r133_70 : runs cal 133 70 [v0, v1, v2] [vR 53, vR 25] I = (cal 58 [vR 25, vR 53] I).bind (fun q => runs cal 133 73 [v0, v1, v2] (pushR q.1 []) q.2) := st_call (st := false) (ins_of mI_133 (by rfl)) mC_133 mr_10_244 (by decide) mS_58 mN_58 rfl (Nat.le_of_ble_eq_true rfl) rfl rfl (Or.inr ⟨_, _, rfl, rcv mC_58 rfl wid_133 (by decide +kernel)⟩) (Or.inl (wid_133.trans wid_58.symm))
theorem r133_70a : runs cal 133 70 [v0, v1, v2] [vR 68, vR 25] I = (cal 58 [vR 25, vR 68] I).bind (fun q => runs cal 133 73 [v0, v1, v2] (pushR q.1 []) q.2) := st_call (st := false) (ins_of mI_133 (by rfl)) mC_133 mr_10_244 (by decide) mS_58 mN_58 rfl (Nat.le_of_ble_eq_true rfl) rfl rfl (Or.inr ⟨_, _, rfl, rcv mC_58 rfl wid_133 (by decide +kernel)⟩) (Or.inl (wid_133.trans wid_58.symm))
theorem r133_73 : runs cal 133 73 [vR 1, v1, v2] [] I = runs cal 133 74 [vR 1, v1, v2] [vR 1] I := runs_to (ins_of mI_133 (by rfl)) rfl rfl
theorem r133_74 : runs cal 133 74 [v0, v1, v2] [vR 1] I = runs cal 133 77 [v0, v1, v2] [vR 27] I := st_getR (ins_of mI_133 (by rfl)) mC_133 (by decide) fr_10_52 cT_1 (wdc wid_133 wd_1) rfl rfl
theorem r133_77 : runs cal 133 77 [v0, v1, v2] [vR 27] I = (cal 83 [vR 27] I).bind (fun q => runs cal 133 80 [v0, v1, v2] (pushR q.1 []) q.2) := st_call (st := false) (ins_of mI_133 (by rfl)) mC_133 mr_10_111 (by decide) mS_83 mN_83 rfl (Nat.le_of_ble_eq_true rfl) rfl rfl (Or.inr ⟨_, _, rfl, rcv mC_83 rfl wid_133 (by decide +kernel)⟩) (Or.inl (wid_133.trans wid_83.symm))
theorem r133_80 : runs cal 133 80 [v0, v1, v2] [] I = runs cal 133 81 [v0, v1, v2] [vI (1)] I := runs_to (ins_of mI_133 (by rfl)) rfl rfl
theorem r133_81 : runs cal 133 81 [v0, v1, v2] [vI x0] I = some (some (vI x0), I) := st_ret (q := some (vI x0)) (k := 0) (ins_of mI_133 (by rfl)) rfl (by decide) mR_133 rfl trivial
theorem r134_0 : runs cal 134 0 [v0, vI w] [] I = runs cal 134 1 [v0, vI w] [vI w] I := runs_to (ins_of mI_134 (by rfl)) rfl rfl
theorem r134_1 : runs cal 134 1 [v0, v1] [vI (0)] I = runs cal 134 28 [v0, v1] [] I := st_sw (off := 27) (ins_of mI_134 (by rfl)) rfl rfl (by decide)
theorem r134_1a : runs cal 134 1 [v0, v1] [vI (1)] I = runs cal 134 33 [v0, v1] [] I := st_sw (off := 32) (ins_of mI_134 (by rfl)) rfl rfl (by decide)
theorem r134_1b : runs cal 134 1 [v0, v1] [vI (2)] I = runs cal 134 38 [v0, v1] [] I := st_sw (off := 37) (ins_of mI_134 (by rfl)) rfl rfl (by decide)
theorem r134_1c (hd : x0 < 0 ∨ 2 < x0) : runs cal 134 1 [v0, v1] [vI x0] I = runs cal 134 43 [v0, v1] [] I := st_tswD (ins_of mI_134 (by rfl)) (by decide) hd (by decide)
theorem r134_28 : runs cal 134 28 [vR 1, v1] [] I = runs cal 134 29 [vR 1, v1] [vR 1] I := runs_to (ins_of mI_134 (by rfl)) rfl rfl
theorem r134_29 : runs cal 134 29 [v0, v1] [vR 1] I = runs cal 134 32 [v0, v1] [vI (I 1 11)] I := st_getI (ins_of mI_134 (by rfl)) mC_134 (by decide) fr_10_251 cT_1 (wdc wid_134 wd_1) (Or.inl rfl)
theorem r134_32 : runs cal 134 32 [v0, v1] [vI x0] I = some (some (vI x0), I) := st_ret (q := some (vI x0)) (k := 0) (ins_of mI_134 (by rfl)) rfl (by decide) mR_134 rfl trivial
theorem r134_33 : runs cal 134 33 [vR 1, v1] [] I = runs cal 134 34 [vR 1, v1] [vR 1] I := runs_to (ins_of mI_134 (by rfl)) rfl rfl
theorem r134_34 : runs cal 134 34 [v0, v1] [vR 1] I = runs cal 134 37 [v0, v1] [vI (I 1 12)] I := st_getI (ins_of mI_134 (by rfl)) mC_134 (by decide) fr_10_254 cT_1 (wdc wid_134 wd_1) (Or.inl rfl)
theorem r134_37 : runs cal 134 37 [v0, v1] [vI x0] I = some (some (vI x0), I) := st_ret (q := some (vI x0)) (k := 0) (ins_of mI_134 (by rfl)) rfl (by decide) mR_134 rfl trivial
theorem r134_38 : runs cal 134 38 [vR 1, v1] [] I = runs cal 134 39 [vR 1, v1] [vR 1] I := runs_to (ins_of mI_134 (by rfl)) rfl rfl
theorem r134_39 : runs cal 134 39 [v0, v1] [vR 1] I = runs cal 134 42 [v0, v1] [vI (I 1 13)] I := st_getI (ins_of mI_134 (by rfl)) mC_134 (by decide) fr_10_257 cT_1 (wdc wid_134 wd_1) (Or.inl rfl)
theorem r134_42 : runs cal 134 42 [v0, v1] [vI x0] I = some (some (vI x0), I) := st_ret (q := some (vI x0)) (k := 0) (ins_of mI_134 (by rfl)) rfl (by decide) mR_134 rfl trivial
theorem r134_43 : runs cal 134 43 [vR 1, v1] [] I = runs cal 134 44 [vR 1, v1] [vR 1] I := runs_to (ins_of mI_134 (by rfl)) rfl rfl
theorem r134_44 : runs cal 134 44 [v0, v1] [vR 1] I = runs cal 134 46 [v0, v1] [vI (-2), vR 1] I := runs_to (ins_of mI_134 (by rfl)) rfl rfl
theorem r134_46 : runs cal 134 46 [v0, v1] [vI x0, vR 1] I = runs cal 134 47 [v0, v1] [vI (-1), vI x0, vR 1] I := runs_to (ins_of mI_134 (by rfl)) rfl rfl
theorem r134_47 : runs cal 134 47 [v0, v1] [vI x0, vI x1, vR 1] I = (cal 138 [vR 1, vI x1, vI x0] I).bind (fun q => runs cal 134 50 [v0, v1] (pushR q.1 []) q.2) := st_call (st := false) (ins_of mI_134 (by rfl)) mC_134 mr_10_80 (by decide) mS_138 mN_138 rfl (Nat.le_of_ble_eq_true rfl) rfl rfl (Or.inr ⟨_, _, rfl, rcv mC_138 rfl wid_134 (by decide +kernel)⟩) (Or.inl (wid_134.trans wid_138.symm))
theorem r134_50 : runs cal 134 50 [v0, v1] [vI x0] I = some (some (vI x0), I) := st_ret (q := some (vI x0)) (k := 0) (ins_of mI_134 (by rfl)) rfl (by decide) mR_134 rfl trivial
theorem r135_0 : runs cal 135 0 [v0, vI w] [] I = runs cal 135 1 [v0, vI w] [vI w] I := runs_to (ins_of mI_135 (by rfl)) rfl rfl
theorem r135_1 : runs cal 135 1 [v0, v1] [vI x0] I = if x0 < 0 then runs cal 135 9 [v0, v1] [] I else runs cal 135 4 [v0, v1] [] I := st_if_lt (ins_of mI_135 (by rfl)) (by decide)
theorem r135_4 : runs cal 135 4 [v0, vI w] [] I = runs cal 135 5 [v0, vI w] [vI w] I := runs_to (ins_of mI_135 (by rfl)) rfl rfl
theorem r135_5 : runs cal 135 5 [v0, v1] [vI x0] I = runs cal 135 6 [v0, v1] [vI (5), vI x0] I := runs_to (ins_of mI_135 (by rfl)) rfl rfl
theorem r135_6 : runs cal 135 6 [v0, v1] [vI x0, vI x1] I = if x0 < x1 then runs cal 135 9 [v0, v1] [] I else runs cal 135 18 [v0, v1] [] I := st_cmp_le (ins_of mI_135 (by rfl)) (by decide)
theorem r135_9 : runs cal 135 9 [vR 1, v1] [] I = runs cal 135 10 [vR 1, v1] [vR 1] I := runs_to (ins_of mI_135 (by rfl)) rfl rfl
theorem r135_10 : runs cal 135 10 [v0, v1] [vR 1] I = runs cal 135 12 [v0, v1] [vI (-2), vR 1] I := runs_to (ins_of mI_135 (by rfl)) rfl rfl
theorem r135_12 : runs cal 135 12 [v0, v1] [vI x0, vR 1] I = runs cal 135 14 [v0, v1] [vI (-2), vI x0, vR 1] I := runs_to (ins_of mI_135 (by rfl)) rfl rfl
theorem r135_14 : runs cal 135 14 [v0, v1] [vI x0, vI x1, vR 1] I = (cal 138 [vR 1, vI x1, vI x0] I).bind (fun q => runs cal 135 17 [v0, v1] (pushR q.1 []) q.2) := st_call (st := false) (ins_of mI_135 (by rfl)) mC_135 mr_10_80 (by decide) mS_138 mN_138 rfl (Nat.le_of_ble_eq_true rfl) rfl rfl (Or.inr ⟨_, _, rfl, rcv mC_138 rfl wid_135 (by decide +kernel)⟩) (Or.inl (wid_135.trans wid_138.symm))
theorem r135_17 : runs cal 135 17 [v0, v1] [vI x0] I = some (some (vI x0), I) := st_ret (q := some (vI x0)) (k := 0) (ins_of mI_135 (by rfl)) rfl (by decide) mR_135 rfl trivial
theorem r135_18 : runs cal 135 18 [vR 1, v1] [] I = runs cal 135 19 [vR 1, v1] [vR 1] I := runs_to (ins_of mI_135 (by rfl)) rfl rfl
theorem r135_19 : runs cal 135 19 [v0, vI w] [vR 1] I = runs cal 135 20 [v0, vI w] [vI w, vR 1] I := runs_to (ins_of mI_135 (by rfl)) rfl rfl
theorem r135_20 : runs cal 135 20 [v0, v1] [vI x0, vR 1] I = (cal 137 [vR 1, vI x0] I).bind (fun q => runs cal 135 23 [v0, v1] (pushR q.1 []) q.2) := st_call (st := false) (ins_of mI_135 (by rfl)) mC_135 mr_10_260 (by decide) mS_137 mN_137 rfl (Nat.le_of_ble_eq_true rfl) rfl rfl (Or.inr ⟨_, _, rfl, rcv mC_137 rfl wid_135 (by decide +kernel)⟩) (Or.inl (wid_135.trans wid_137.symm))
theorem r135_23 : runs cal 135 23 [v0, v1] [vI x0] I = some (some (vI x0), I) := st_ret (q := some (vI x0)) (k := 0) (ins_of mI_135 (by rfl)) rfl (by decide) mR_135 rfl trivial
theorem r136_0 : runs cal 136 0 [v0, v1, v2, v3] [] I = runs cal 136 3 [v0, v1, v2, v3] [vL (653)] I := runs_to (ins_of mI_136 (by rfl)) rfl (by simp only [stepI, ldk2, mC_136]; rfl)
theorem r136_3 : runs cal 136 3 [vR b0, v1, v2, v3] [vL x0] I = runs cal 136 4 [vR b0, vL x0, vR 0, v3] [] I := runs_to (ins_of mI_136 (by rfl)) rfl rfl
theorem r136_4 : runs cal 136 4 [v0, v1, v2, v3] [] I = runs cal 136 5 [v0, v1, v2, v3] [vI (0)] I := runs_to (ins_of mI_136 (by rfl)) rfl rfl
theorem r136_5 : runs cal 136 5 [v0, v1, v2, v3] [vI x0] I = runs cal 136 6 [v0, v1, kill v2, vI x0] [] I := runs_to (ins_of mI_136 (by rfl)) rfl rfl
theorem r136_6 : runs cal 136 6 [v0, v1, v2, vI w] [] I = runs cal 136 7 [v0, v1, v2, vI w] [vI w] I := runs_to (ins_of mI_136 (by rfl)) rfl rfl
theorem r136_7 : runs cal 136 7 [v0, v1, v2, v3] [vI x0] I = runs cal 136 8 [v0, v1, v2, v3] [vI (5), vI x0] I := runs_to (ins_of mI_136 (by rfl)) rfl rfl
theorem r136_8 : runs cal 136 8 [v0, v1, v2, v3] [vI x0, vI x1] I = if x0 < x1 then runs cal 136 30 [v0, v1, v2, v3] [] I else runs cal 136 11 [v0, v1, v2, v3] [] I := st_cmp_gt (ins_of mI_136 (by rfl)) (by decide)
theorem r136_11 : runs cal 136 11 [v0, v1, v2, v3] [] I = runs cal 136 14 [v0, v1, v2, v3] [vL (31)] I := runs_to (ins_of mI_136 (by rfl)) rfl (by simp only [stepI, ldk2, mC_136]; rfl)
theorem r136_14 : runs cal 136 14 [v0, vL w, v2, v3] [vL x0] I = runs cal 136 15 [v0, vL w, v2, v3] [vL w, vL x0] I := runs_to (ins_of mI_136 (by rfl)) rfl rfl
theorem r136_15 : runs cal 136 15 [v0, v1, v2, v3] [vL x0, vL x1] I = runs cal 136 16 [v0, v1, v2, v3] [vL (lmul x1 x0)] I := runs_to (ins_of mI_136 (by rfl)) rfl rfl
theorem r136_16 : runs cal 136 16 [vR 1, v1, v2, v3] [vL x0] I = runs cal 136 17 [vR 1, v1, v2, v3] [vR 1, vL x0] I := runs_to (ins_of mI_136 (by rfl)) rfl rfl
theorem r136_17 : runs cal 136 17 [v0, v1, v2, vI w] [vR 1, vL x1] I = runs cal 136 18 [v0, v1, v2, vI w] [vI w, vR 1, vL x1] I := runs_to (ins_of mI_136 (by rfl)) rfl rfl
theorem r136_18 : runs cal 136 18 [v0, v1, v2, v3] [vI x0, vR 1, vL x2] I = (cal 137 [vR 1, vI x0] I).bind (fun q => runs cal 136 21 [v0, v1, v2, v3] (pushR q.1 [vL x2]) q.2) := st_call (st := false) (ins_of mI_136 (by rfl)) mC_136 mr_10_260 (by decide) mS_137 mN_137 rfl (Nat.le_of_ble_eq_true rfl) rfl rfl (Or.inr ⟨_, _, rfl, rcv mC_137 rfl wid_136 (by decide +kernel)⟩) (Or.inl (wid_136.trans wid_137.symm))
theorem r136_21 : runs cal 136 21 [v0, v1, v2, v3] [vI x0, vL x1] I = runs cal 136 22 [v0, v1, v2, v3] [vL x0, vL x1] I := runs_to (ins_of mI_136 (by rfl)) rfl rfl
theorem r136_22 : runs cal 136 22 [v0, v1, v2, v3] [vL x0, vL x1] I = runs cal 136 23 [v0, v1, v2, v3] [vL (ladd x1 x0)] I := runs_to (ins_of mI_136 (by rfl)) rfl rfl
theorem r136_23 : runs cal 136 23 [vR b0, v1, v2, v3] [vL x0] I = runs cal 136 24 [vR b0, vL x0, vR 0, v3] [] I := runs_to (ins_of mI_136 (by rfl)) rfl rfl
theorem r136_24 : runs cal 136 24 [v0, v1, v2, vI w] [] I = runs cal 136 27 [v0, v1, kill v2, vI (iadd w (1))] [] I := runs_to (ins_of mI_136 (by rfl)) rfl rfl
theorem r136_27 : runs cal 136 27 [v0, v1, v2, v3] [] I = runs cal 136 6 [v0, v1, v2, v3] [] I := st_goto (ins_of mI_136 (by rfl)) (by decide)
theorem r136_30 : runs cal 136 30 [vR 1, v1, v2, v3] [] I = runs cal 136 31 [vR 1, v1, v2, v3] [vR 1] I := runs_to (ins_of mI_136 (by rfl)) rfl rfl
theorem r136_31 : runs cal 136 31 [v0, v1, v2, v3] [vR 1] I = runs cal 136 34 [v0, v1, v2, v3] [vR 2] I := st_getR (ins_of mI_136 (by rfl)) mC_136 (by decide) fr_10_10 cT_1 (wdc wid_136 wd_1) rfl rfl
theorem r136_34 : runs cal 136 34 [v0, vL w, v2, v3] [vR 2] I = runs cal 136 35 [v0, vL w, v2, v3] [vL w, vR 2] I := runs_to (ins_of mI_136 (by rfl)) rfl rfl
theorem r136_35 : runs cal 136 35 [v0, v1, v2, v3] [vL x0, vR 2] I = (cal 38 [vR 2, vL x0] I).bind (fun q => runs cal 136 38 [v0, v1, v2, v3] (pushR q.1 []) q.2) := st_call (st := false) (ins_of mI_136 (by rfl)) mC_136 mr_10_267 (by decide) mS_38 mN_38 rfl (Nat.le_of_ble_eq_true rfl) rfl rfl (Or.inr ⟨_, _, rfl, rcv mC_38 rfl wid_136 (by decide +kernel)⟩) (Or.inl (wid_136.trans wid_38.symm))
theorem r136_38 : runs cal 136 38 [vR b0, v1, v2, v3] [vL x0] I = runs cal 136 39 [vR b0, vL x0, vR 0, v3] [] I := runs_to (ins_of mI_136 (by rfl)) rfl rfl
theorem r136_39 : runs cal 136 39 [vR 1, v1, v2, v3] [] I = runs cal 136 40 [vR 1, v1, v2, v3] [vR 1] I := runs_to (ins_of mI_136 (by rfl)) rfl rfl
theorem r136_40 : runs cal 136 40 [v0, v1, v2, v3] [vR 1] I = runs cal 136 43 [v0, v1, v2, v3] [vR 21] I := st_getR (ins_of mI_136 (by rfl)) mC_136 (by decide) fr_10_38 cT_1 (wdc wid_136 wd_1) rfl rfl
theorem r136_43 : runs cal 136 43 [v0, vL w, v2, v3] [vR 21] I = runs cal 136 44 [v0, vL w, v2, v3] [vL w, vR 21] I := runs_to (ins_of mI_136 (by rfl)) rfl rfl
theorem r136_44 : runs cal 136 44 [v0, v1, v2, v3] [vL x0, vR 21] I = (cal 82 [vR 21, vL x0] I).bind (fun q => runs cal 136 47 [v0, v1, v2, v3] (pushR q.1 []) q.2) := st_call (st := false) (ins_of mI_136 (by rfl)) mC_136 mr_10_271 (by decide) mS_82 mN_82 rfl (Nat.le_of_ble_eq_true rfl) rfl rfl (Or.inr ⟨_, _, rfl, rcv mC_82 rfl wid_136 (by decide +kernel)⟩) (Or.inl (wid_136.trans wid_82.symm))
theorem r136_47 : runs cal 136 47 [vR b0, v1, v2, v3] [vL x0] I = runs cal 136 48 [vR b0, vL x0, vR 0, v3] [] I := runs_to (ins_of mI_136 (by rfl)) rfl rfl
theorem r136_48 : runs cal 136 48 [vR 1, v1, v2, v3] [] I = runs cal 136 49 [vR 1, v1, v2, v3] [vR 1] I := runs_to (ins_of mI_136 (by rfl)) rfl rfl
theorem r136_49 : runs cal 136 49 [v0, v1, v2, v3] [vR 1] I = runs cal 136 52 [v0, v1, v2, v3] [vR 36] I := st_getR (ins_of mI_136 (by rfl)) mC_136 (by decide) fr_10_66 cT_1 (wdc wid_136 wd_1) rfl rfl
theorem r136_52 : runs cal 136 52 [v0, vL w, v2, v3] [vR 36] I = runs cal 136 53 [v0, vL w, v2, v3] [vL w, vR 36] I := runs_to (ins_of mI_136 (by rfl)) rfl rfl
theorem r136_53 : runs cal 136 53 [v0, v1, v2, v3] [vL x0, vR 36] I = (cal 51 [vR 36, vL x0] I).bind (fun q => runs cal 136 56 [v0, v1, v2, v3] (pushR q.1 []) q.2) := st_call (st := false) (ins_of mI_136 (by rfl)) mC_136 mr_10_272 (by decide) mS_51 mN_51 rfl (Nat.le_of_ble_eq_true rfl) rfl rfl (Or.inr ⟨_, _, rfl, rcv mC_51 rfl wid_136 (by decide +kernel)⟩) (Or.inl (wid_136.trans wid_51.symm))
theorem r136_56 : runs cal 136 56 [v0, v1, v2, v3] [vL x0] I = some (some (vL x0), I) := st_ret (q := some (vL x0)) (k := 1) (ins_of mI_136 (by rfl)) rfl (by decide) mR_136 rfl trivial
theorem r137_0 : runs cal 137 0 [v0, vI w] [] I = runs cal 137 1 [v0, vI w] [vI w] I := runs_to (ins_of mI_137 (by rfl)) rfl rfl
theorem r137_1 : runs cal 137 1 [v0, v1] [vI (0)] I = runs cal 137 36 [v0, v1] [] I := st_sw (off := 35) (ins_of mI_137 (by rfl)) rfl rfl (by decide)
theorem r137_1a : runs cal 137 1 [v0, v1] [vI (1)] I = runs cal 137 44 [v0, v1] [] I := st_sw (off := 43) (ins_of mI_137 (by rfl)) rfl rfl (by decide)
theorem r137_1b : runs cal 137 1 [v0, v1] [vI (2)] I = runs cal 137 52 [v0, v1] [] I := st_sw (off := 51) (ins_of mI_137 (by rfl)) rfl rfl (by decide)
theorem r137_1c : runs cal 137 1 [v0, v1] [vI (3)] I = runs cal 137 60 [v0, v1] [] I := st_sw (off := 59) (ins_of mI_137 (by rfl)) rfl rfl (by decide)
theorem r137_1d : runs cal 137 1 [v0, v1] [vI (4)] I = runs cal 137 68 [v0, v1] [] I := st_sw (off := 67) (ins_of mI_137 (by rfl)) rfl rfl (by decide)
theorem r137_1e (hd : x0 < 0 ∨ 4 < x0) : runs cal 137 1 [v0, v1] [vI x0] I = runs cal 137 76 [v0, v1] [] I := st_tswD (ins_of mI_137 (by rfl)) (by decide) hd (by decide)
theorem r137_36 : runs cal 137 36 [vR 1, v1] [] I = runs cal 137 37 [vR 1, v1] [vR 1] I := runs_to (ins_of mI_137 (by rfl)) rfl rfl
theorem r137_37 : runs cal 137 37 [v0, v1] [vR 1] I = runs cal 137 40 [v0, v1] [vR 2] I := st_getR (ins_of mI_137 (by rfl)) mC_137 (by decide) fr_10_10 cT_1 (wdc wid_137 wd_1) rfl rfl
theorem r137_40 : runs cal 137 40 [v0, v1] [vR 2] I = runs cal 137 43 [v0, v1] [vI (I 2 2)] I := st_getI (ins_of mI_137 (by rfl)) mC_137 (by decide) fr_10_125 cT_2 (wdc wid_137 wd_2) (Or.inl rfl)
theorem r137_43 : runs cal 137 43 [v0, v1] [vI x0] I = some (some (vI x0), I) := st_ret (q := some (vI x0)) (k := 0) (ins_of mI_137 (by rfl)) rfl (by decide) mR_137 rfl trivial
theorem r137_44 : runs cal 137 44 [vR 1, v1] [] I = runs cal 137 45 [vR 1, v1] [vR 1] I := runs_to (ins_of mI_137 (by rfl)) rfl rfl
theorem r137_45 : runs cal 137 45 [v0, v1] [vR 1] I = runs cal 137 48 [v0, v1] [vR 2] I := st_getR (ins_of mI_137 (by rfl)) mC_137 (by decide) fr_10_10 cT_1 (wdc wid_137 wd_1) rfl rfl
theorem r137_48 : runs cal 137 48 [v0, v1] [vR 2] I = runs cal 137 51 [v0, v1] [vI (I 2 3)] I := st_getI (ins_of mI_137 (by rfl)) mC_137 (by decide) fr_10_273 cT_2 (wdc wid_137 wd_2) (Or.inl rfl)
theorem r137_51 : runs cal 137 51 [v0, v1] [vI x0] I = some (some (vI x0), I) := st_ret (q := some (vI x0)) (k := 0) (ins_of mI_137 (by rfl)) rfl (by decide) mR_137 rfl trivial
theorem r137_52 : runs cal 137 52 [vR 1, v1] [] I = runs cal 137 53 [vR 1, v1] [vR 1] I := runs_to (ins_of mI_137 (by rfl)) rfl rfl
theorem r137_53 : runs cal 137 53 [v0, v1] [vR 1] I = runs cal 137 56 [v0, v1] [vR 18] I := st_getR (ins_of mI_137 (by rfl)) mC_137 (by decide) fr_10_22 cT_1 (wdc wid_137 wd_1) rfl rfl
theorem r137_56 : runs cal 137 56 [v0, v1] [vR 18] I = runs cal 137 59 [v0, v1] [vI (I 18 1)] I := st_getI (ins_of mI_137 (by rfl)) mC_137 (by decide) fr_10_84 cT_18 (wdc wid_137 wd_18) (Or.inl rfl)
theorem r137_59 : runs cal 137 59 [v0, v1] [vI x0] I = some (some (vI x0), I) := st_ret (q := some (vI x0)) (k := 0) (ins_of mI_137 (by rfl)) rfl (by decide) mR_137 rfl trivial
theorem r137_60 : runs cal 137 60 [vR 1, v1] [] I = runs cal 137 61 [vR 1, v1] [vR 1] I := runs_to (ins_of mI_137 (by rfl)) rfl rfl
theorem r137_61 : runs cal 137 61 [v0, v1] [vR 1] I = runs cal 137 64 [v0, v1] [vR 21] I := st_getR (ins_of mI_137 (by rfl)) mC_137 (by decide) fr_10_38 cT_1 (wdc wid_137 wd_1) rfl rfl
theorem r137_64 : runs cal 137 64 [v0, v1] [vR 21] I = runs cal 137 67 [v0, v1] [vI (I 21 1)] I := st_getI (ins_of mI_137 (by rfl)) mC_137 (by decide) fr_10_194 cT_21 (wdc wid_137 wd_21) (Or.inl rfl)
theorem r137_67 : runs cal 137 67 [v0, v1] [vI x0] I = some (some (vI x0), I) := st_ret (q := some (vI x0)) (k := 0) (ins_of mI_137 (by rfl)) rfl (by decide) mR_137 rfl trivial
theorem r137_68 : runs cal 137 68 [vR 1, v1] [] I = runs cal 137 69 [vR 1, v1] [vR 1] I := runs_to (ins_of mI_137 (by rfl)) rfl rfl
theorem r137_69 : runs cal 137 69 [v0, v1] [vR 1] I = runs cal 137 72 [v0, v1] [vR 25] I := st_getR (ins_of mI_137 (by rfl)) mC_137 (by decide) fr_10_45 cT_1 (wdc wid_137 wd_1) rfl rfl
theorem r137_72 : runs cal 137 72 [v0, v1] [vR 25] I = runs cal 137 75 [v0, v1] [vI (I 25 1)] I := st_getI (ins_of mI_137 (by rfl)) mC_137 (by decide) fr_10_110 cT_25 (wdc wid_137 wd_25) (Or.inl rfl)
theorem r137_75 : runs cal 137 75 [v0, v1] [vI x0] I = some (some (vI x0), I) := st_ret (q := some (vI x0)) (k := 0) (ins_of mI_137 (by rfl)) rfl (by decide) mR_137 rfl trivial
theorem r137_76 : runs cal 137 76 [vR 1, v1] [] I = runs cal 137 77 [vR 1, v1] [vR 1] I := runs_to (ins_of mI_137 (by rfl)) rfl rfl
theorem r137_77 : runs cal 137 77 [v0, v1] [vR 1] I = runs cal 137 80 [v0, v1] [vR 2] I := st_getR (ins_of mI_137 (by rfl)) mC_137 (by decide) fr_10_10 cT_1 (wdc wid_137 wd_1) rfl rfl
theorem r137_80 : runs cal 137 80 [v0, v1] [vR 2] I = runs cal 137 83 [v0, v1] [vI (I 2 0)] I := st_getI (ins_of mI_137 (by rfl)) mC_137 (by decide) fr_10_276 cT_2 (wdc wid_137 wd_2) (Or.inl rfl)
theorem r137_83 : runs cal 137 83 [v0, v1] [vI x0] I = some (some (vI x0), I) := st_ret (q := some (vI x0)) (k := 0) (ins_of mI_137 (by rfl)) rfl (by decide) mR_137 rfl trivial
theorem r138_0 : runs cal 138 0 [v0, vI w, v2] [] I = runs cal 138 1 [v0, vI w, v2] [vI w] I := runs_to (ins_of mI_138 (by rfl)) rfl rfl
theorem r138_1 : runs cal 138 1 [v0, v1, v2] [vI x0] I = runs cal 138 3 [v0, v1, v2] [vI (-2), vI x0] I := runs_to (ins_of mI_138 (by rfl)) rfl rfl
theorem r138_3 : runs cal 138 3 [v0, v1, v2] [vI x0, vI x1] I = if x1 = x0 then runs cal 138 6 [v0, v1, v2] [] I else runs cal 138 19 [v0, v1, v2] [] I := st_cmp_ne (ins_of mI_138 (by rfl)) (by decide)
theorem r138_6 : runs cal 138 6 [vR 1, v1, v2] [] I = runs cal 138 7 [vR 1, v1, v2] [vR 1] I := runs_to (ins_of mI_138 (by rfl)) rfl rfl
theorem r138_7 : runs cal 138 7 [v0, v1, v2] [vR 1] I = runs cal 138 8 [v0, v1, v2] [vR 1, vR 1] I := runs_to (ins_of mI_138 (by rfl)) rfl rfl
theorem r138_8 : runs cal 138 8 [v0, v1, v2] [vR 1, vR 1] I = runs cal 138 11 [v0, v1, v2] [vI (I 1 11), vR 1] I := st_getI (ins_of mI_138 (by rfl)) mC_138 (by decide) fr_10_251 cT_1 (wdc wid_138 wd_1) (Or.inl rfl)
theorem r138_11 : runs cal 138 11 [v0, v1, v2] [vI x0, vR 1] I = runs cal 138 12 [v0, v1, v2] [vI (1), vI x0, vR 1] I := runs_to (ins_of mI_138 (by rfl)) rfl rfl
theorem r138_12 : runs cal 138 12 [v0, v1, v2] [vI x0, vI x1, vR 1] I = runs cal 138 13 [v0, v1, v2] [vI (iadd x1 x0), vR 1] I := runs_to (ins_of mI_138 (by rfl)) rfl rfl
theorem r138_13 : runs cal 138 13 [v0, v1, v2] [vI x0, vR 1] I = runs cal 138 16 [v0, v1, v2] [] (mset I 1 11 x0) := st_putI (ins_of mI_138 (by rfl)) mC_138 fr_10_251 cT_1 (wdc wid_138 wd_1) rfl
theorem r138_16 : runs cal 138 16 [v0, v1, v2] [] I = runs cal 138 48 [v0, v1, v2] [] I := st_goto (ins_of mI_138 (by rfl)) (by decide)
theorem r138_19 : runs cal 138 19 [v0, vI w, v2] [] I = runs cal 138 20 [v0, vI w, v2] [vI w] I := runs_to (ins_of mI_138 (by rfl)) rfl rfl
theorem r138_20 : runs cal 138 20 [v0, v1, v2] [vI x0] I = runs cal 138 22 [v0, v1, v2] [vI (-3), vI x0] I := runs_to (ins_of mI_138 (by rfl)) rfl rfl
theorem r138_22 : runs cal 138 22 [v0, v1, v2] [vI x0, vI x1] I = if x1 = x0 then runs cal 138 25 [v0, v1, v2] [] I else runs cal 138 38 [v0, v1, v2] [] I := st_cmp_ne (ins_of mI_138 (by rfl)) (by decide)
theorem r138_25 : runs cal 138 25 [vR 1, v1, v2] [] I = runs cal 138 26 [vR 1, v1, v2] [vR 1] I := runs_to (ins_of mI_138 (by rfl)) rfl rfl
theorem r138_26 : runs cal 138 26 [v0, v1, v2] [vR 1] I = runs cal 138 27 [v0, v1, v2] [vR 1, vR 1] I := runs_to (ins_of mI_138 (by rfl)) rfl rfl
theorem r138_27 : runs cal 138 27 [v0, v1, v2] [vR 1, vR 1] I = runs cal 138 30 [v0, v1, v2] [vI (I 1 12), vR 1] I := st_getI (ins_of mI_138 (by rfl)) mC_138 (by decide) fr_10_254 cT_1 (wdc wid_138 wd_1) (Or.inl rfl)
theorem r138_30 : runs cal 138 30 [v0, v1, v2] [vI x0, vR 1] I = runs cal 138 31 [v0, v1, v2] [vI (1), vI x0, vR 1] I := runs_to (ins_of mI_138 (by rfl)) rfl rfl
theorem r138_31 : runs cal 138 31 [v0, v1, v2] [vI x0, vI x1, vR 1] I = runs cal 138 32 [v0, v1, v2] [vI (iadd x1 x0), vR 1] I := runs_to (ins_of mI_138 (by rfl)) rfl rfl
theorem r138_32 : runs cal 138 32 [v0, v1, v2] [vI x0, vR 1] I = runs cal 138 35 [v0, v1, v2] [] (mset I 1 12 x0) := st_putI (ins_of mI_138 (by rfl)) mC_138 fr_10_254 cT_1 (wdc wid_138 wd_1) rfl
theorem r138_35 : runs cal 138 35 [v0, v1, v2] [] I = runs cal 138 48 [v0, v1, v2] [] I := st_goto (ins_of mI_138 (by rfl)) (by decide)
theorem r138_38 : runs cal 138 38 [vR 1, v1, v2] [] I = runs cal 138 39 [vR 1, v1, v2] [vR 1] I := runs_to (ins_of mI_138 (by rfl)) rfl rfl
theorem r138_39 : runs cal 138 39 [v0, v1, v2] [vR 1] I = runs cal 138 40 [v0, v1, v2] [vR 1, vR 1] I := runs_to (ins_of mI_138 (by rfl)) rfl rfl
theorem r138_40 : runs cal 138 40 [v0, v1, v2] [vR 1, vR 1] I = runs cal 138 43 [v0, v1, v2] [vI (I 1 13), vR 1] I := st_getI (ins_of mI_138 (by rfl)) mC_138 (by decide) fr_10_257 cT_1 (wdc wid_138 wd_1) (Or.inl rfl)
theorem r138_43 : runs cal 138 43 [v0, v1, v2] [vI x0, vR 1] I = runs cal 138 44 [v0, v1, v2] [vI (1), vI x0, vR 1] I := runs_to (ins_of mI_138 (by rfl)) rfl rfl
theorem r138_44 : runs cal 138 44 [v0, v1, v2] [vI x0, vI x1, vR 1] I = runs cal 138 45 [v0, v1, v2] [vI (iadd x1 x0), vR 1] I := runs_to (ins_of mI_138 (by rfl)) rfl rfl
theorem r138_45 : runs cal 138 45 [v0, v1, v2] [vI x0, vR 1] I = runs cal 138 48 [v0, v1, v2] [] (mset I 1 13 x0) := st_putI (ins_of mI_138 (by rfl)) mC_138 fr_10_257 cT_1 (wdc wid_138 wd_1) rfl
theorem r138_48 : runs cal 138 48 [v0, v1, vI w] [] I = runs cal 138 49 [v0, v1, vI w] [vI w] I := runs_to (ins_of mI_138 (by rfl)) rfl rfl
theorem r138_49 : runs cal 138 49 [v0, v1, v2] [vI x0] I = some (some (vI x0), I) := st_ret (q := some (vI x0)) (k := 0) (ins_of mI_138 (by rfl)) rfl (by decide) mR_138 rfl trivial
theorem r139_0 : runs cal 139 0 [v0, vI w] [] I = runs cal 139 1 [v0, vI w] [vI w] I := runs_to (ins_of mI_139 (by rfl)) rfl rfl
theorem r139_1 : runs cal 139 1 [v0, v1] [vI x0] I = runs cal 139 4 [v0, v1] [vI (1024), vI x0] I := runs_to (ins_of mI_139 (by rfl)) rfl rfl
theorem r139_4 : runs cal 139 4 [v0, v1] [vI x0, vI x1] I = if x1 < x0 then runs cal 139 11 [v0, v1] [] I else runs cal 139 7 [v0, v1] [] I := st_cmp_lt (ins_of mI_139 (by rfl)) (by decide)
theorem r139_7 : runs cal 139 7 [v0, v1] [] I = runs cal 139 8 [v0, v1] [vI (-1)] I := runs_to (ins_of mI_139 (by rfl)) rfl rfl
theorem r139_8 : runs cal 139 8 [v0, v1] [vI x0] I = runs cal 139 26 [v0, v1] [vI x0] I := st_goto (ins_of mI_139 (by rfl)) (by decide)
theorem r139_11 : runs cal 139 11 [vR 1, v1] [] I = runs cal 139 12 [vR 1, v1] [vR 1] I := runs_to (ins_of mI_139 (by rfl)) rfl rfl
theorem r139_12 : runs cal 139 12 [v0, v1] [vR 1] I = runs cal 139 15 [v0, v1] [vR 2] I := st_getR (ins_of mI_139 (by rfl)) mC_139 (by decide) fr_10_10 cT_1 (wdc wid_139 wd_1) rfl rfl
theorem r139_15 : runs cal 139 15 [vR 1, v1] [vR 2] I = runs cal 139 16 [vR 1, v1] [vR 1, vR 2] I := runs_to (ins_of mI_139 (by rfl)) rfl rfl
theorem r139_16 : runs cal 139 16 [v0, v1] [vR 1, vR 2] I = runs cal 139 19 [v0, v1] [vR 2, vR 2] I := st_getR (ins_of mI_139 (by rfl)) mC_139 (by decide) fr_10_10 cT_1 (wdc wid_139 wd_1) rfl rfl
theorem r139_19 : runs cal 139 19 [v0, v1] [vR 2, vR 2] I = runs cal 139 22 [v0, v1] [vI (I 2 4), vR 2] I := st_getI (ins_of mI_139 (by rfl)) mC_139 (by decide) fr_10_99 cT_2 (wdc wid_139 wd_2) (Or.inl rfl)
theorem r139_22 : runs cal 139 22 [v0, vI w] [vI x0, vR 2] I = runs cal 139 23 [v0, vI w] [vI w, vI x0, vR 2] I := runs_to (ins_of mI_139 (by rfl)) rfl rfl
theorem r139_23 : runs cal 139 23 [v0, v1] [vI x0, vI x1, vR 2] I = (cal 32 [vR 2, vI x1, vI x0] I).bind (fun q => runs cal 139 26 [v0, v1] (pushR q.1 []) q.2) := st_call (st := false) (ins_of mI_139 (by rfl)) mC_139 mr_10_191 (by decide) mS_32 mN_32 rfl (Nat.le_of_ble_eq_true rfl) rfl rfl (Or.inr ⟨_, _, rfl, rcv mC_32 rfl wid_139 (by decide +kernel)⟩) (Or.inl (wid_139.trans wid_32.symm))
theorem r139_26 : runs cal 139 26 [v0, v1] [vI x0] I = some (some (vI x0), I) := st_ret (q := some (vI x0)) (k := 0) (ins_of mI_139 (by rfl)) rfl (by decide) mR_139 rfl trivial
theorem r140_0 : runs cal 140 0 [vR 1, v1] [] I = runs cal 140 1 [vR 1, v1] [vR 1] I := runs_to (ins_of mI_140 (by rfl)) rfl rfl
theorem r140_1 : runs cal 140 1 [v0, v1] [vR 1] I = runs cal 140 4 [v0, v1] [vR 2] I := st_getR (ins_of mI_140 (by rfl)) mC_140 (by decide) fr_10_10 cT_1 (wdc wid_140 wd_1) rfl rfl
theorem r140_4 : runs cal 140 4 [v0, vI w] [vR 2] I = runs cal 140 5 [v0, vI w] [vI w, vR 2] I := runs_to (ins_of mI_140 (by rfl)) rfl rfl
theorem r140_5 : runs cal 140 5 [v0, v1] [vI x0, vR 2] I = runs cal 140 8 [v0, v1] [] (mset I 2 4 x0) := st_putI (ins_of mI_140 (by rfl)) mC_140 fr_10_99 cT_2 (wdc wid_140 wd_2) rfl
theorem r140_8 : runs cal 140 8 [vR 1, v1] [] I = runs cal 140 9 [vR 1, v1] [vR 1] I := runs_to (ins_of mI_140 (by rfl)) rfl rfl
theorem r140_9 : runs cal 140 9 [v0, v1] [vR 1] I = runs cal 140 12 [v0, v1] [vR 27] I := st_getR (ins_of mI_140 (by rfl)) mC_140 (by decide) fr_10_52 cT_1 (wdc wid_140 wd_1) rfl rfl
theorem r140_12 : runs cal 140 12 [v0, v1] [vR 27] I = (cal 83 [vR 27] I).bind (fun q => runs cal 140 15 [v0, v1] (pushR q.1 []) q.2) := st_call (st := false) (ins_of mI_140 (by rfl)) mC_140 mr_10_111 (by decide) mS_83 mN_83 rfl (Nat.le_of_ble_eq_true rfl) rfl rfl (Or.inr ⟨_, _, rfl, rcv mC_83 rfl wid_140 (by decide +kernel)⟩) (Or.inl (wid_140.trans wid_83.symm))
theorem r140_15 : runs cal 140 15 [v0, v1] [] I = some (none, I) := st_ret (q := none) (k := 3) (ins_of mI_140 (by rfl)) rfl (by decide) mR_140 rfl trivial
theorem r141_0 : runs cal 141 0 [v0, vI w] [] I = runs cal 141 1 [v0, vI w] [vI w] I := runs_to (ins_of mI_141 (by rfl)) rfl rfl
theorem r141_1 : runs cal 141 1 [v0, v1] [vI x0] I = if x0 = 0 then runs cal 141 4 [v0, v1] [] I else runs cal 141 11 [v0, v1] [] I := st_if_ne (ins_of mI_141 (by rfl)) (by decide)
theorem r141_4 : runs cal 141 4 [vR 1, v1] [] I = runs cal 141 5 [vR 1, v1] [vR 1] I := runs_to (ins_of mI_141 (by rfl)) rfl rfl
theorem r141_5 : runs cal 141 5 [v0, v1] [vR 1] I = runs cal 141 8 [v0, v1] [vR 40] I := st_getR (ins_of mI_141 (by rfl)) mC_141 (by decide) fr_10_73 cT_1 (wdc wid_141 wd_1) rfl rfl
theorem r141_8 : runs cal 141 8 [v0, v1] [vR 40] I = runs cal 141 15 [v0, v1] [vR 40] I := st_goto (ins_of mI_141 (by rfl)) (by decide)
theorem r141_11 : runs cal 141 11 [vR 1, v1] [] I = runs cal 141 12 [vR 1, v1] [vR 1] I := runs_to (ins_of mI_141 (by rfl)) rfl rfl
theorem r141_12 : runs cal 141 12 [v0, v1] [vR 1] I = runs cal 141 15 [v0, v1] [vR 55] I := st_getR (ins_of mI_141 (by rfl)) mC_141 (by decide) fr_10_77 cT_1 (wdc wid_141 wd_1) rfl rfl
theorem r141_15 : runs cal 141 15 [v0, v1] [vR 40] I = some (some (vR 40), I) := st_ret (q := some (vR 40)) (k := 2) (ins_of mI_141 (by rfl)) rfl (by decide) mR_141 rfl trivial
theorem r141_15a : runs cal 141 15 [v0, v1] [vR 55] I = some (some (vR 55), I) := st_ret (q := some (vR 55)) (k := 2) (ins_of mI_141 (by rfl)) rfl (by decide) mR_141 rfl trivial
end PRINTED
