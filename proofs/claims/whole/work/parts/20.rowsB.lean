section PRINTED
variable {cal : Nat → List AV → MM → Option RES} {I : MM}
variable {v0 v1 v2 v3 v4 v5 v6 v7 v8 v9 v10 v11 v12 v13 v14 v15 v16 v17 v18 v19 v20 v21 v22 v23 v24 v25 v26 v27 v28 v29 v30 v31 v32 v33 v34 v35 v36 v37 v38 v39 v40 v41 v42 v43 v44 v45 v46 v47 v48 v49 v50 v51 v52 v53 v54 v55 v56 v57 v58 v59 : AV} {x0 x1 x2 x3 x4 x5 x6 x7 x8 x9 w u : Int} {a0 a1 a2 a3 a4 a5 a6 b0 : Nat}

theorem r39_0 : runs cal 39 0 [vR 36, v1, v2, v3, v4, v5, v6] [] I = runs cal 39 1 [vR 36, v1, v2, v3, v4, v5, v6] [vR 36] I := runs_to (ins_of mI_39 (by rfl)) rfl rfl
theorem r39_1 : runs cal 39 1 [vR 36, v1, v2, v3, v4, v5, v6] [vR 36] I = runs cal 39 2 [vR 36, v1, v2, v3, v4, v5, v6] [vR 36, vR 36] I := runs_to (ins_of mI_39 (by rfl)) rfl rfl
theorem r39_2 : runs cal 39 2 [v0, v1, v2, v3, v4, v5, v6] [vR 36, vR 36] I = runs cal 39 5 [v0, v1, v2, v3, v4, v5, v6] [vR 37, vR 36] I := st_getR (ins_of mI_39 (by rfl)) mC_39 (by decide) fr_1_11 cT_36 (wdc wid_39 wd_36) rfl rfl
theorem r39_5 : runs cal 39 5 [v0, v1, v2, v3, v4, v5, v6] [vR 37, vR 36] I = runs cal 39 6 [v0, v1, v2, v3, v4, v5, v6] [vL 0, vR 37, vR 36] I := runs_to (ins_of mI_39 (by rfl)) rfl rfl
theorem r39_6 : runs cal 39 6 [v0, v1, v2, v3, v4, v5, v6] [vL x0, vR 37, vR 36] I = (cal 40 [vR 36, vR 37, vL x0] I).bind (fun q => runs cal 39 9 [v0, v1, v2, v3, v4, v5, v6] (pushR q.1 []) q.2) := st_call (st := false) (ins_of mI_39 (by rfl)) mC_39 mr_1_25 (by decide) mS_40 mN_40 rfl (Nat.le_of_ble_eq_true rfl) rfl rfl (Or.inr ⟨_, _, rfl, rcv mC_40 rfl wid_39 (by decide +kernel)⟩) (Or.inl (wid_39.trans wid_40.symm))
theorem r39_9 : runs cal 39 9 [vR 36, v1, v2, v3, v4, v5, v6] [] I = runs cal 39 10 [vR 36, v1, v2, v3, v4, v5, v6] [vR 36] I := runs_to (ins_of mI_39 (by rfl)) rfl rfl
theorem r39_10 : runs cal 39 10 [vR 36, v1, v2, v3, v4, v5, v6] [vR 36] I = runs cal 39 11 [vR 36, v1, v2, v3, v4, v5, v6] [vR 36, vR 36] I := runs_to (ins_of mI_39 (by rfl)) rfl rfl
theorem r39_11 : runs cal 39 11 [v0, v1, v2, v3, v4, v5, v6] [vR 36, vR 36] I = runs cal 39 14 [v0, v1, v2, v3, v4, v5, v6] [vR 38, vR 36] I := st_getR (ins_of mI_39 (by rfl)) mC_39 (by decide) fr_1_15 cT_36 (wdc wid_39 wd_36) rfl rfl
theorem r39_14 : runs cal 39 14 [v0, v1, v2, v3, v4, v5, v6] [vR 38, vR 36] I = runs cal 39 15 [v0, v1, v2, v3, v4, v5, v6] [vL 1, vR 38, vR 36] I := runs_to (ins_of mI_39 (by rfl)) rfl rfl
theorem r39_15 : runs cal 39 15 [v0, v1, v2, v3, v4, v5, v6] [vL x0, vR 38, vR 36] I = (cal 40 [vR 36, vR 38, vL x0] I).bind (fun q => runs cal 39 18 [v0, v1, v2, v3, v4, v5, v6] (pushR q.1 []) q.2) := st_call (st := false) (ins_of mI_39 (by rfl)) mC_39 mr_1_25 (by decide) mS_40 mN_40 rfl (Nat.le_of_ble_eq_true rfl) rfl rfl (Or.inr ⟨_, _, rfl, rcv mC_40 rfl wid_39 (by decide +kernel)⟩) (Or.inl (wid_39.trans wid_40.symm))
theorem r39_18 : runs cal 39 18 [v0, v1, v2, v3, v4, v5, v6] [] I = runs cal 39 19 [v0, v1, v2, v3, v4, v5, v6] [vI (0)] I := runs_to (ins_of mI_39 (by rfl)) rfl rfl
theorem r39_19 : runs cal 39 19 [v0, v1, v2, vI u, v4, v5, v6] [vI x0] I = runs cal 39 21 [v0, v1, v2, vI u, vI x0, v5, v6] [] I := runs_to (ins_of mI_39 (by rfl)) rfl rfl
theorem r39_21 : runs cal 39 21 [v0, v1, v2, v3, vI w, v5, v6] [] I = runs cal 39 23 [v0, v1, v2, v3, vI w, v5, v6] [vI w] I := runs_to (ins_of mI_39 (by rfl)) rfl rfl
theorem r39_23 : runs cal 39 23 [v0, vI w, v2, v3, v4, v5, v6] [vI x0] I = runs cal 39 24 [v0, vI w, v2, v3, v4, v5, v6] [vI w, vI x0] I := runs_to (ins_of mI_39 (by rfl)) rfl rfl
theorem r39_24 : runs cal 39 24 [v0, v1, v2, v3, v4, v5, v6] [vI x0, vI x1] I = if x1 < x0 then runs cal 39 27 [v0, v1, v2, v3, v4, v5, v6] [] I else runs cal 39 44 [v0, v1, v2, v3, v4, v5, v6] [] I := st_cmp_ge (ins_of mI_39 (by rfl)) (by decide)
theorem r39_27 : runs cal 39 27 [vR 36, v1, v2, v3, v4, v5, v6] [] I = runs cal 39 28 [vR 36, v1, v2, v3, v4, v5, v6] [vR 36] I := runs_to (ins_of mI_39 (by rfl)) rfl rfl
theorem r39_28 : runs cal 39 28 [vR 36, v1, v2, v3, v4, v5, v6] [vR 36] I = runs cal 39 29 [vR 36, v1, v2, v3, v4, v5, v6] [vR 36, vR 36] I := runs_to (ins_of mI_39 (by rfl)) rfl rfl
theorem r39_29 : runs cal 39 29 [v0, v1, v2, v3, v4, v5, v6] [vR 36, vR 36] I = runs cal 39 32 [v0, v1, v2, v3, v4, v5, v6] [vR 38, vR 36] I := st_getR (ins_of mI_39 (by rfl)) mC_39 (by decide) fr_1_15 cT_36 (wdc wid_39 wd_36) rfl rfl
theorem r39_32 : runs cal 39 32 [v0, v1, v2, v3, v4, v5, v6] [vR 38, vR 36] I = runs cal 39 35 [v0, v1, v2, v3, v4, v5, v6] [vL (10), vR 38, vR 36] I := runs_to (ins_of mI_39 (by rfl)) rfl (by simp only [stepI, ldk2, mC_39]; rfl)
theorem r39_35 : runs cal 39 35 [v0, v1, v2, v3, v4, v5, v6] [vL x0, vR 38, vR 36] I = (cal 41 [vR 36, vR 38, vL x0] I).bind (fun q => runs cal 39 38 [v0, v1, v2, v3, v4, v5, v6] (pushR q.1 []) q.2) := st_call (st := false) (ins_of mI_39 (by rfl)) mC_39 mr_1_31 (by decide) mS_41 mN_41 rfl (Nat.le_of_ble_eq_true rfl) rfl rfl (Or.inr ⟨_, _, rfl, rcv mC_41 rfl wid_39 (by decide +kernel)⟩) (Or.inl (wid_39.trans wid_41.symm))
theorem r39_38 : runs cal 39 38 [v0, v1, v2, vI u, vI w, v5, v6] [] I = runs cal 39 41 [v0, v1, v2, vI u, vI (iadd w (1)), v5, v6] [] I := runs_to (ins_of mI_39 (by rfl)) rfl rfl
theorem r39_41 : runs cal 39 41 [v0, v1, v2, v3, v4, v5, v6] [] I = runs cal 39 21 [v0, v1, v2, v3, v4, v5, v6] [] I := st_goto (ins_of mI_39 (by rfl)) (by decide)
theorem r39_44 : runs cal 39 44 [v0, v1, v2, v3, v4, v5, v6] [] I = runs cal 39 45 [v0, v1, v2, v3, v4, v5, v6] [vL 1] I := runs_to (ins_of mI_39 (by rfl)) rfl rfl
theorem r39_45 : runs cal 39 45 [v0, v1, v2, vI u, v4, v5, v6] [vL x0] I = runs cal 39 47 [v0, v1, v2, vI u, vL x0, vR 0, v6] [] I := runs_to (ins_of mI_39 (by rfl)) rfl rfl
theorem r39_47 : runs cal 39 47 [v0, v1, v2, v3, v4, v5, v6] [] I = runs cal 39 48 [v0, v1, v2, v3, v4, v5, v6] [vI (0)] I := runs_to (ins_of mI_39 (by rfl)) rfl rfl
theorem r39_48 : runs cal 39 48 [v0, v1, v2, v3, v4, v5, v6] [vI x0] I = runs cal 39 50 [v0, v1, v2, v3, v4, kill v5, vI x0] [] I := runs_to (ins_of mI_39 (by rfl)) rfl rfl
theorem r39_50 : runs cal 39 50 [v0, v1, v2, v3, v4, v5, vI w] [] I = runs cal 39 52 [v0, v1, v2, v3, v4, v5, vI w] [vI w] I := runs_to (ins_of mI_39 (by rfl)) rfl rfl
theorem r39_52 : runs cal 39 52 [v0, vI w, v2, v3, v4, v5, v6] [vI x0] I = runs cal 39 53 [v0, vI w, v2, v3, v4, v5, v6] [vI w, vI x0] I := runs_to (ins_of mI_39 (by rfl)) rfl rfl
theorem r39_53 : runs cal 39 53 [v0, v1, v2, v3, v4, v5, v6] [vI x0, vI x1] I = if x0 < x1 then runs cal 39 117 [v0, v1, v2, v3, v4, v5, v6] [] I else runs cal 39 56 [v0, v1, v2, v3, v4, v5, v6] [] I := st_cmp_gt (ins_of mI_39 (by rfl)) (by decide)
theorem r39_56 : runs cal 39 56 [v0, v1, v2, v3, v4, v5, vI w] [] I = runs cal 39 58 [v0, v1, v2, v3, v4, v5, vI w] [vI w] I := runs_to (ins_of mI_39 (by rfl)) rfl rfl
theorem r39_58 : runs cal 39 58 [v0, v1, v2, vI w, v4, v5, v6] [vI x0] I = runs cal 39 59 [v0, v1, v2, vI w, v4, v5, v6] [vI w, vI x0] I := runs_to (ins_of mI_39 (by rfl)) rfl rfl
theorem r39_59 : runs cal 39 59 [v0, v1, v2, v3, v4, v5, v6] [vI x0, vI x1] I = if x1 < x0 then runs cal 39 95 [v0, v1, v2, v3, v4, v5, v6] [] I else runs cal 39 62 [v0, v1, v2, v3, v4, v5, v6] [] I := st_cmp_lt (ins_of mI_39 (by rfl)) (by decide)
theorem r39_62 : runs cal 39 62 [vR 36, v1, v2, v3, v4, v5, v6] [] I = runs cal 39 63 [vR 36, v1, v2, v3, v4, v5, v6] [vR 36] I := runs_to (ins_of mI_39 (by rfl)) rfl rfl
theorem r39_63 : runs cal 39 63 [vR 36, v1, v2, v3, v4, v5, v6] [vR 36] I = runs cal 39 64 [vR 36, v1, v2, v3, v4, v5, v6] [vR 36, vR 36] I := runs_to (ins_of mI_39 (by rfl)) rfl rfl
theorem r39_64 : runs cal 39 64 [v0, v1, v2, v3, v4, v5, v6] [vR 36, vR 36] I = runs cal 39 67 [v0, v1, v2, v3, v4, v5, v6] [vR 39, vR 36] I := st_getR (ins_of mI_39 (by rfl)) mC_39 (by decide) fr_1_18 cT_36 (wdc wid_39 wd_36) rfl rfl
theorem r39_67 : runs cal 39 67 [v0, v1, v2, v3, vL w, v5, v6] [vR 39, vR 36] I = runs cal 39 69 [v0, v1, v2, v3, vL w, v5, v6] [vL w, vR 39, vR 36] I := runs_to (ins_of mI_39 (by rfl)) rfl rfl
theorem r39_69 : runs cal 39 69 [v0, v1, v2, v3, v4, v5, v6] [vL x0, vR 39, vR 36] I = (cal 40 [vR 36, vR 39, vL x0] I).bind (fun q => runs cal 39 72 [v0, v1, v2, v3, v4, v5, v6] (pushR q.1 []) q.2) := st_call (st := false) (ins_of mI_39 (by rfl)) mC_39 mr_1_25 (by decide) mS_40 mN_40 rfl (Nat.le_of_ble_eq_true rfl) rfl rfl (Or.inr ⟨_, _, rfl, rcv mC_40 rfl wid_39 (by decide +kernel)⟩) (Or.inl (wid_39.trans wid_40.symm))
theorem r39_72 : runs cal 39 72 [vR 36, v1, v2, v3, v4, v5, v6] [] I = runs cal 39 73 [vR 36, v1, v2, v3, v4, v5, v6] [vR 36] I := runs_to (ins_of mI_39 (by rfl)) rfl rfl
theorem r39_73 : runs cal 39 73 [v0, v1, vI w, v3, v4, v5, v6] [vR 36] I = runs cal 39 74 [v0, v1, vI w, v3, v4, v5, v6] [vI w, vR 36] I := runs_to (ins_of mI_39 (by rfl)) rfl rfl
theorem r39_74 : runs cal 39 74 [v0, v1, v2, v3, v4, v5, vI w] [vI x0, vR 36] I = runs cal 39 76 [v0, v1, v2, v3, v4, v5, vI w] [vI w, vI x0, vR 36] I := runs_to (ins_of mI_39 (by rfl)) rfl rfl
theorem r39_76 : runs cal 39 76 [v0, v1, v2, v3, v4, v5, v6] [vI x0, vI x1, vR 36] I = (cal 42 [vR 36, vI x1, vI x0] I).bind (fun q => runs cal 39 79 [v0, v1, v2, v3, v4, v5, v6] (pushR q.1 []) q.2) := st_call (st := false) (ins_of mI_39 (by rfl)) mC_39 mr_1_34 (by decide) mS_42 mN_42 rfl (Nat.le_of_ble_eq_true rfl) rfl rfl (Or.inr ⟨_, _, rfl, rcv mC_42 rfl wid_39 (by decide +kernel)⟩) (Or.inl (wid_39.trans wid_42.symm))
theorem r39_79 : runs cal 39 79 [vR 36, v1, v2, v3, v4, v5, v6] [] I = runs cal 39 80 [vR 36, v1, v2, v3, v4, v5, v6] [vR 36] I := runs_to (ins_of mI_39 (by rfl)) rfl rfl
theorem r39_80 : runs cal 39 80 [v0, v1, v2, v3, v4, v5, v6] [vR 36] I = runs cal 39 82 [v0, v1, v2, v3, v4, v5, v6] [vI (10), vR 36] I := runs_to (ins_of mI_39 (by rfl)) rfl rfl
theorem r39_82 : runs cal 39 82 [v0, v1, vI w, v3, v4, v5, v6] [vI x0, vR 36] I = runs cal 39 83 [v0, v1, vI w, v3, v4, v5, v6] [vI w, vI x0, vR 36] I := runs_to (ins_of mI_39 (by rfl)) rfl rfl
theorem r39_83 : runs cal 39 83 [v0, v1, v2, v3, v4, v5, v6] [vI x0, vI x1, vR 36] I = runs cal 39 84 [v0, v1, v2, v3, v4, v5, v6] [vI (isub x1 x0), vR 36] I := runs_to (ins_of mI_39 (by rfl)) rfl rfl
theorem r39_84 : runs cal 39 84 [v0, vI w, v2, v3, v4, v5, v6] [vI x0, vR 36] I = runs cal 39 85 [v0, vI w, v2, v3, v4, v5, v6] [vI w, vI x0, vR 36] I := runs_to (ins_of mI_39 (by rfl)) rfl rfl
theorem r39_85 : runs cal 39 85 [v0, v1, v2, v3, v4, v5, vI w] [vI x0, vI x1, vR 36] I = runs cal 39 87 [v0, v1, v2, v3, v4, v5, vI w] [vI w, vI x0, vI x1, vR 36] I := runs_to (ins_of mI_39 (by rfl)) rfl rfl
theorem r39_87 : runs cal 39 87 [v0, v1, v2, v3, v4, v5, v6] [vI x0, vI x1, vI x2, vR 36] I = runs cal 39 88 [v0, v1, v2, v3, v4, v5, v6] [vI (isub x1 x0), vI x2, vR 36] I := runs_to (ins_of mI_39 (by rfl)) rfl rfl
theorem r39_88 : runs cal 39 88 [v0, v1, v2, v3, v4, v5, v6] [vI x0, vI x1, vR 36] I = (cal 42 [vR 36, vI x1, vI x0] I).bind (fun q => runs cal 39 91 [v0, v1, v2, v3, v4, v5, v6] (pushR q.1 []) q.2) := st_call (st := false) (ins_of mI_39 (by rfl)) mC_39 mr_1_34 (by decide) mS_42 mN_42 rfl (Nat.le_of_ble_eq_true rfl) rfl rfl (Or.inr ⟨_, _, rfl, rcv mC_42 rfl wid_39 (by decide +kernel)⟩) (Or.inl (wid_39.trans wid_42.symm))
theorem r39_91 : runs cal 39 91 [vR 36, v1, v2, v3, v4, v5, v6] [] I = runs cal 39 92 [vR 36, v1, v2, v3, v4, v5, v6] [vR 36] I := runs_to (ins_of mI_39 (by rfl)) rfl rfl
theorem r39_92 : runs cal 39 92 [v0, v1, v2, v3, v4, v5, v6] [vR 36] I = (cal 43 [vR 36] I).bind (fun q => runs cal 39 95 [v0, v1, v2, v3, v4, v5, v6] (pushR q.1 []) q.2) := st_call (st := false) (ins_of mI_39 (by rfl)) mC_39 mr_1_38 (by decide) mS_43 mN_43 rfl (Nat.le_of_ble_eq_true rfl) rfl rfl (Or.inr ⟨_, _, rfl, rcv mC_43 rfl wid_39 (by decide +kernel)⟩) (Or.inl (wid_39.trans wid_43.symm))
theorem r39_95 : runs cal 39 95 [v0, v1, v2, v3, vL w, v5, v6] [] I = runs cal 39 97 [v0, v1, v2, v3, vL w, v5, v6] [vL w] I := runs_to (ins_of mI_39 (by rfl)) rfl rfl
theorem r39_97 : runs cal 39 97 [v0, vI w, v2, v3, v4, v5, v6] [vL x0] I = runs cal 39 98 [v0, vI w, v2, v3, v4, v5, v6] [vI w, vL x0] I := runs_to (ins_of mI_39 (by rfl)) rfl rfl
theorem r39_98 : runs cal 39 98 [v0, v1, v2, v3, v4, v5, vI w] [vI x0, vL x1] I = runs cal 39 100 [v0, v1, v2, v3, v4, v5, vI w] [vI w, vI x0, vL x1] I := runs_to (ins_of mI_39 (by rfl)) rfl rfl
theorem r39_100 : runs cal 39 100 [v0, v1, v2, v3, v4, v5, v6] [vI x0, vI x1, vL x2] I = runs cal 39 101 [v0, v1, v2, v3, v4, v5, v6] [vI (isub x1 x0), vL x2] I := runs_to (ins_of mI_39 (by rfl)) rfl rfl
theorem r39_101 : runs cal 39 101 [v0, v1, v2, v3, v4, v5, v6] [vI x0, vL x1] I = runs cal 39 102 [v0, v1, v2, v3, v4, v5, v6] [vL x0, vL x1] I := runs_to (ins_of mI_39 (by rfl)) rfl rfl
theorem r39_102 : runs cal 39 102 [v0, v1, v2, v3, v4, v5, v6] [vL x0, vL x1] I = runs cal 39 103 [v0, v1, v2, v3, v4, v5, v6] [vL (lmul x1 x0)] I := runs_to (ins_of mI_39 (by rfl)) rfl rfl
theorem r39_103 : runs cal 39 103 [v0, v1, v2, v3, v4, v5, vI w] [vL x0] I = runs cal 39 105 [v0, v1, v2, v3, v4, v5, vI w] [vI w, vL x0] I := runs_to (ins_of mI_39 (by rfl)) rfl rfl
theorem r39_105 : runs cal 39 105 [v0, v1, v2, v3, v4, v5, v6] [vI x0, vL x1] I = runs cal 39 106 [v0, v1, v2, v3, v4, v5, v6] [vI (1), vI x0, vL x1] I := runs_to (ins_of mI_39 (by rfl)) rfl rfl
theorem r39_106 : runs cal 39 106 [v0, v1, v2, v3, v4, v5, v6] [vI x0, vI x1, vL x2] I = runs cal 39 107 [v0, v1, v2, v3, v4, v5, v6] [vI (iadd x1 x0), vL x2] I := runs_to (ins_of mI_39 (by rfl)) rfl rfl
theorem r39_107 : runs cal 39 107 [v0, v1, v2, v3, v4, v5, v6] [vI x0, vL x1] I = runs cal 39 108 [v0, v1, v2, v3, v4, v5, v6] [vL x0, vL x1] I := runs_to (ins_of mI_39 (by rfl)) rfl rfl
theorem r39_108 : runs cal 39 108 [v0, v1, v2, v3, v4, v5, v6] [vL x0, vL x1] I = if x0 = 0 then none else runs cal 39 109 [v0, v1, v2, v3, v4, v5, v6] [vL (ldiv x1 x0)] I := st_nzL (ins_of mI_39 (by rfl)) rfl rfl
theorem r39_109 : runs cal 39 109 [v0, v1, v2, vI u, v4, v5, v6] [vL x0] I = runs cal 39 111 [v0, v1, v2, vI u, vL x0, vR 0, v6] [] I := runs_to (ins_of mI_39 (by rfl)) rfl rfl
theorem r39_111 : runs cal 39 111 [v0, v1, v2, v3, v4, v5, vI w] [] I = runs cal 39 114 [v0, v1, v2, v3, v4, kill v5, vI (iadd w (1))] [] I := runs_to (ins_of mI_39 (by rfl)) rfl rfl
theorem r39_114 : runs cal 39 114 [v0, v1, v2, v3, v4, v5, v6] [] I = runs cal 39 50 [v0, v1, v2, v3, v4, v5, v6] [] I := st_goto (ins_of mI_39 (by rfl)) (by decide)
theorem r39_117 : runs cal 39 117 [vR 36, v1, v2, v3, v4, v5, v6] [] I = runs cal 39 118 [vR 36, v1, v2, v3, v4, v5, v6] [vR 36] I := runs_to (ins_of mI_39 (by rfl)) rfl rfl
theorem r39_118 : runs cal 39 118 [v0, vI w, v2, v3, v4, v5, v6] [vR 36] I = runs cal 39 119 [v0, vI w, v2, v3, v4, v5, v6] [vI w, vR 36] I := runs_to (ins_of mI_39 (by rfl)) rfl rfl
theorem r39_119 : runs cal 39 119 [v0, v1, v2, v3, v4, v5, v6] [vI x0, vR 36] I = (cal 44 [vR 36, vI x0] I).bind (fun q => runs cal 39 122 [v0, v1, v2, v3, v4, v5, v6] (pushR q.1 []) q.2) := st_call (st := false) (ins_of mI_39 (by rfl)) mC_39 mr_1_41 (by decide) mS_44 mN_44 rfl (Nat.le_of_ble_eq_true rfl) rfl rfl (Or.inr ⟨_, _, rfl, rcv mC_44 rfl wid_39 (by decide +kernel)⟩) (Or.inl (wid_39.trans wid_44.symm))
theorem r39_122 : runs cal 39 122 [vR 36, v1, v2, v3, v4, v5, v6] [] I = runs cal 39 123 [vR 36, v1, v2, v3, v4, v5, v6] [vR 36] I := runs_to (ins_of mI_39 (by rfl)) rfl rfl
theorem r39_123 : runs cal 39 123 [vR 36, v1, v2, v3, v4, v5, v6] [vR 36] I = runs cal 39 124 [vR 36, v1, v2, v3, v4, v5, v6] [vR 36, vR 36] I := runs_to (ins_of mI_39 (by rfl)) rfl rfl
theorem r39_124 : runs cal 39 124 [vR 36, v1, v2, v3, v4, v5, v6] [vR 36, vR 36] I = runs cal 39 125 [vR 36, v1, v2, v3, v4, v5, v6] [vR 36, vR 36, vR 36] I := runs_to (ins_of mI_39 (by rfl)) rfl rfl
theorem r39_125 : runs cal 39 125 [v0, v1, v2, v3, v4, v5, v6] [vR 36, vR 36, vR 36] I = runs cal 39 128 [v0, v1, v2, v3, v4, v5, v6] [vR 37, vR 36, vR 36] I := st_getR (ins_of mI_39 (by rfl)) mC_39 (by decide) fr_1_11 cT_36 (wdc wid_39 wd_36) rfl rfl
theorem r39_128 : runs cal 39 128 [v0, v1, v2, v3, v4, v5, v6] [vR 37, vR 36, vR 36] I = (cal 48 [vR 36, vR 37] I).bind (fun q => runs cal 39 131 [v0, v1, v2, v3, v4, v5, v6] (pushR q.1 [vR 36]) q.2) := st_call (st := false) (ins_of mI_39 (by rfl)) mC_39 mr_1_45 (by decide) mS_48 mN_48 rfl (Nat.le_of_ble_eq_true rfl) rfl rfl (Or.inr ⟨_, _, rfl, rcv mC_48 rfl wid_39 (by decide +kernel)⟩) (Or.inl (wid_39.trans wid_48.symm))
theorem r39_131 : runs cal 39 131 [v0, v1, v2, v3, v4, v5, v6] [vI x0, vR 36] I = runs cal 39 134 [v0, v1, v2, v3, v4, v5, v6] [] (mset I 36 3 x0) := st_putI (ins_of mI_39 (by rfl)) mC_39 fr_1_49 cT_36 (wdc wid_39 wd_36) rfl
theorem r39_134 : runs cal 39 134 [vR 36, v1, v2, v3, v4, v5, v6] [] I = runs cal 39 135 [vR 36, v1, v2, v3, v4, v5, v6] [vR 36] I := runs_to (ins_of mI_39 (by rfl)) rfl rfl
theorem r39_135 : runs cal 39 135 [vR 36, v1, v2, v3, v4, v5, v6] [vR 36] I = runs cal 39 136 [vR 36, v1, v2, v3, v4, v5, v6] [vR 36, vR 36] I := runs_to (ins_of mI_39 (by rfl)) rfl rfl
theorem r39_136 : runs cal 39 136 [vR 36, v1, v2, v3, v4, v5, v6] [vR 36, vR 36] I = runs cal 39 137 [vR 36, v1, v2, v3, v4, v5, v6] [vR 36, vR 36, vR 36] I := runs_to (ins_of mI_39 (by rfl)) rfl rfl
theorem r39_137 : runs cal 39 137 [v0, v1, v2, v3, v4, v5, v6] [vR 36, vR 36, vR 36] I = runs cal 39 140 [v0, v1, v2, v3, v4, v5, v6] [vR 38, vR 36, vR 36] I := st_getR (ins_of mI_39 (by rfl)) mC_39 (by decide) fr_1_15 cT_36 (wdc wid_39 wd_36) rfl rfl
theorem r39_140 : runs cal 39 140 [v0, v1, v2, v3, v4, v5, v6] [vR 38, vR 36, vR 36] I = (cal 48 [vR 36, vR 38] I).bind (fun q => runs cal 39 143 [v0, v1, v2, v3, v4, v5, v6] (pushR q.1 [vR 36]) q.2) := st_call (st := false) (ins_of mI_39 (by rfl)) mC_39 mr_1_45 (by decide) mS_48 mN_48 rfl (Nat.le_of_ble_eq_true rfl) rfl rfl (Or.inr ⟨_, _, rfl, rcv mC_48 rfl wid_39 (by decide +kernel)⟩) (Or.inl (wid_39.trans wid_48.symm))
theorem r39_143 : runs cal 39 143 [v0, v1, v2, v3, v4, v5, v6] [vI x0, vR 36] I = runs cal 39 146 [v0, v1, v2, v3, v4, v5, v6] [] (mset I 36 4 x0) := st_putI (ins_of mI_39 (by rfl)) mC_39 fr_1_21 cT_36 (wdc wid_39 wd_36) rfl
theorem r39_146 : runs cal 39 146 [v0, v1, v2, v3, v4, v5, v6] [] I = some (none, I) := st_ret (q := none) (k := 3) (ins_of mI_39 (by rfl)) rfl (by decide) mR_39 rfl trivial
theorem r40_0 : runs cal 40 0 [v0, vR 37, v2, v3, v4] [] I = runs cal 40 1 [v0, vR 37, v2, v3, v4] [vR 37] I := runs_to (ins_of mI_40 (by rfl)) rfl rfl
theorem r40_1 : runs cal 40 1 [v0, v1, v2, v3, v4] [vR 37] I = runs cal 40 2 [v0, v1, v2, v3, v4] [vI (0), vR 37] I := runs_to (ins_of mI_40 (by rfl)) rfl rfl
theorem r40_2 : runs cal 40 2 [v0, v1, vL w, v3, v4] [vI x0, vR 37] I = runs cal 40 3 [v0, v1, vL w, v3, v4] [vL w, vI x0, vR 37] I := runs_to (ins_of mI_40 (by rfl)) rfl rfl
theorem r40_3 : runs cal 40 3 [v0, v1, v2, v3, v4] [vL x0, vI x1, vR 37] I = if 0 ≤ x1 ∧ x1 < 4 then runs cal 40 4 [v0, v1, v2, v3, v4] [] (mset I 37 x1 x0) else none := st_last (ins_of mI_40 (by rfl)) cT_37 (wdc wid_40 wd_37)
theorem r40_4 : runs cal 40 4 [v0, v1, v2, v3, v4] [] I = runs cal 40 5 [v0, v1, v2, v3, v4] [vI (1)] I := runs_to (ins_of mI_40 (by rfl)) rfl rfl
theorem r40_5 : runs cal 40 5 [v0, v1, v2, v3, v4] [vI x0] I = runs cal 40 7 [v0, v1, v2, kill v3, vI x0] [] I := runs_to (ins_of mI_40 (by rfl)) rfl rfl
theorem r40_7 : runs cal 40 7 [v0, v1, v2, v3, vI w] [] I = runs cal 40 9 [v0, v1, v2, v3, vI w] [vI w] I := runs_to (ins_of mI_40 (by rfl)) rfl rfl
theorem r40_9 : runs cal 40 9 [v0, v1, v2, v3, v4] [vI x0] I = runs cal 40 10 [v0, v1, v2, v3, v4] [vI (4), vI x0] I := runs_to (ins_of mI_40 (by rfl)) rfl rfl
theorem r40_10 : runs cal 40 10 [v0, v1, v2, v3, v4] [vI x0, vI x1] I = if x1 < x0 then runs cal 40 13 [v0, v1, v2, v3, v4] [] I else runs cal 40 24 [v0, v1, v2, v3, v4] [] I := st_cmp_ge (ins_of mI_40 (by rfl)) (by decide)
theorem r40_13 : runs cal 40 13 [v0, vR 37, v2, v3, v4] [] I = runs cal 40 14 [v0, vR 37, v2, v3, v4] [vR 37] I := runs_to (ins_of mI_40 (by rfl)) rfl rfl
theorem r40_14 : runs cal 40 14 [v0, v1, v2, v3, vI w] [vR 37] I = runs cal 40 16 [v0, v1, v2, v3, vI w] [vI w, vR 37] I := runs_to (ins_of mI_40 (by rfl)) rfl rfl
theorem r40_16 : runs cal 40 16 [v0, v1, v2, v3, v4] [vI x0, vR 37] I = runs cal 40 17 [v0, v1, v2, v3, v4] [vL 0, vI x0, vR 37] I := runs_to (ins_of mI_40 (by rfl)) rfl rfl
theorem r40_17 : runs cal 40 17 [v0, v1, v2, v3, v4] [vL x0, vI x1, vR 37] I = if 0 ≤ x1 ∧ x1 < 4 then runs cal 40 18 [v0, v1, v2, v3, v4] [] (mset I 37 x1 x0) else none := st_last (ins_of mI_40 (by rfl)) cT_37 (wdc wid_40 wd_37)
theorem r40_18 : runs cal 40 18 [v0, v1, v2, v3, vI w] [] I = runs cal 40 21 [v0, v1, v2, kill v3, vI (iadd w (1))] [] I := runs_to (ins_of mI_40 (by rfl)) rfl rfl
theorem r40_21 : runs cal 40 21 [v0, v1, v2, v3, v4] [] I = runs cal 40 7 [v0, v1, v2, v3, v4] [] I := st_goto (ins_of mI_40 (by rfl)) (by decide)
theorem r40_24 : runs cal 40 24 [v0, v1, v2, v3, v4] [] I = some (none, I) := st_ret (q := none) (k := 3) (ins_of mI_40 (by rfl)) rfl (by decide) mR_40 rfl trivial
theorem r40_0a : runs cal 40 0 [v0, vR 38, v2, v3, v4] [] I = runs cal 40 1 [v0, vR 38, v2, v3, v4] [vR 38] I := runs_to (ins_of mI_40 (by rfl)) rfl rfl
theorem r40_1a : runs cal 40 1 [v0, v1, v2, v3, v4] [vR 38] I = runs cal 40 2 [v0, v1, v2, v3, v4] [vI (0), vR 38] I := runs_to (ins_of mI_40 (by rfl)) rfl rfl
theorem r40_2a : runs cal 40 2 [v0, v1, vL w, v3, v4] [vI x0, vR 38] I = runs cal 40 3 [v0, v1, vL w, v3, v4] [vL w, vI x0, vR 38] I := runs_to (ins_of mI_40 (by rfl)) rfl rfl
theorem r40_3a : runs cal 40 3 [v0, v1, v2, v3, v4] [vL x0, vI x1, vR 38] I = if 0 ≤ x1 ∧ x1 < 4 then runs cal 40 4 [v0, v1, v2, v3, v4] [] (mset I 38 x1 x0) else none := st_last (ins_of mI_40 (by rfl)) cT_38 (wdc wid_40 wd_38)
theorem r40_13a : runs cal 40 13 [v0, vR 38, v2, v3, v4] [] I = runs cal 40 14 [v0, vR 38, v2, v3, v4] [vR 38] I := runs_to (ins_of mI_40 (by rfl)) rfl rfl
theorem r40_14a : runs cal 40 14 [v0, v1, v2, v3, vI w] [vR 38] I = runs cal 40 16 [v0, v1, v2, v3, vI w] [vI w, vR 38] I := runs_to (ins_of mI_40 (by rfl)) rfl rfl
theorem r40_16a : runs cal 40 16 [v0, v1, v2, v3, v4] [vI x0, vR 38] I = runs cal 40 17 [v0, v1, v2, v3, v4] [vL 0, vI x0, vR 38] I := runs_to (ins_of mI_40 (by rfl)) rfl rfl
theorem r40_17a : runs cal 40 17 [v0, v1, v2, v3, v4] [vL x0, vI x1, vR 38] I = if 0 ≤ x1 ∧ x1 < 4 then runs cal 40 18 [v0, v1, v2, v3, v4] [] (mset I 38 x1 x0) else none := st_last (ins_of mI_40 (by rfl)) cT_38 (wdc wid_40 wd_38)
theorem r40_0b : runs cal 40 0 [v0, vR 39, v2, v3, v4] [] I = runs cal 40 1 [v0, vR 39, v2, v3, v4] [vR 39] I := runs_to (ins_of mI_40 (by rfl)) rfl rfl
theorem r40_1b : runs cal 40 1 [v0, v1, v2, v3, v4] [vR 39] I = runs cal 40 2 [v0, v1, v2, v3, v4] [vI (0), vR 39] I := runs_to (ins_of mI_40 (by rfl)) rfl rfl
theorem r40_2b : runs cal 40 2 [v0, v1, vL w, v3, v4] [vI x0, vR 39] I = runs cal 40 3 [v0, v1, vL w, v3, v4] [vL w, vI x0, vR 39] I := runs_to (ins_of mI_40 (by rfl)) rfl rfl
theorem r40_3b : runs cal 40 3 [v0, v1, v2, v3, v4] [vL x0, vI x1, vR 39] I = if 0 ≤ x1 ∧ x1 < 4 then runs cal 40 4 [v0, v1, v2, v3, v4] [] (mset I 39 x1 x0) else none := st_last (ins_of mI_40 (by rfl)) cT_39 (wdc wid_40 wd_39)
theorem r40_13b : runs cal 40 13 [v0, vR 39, v2, v3, v4] [] I = runs cal 40 14 [v0, vR 39, v2, v3, v4] [vR 39] I := runs_to (ins_of mI_40 (by rfl)) rfl rfl
theorem r40_14b : runs cal 40 14 [v0, v1, v2, v3, vI w] [vR 39] I = runs cal 40 16 [v0, v1, v2, v3, vI w] [vI w, vR 39] I := runs_to (ins_of mI_40 (by rfl)) rfl rfl
theorem r40_16b : runs cal 40 16 [v0, v1, v2, v3, v4] [vI x0, vR 39] I = runs cal 40 17 [v0, v1, v2, v3, v4] [vL 0, vI x0, vR 39] I := runs_to (ins_of mI_40 (by rfl)) rfl rfl
theorem r40_17b : runs cal 40 17 [v0, v1, v2, v3, v4] [vL x0, vI x1, vR 39] I = if 0 ≤ x1 ∧ x1 < 4 then runs cal 40 18 [v0, v1, v2, v3, v4] [] (mset I 39 x1 x0) else none := st_last (ins_of mI_40 (by rfl)) cT_39 (wdc wid_40 wd_39)
theorem r41_0 : runs cal 41 0 [v0, v1, v2, v3, v4, v5, v6] [] I = runs cal 41 1 [v0, v1, v2, v3, v4, v5, v6] [vL 0] I := runs_to (ins_of mI_41 (by rfl)) rfl rfl
theorem r41_1 : runs cal 41 1 [v0, v1, v2, v3, v4, v5, v6] [vL x0] I = runs cal 41 3 [v0, v1, v2, kill v3, vL x0, vR 0, v6] [] I := runs_to (ins_of mI_41 (by rfl)) rfl rfl
theorem r41_3 : runs cal 41 3 [v0, v1, v2, v3, v4, v5, v6] [] I = runs cal 41 4 [v0, v1, v2, v3, v4, v5, v6] [vI (0)] I := runs_to (ins_of mI_41 (by rfl)) rfl rfl
theorem r41_4 : runs cal 41 4 [v0, v1, v2, v3, v4, v5, v6] [vI x0] I = runs cal 41 6 [v0, v1, v2, v3, v4, kill v5, vI x0] [] I := runs_to (ins_of mI_41 (by rfl)) rfl rfl
theorem r41_6 : runs cal 41 6 [v0, v1, v2, v3, v4, v5, vI w] [] I = runs cal 41 8 [v0, v1, v2, v3, v4, v5, vI w] [vI w] I := runs_to (ins_of mI_41 (by rfl)) rfl rfl
theorem r41_8 : runs cal 41 8 [v0, v1, v2, v3, v4, v5, v6] [vI x0] I = runs cal 41 9 [v0, v1, v2, v3, v4, v5, v6] [vI (4), vI x0] I := runs_to (ins_of mI_41 (by rfl)) rfl rfl
theorem r41_9 : runs cal 41 9 [v0, v1, v2, v3, v4, v5, v6] [vI x0, vI x1] I = if x1 < x0 then runs cal 41 12 [v0, v1, v2, v3, v4, v5, v6] [] I else runs cal 41 46 [v0, v1, v2, v3, v4, v5, v6] [] I := st_cmp_ge (ins_of mI_41 (by rfl)) (by decide)
theorem r41_12 : runs cal 41 12 [v0, v1, v2, v3, vL w, v5, v6] [] I = runs cal 41 14 [v0, v1, v2, v3, vL w, v5, v6] [vL w] I := runs_to (ins_of mI_41 (by rfl)) rfl rfl
theorem r41_14 : runs cal 41 14 [v0, vR 38, v2, v3, v4, v5, v6] [vL x0] I = runs cal 41 15 [v0, vR 38, v2, v3, v4, v5, v6] [vR 38, vL x0] I := runs_to (ins_of mI_41 (by rfl)) rfl rfl
theorem r41_15 : runs cal 41 15 [v0, v1, v2, v3, v4, v5, vI w] [vR 38, vL x1] I = runs cal 41 17 [v0, v1, v2, v3, v4, v5, vI w] [vI w, vR 38, vL x1] I := runs_to (ins_of mI_41 (by rfl)) rfl rfl
theorem r41_17 : runs cal 41 17 [v0, v1, v2, v3, v4, v5, v6] [vI x0, vR 38, vL x2] I = if 0 ≤ x0 ∧ x0 < 4 then runs cal 41 18 [v0, v1, v2, v3, v4, v5, v6] [vL (I 38 x0), vL x2] I else none := st_lald (ins_of mI_41 (by rfl)) cT_38 (wdc wid_41 wd_38)
theorem r41_18 : runs cal 41 18 [v0, v1, vL w, v3, v4, v5, v6] [vL x0, vL x1] I = runs cal 41 19 [v0, v1, vL w, v3, v4, v5, v6] [vL w, vL x0, vL x1] I := runs_to (ins_of mI_41 (by rfl)) rfl rfl
theorem r41_19 : runs cal 41 19 [v0, v1, v2, v3, v4, v5, v6] [vL x0, vL x1, vL x2] I = runs cal 41 20 [v0, v1, v2, v3, v4, v5, v6] [vL (lmul x1 x0), vL x2] I := runs_to (ins_of mI_41 (by rfl)) rfl rfl
theorem r41_20 : runs cal 41 20 [v0, v1, v2, v3, v4, v5, v6] [vL x0, vL x1] I = runs cal 41 21 [v0, v1, v2, v3, v4, v5, v6] [vL (ladd x1 x0)] I := runs_to (ins_of mI_41 (by rfl)) rfl rfl
theorem r41_21 : runs cal 41 21 [v0, v1, v2, v3, v4, v5, v6] [vL x0] I = runs cal 41 23 [v0, v1, v2, kill v3, vL x0, vR 0, v6] [] I := runs_to (ins_of mI_41 (by rfl)) rfl rfl
theorem r41_23 : runs cal 41 23 [v0, vR 38, v2, v3, v4, v5, v6] [] I = runs cal 41 24 [v0, vR 38, v2, v3, v4, v5, v6] [vR 38] I := runs_to (ins_of mI_41 (by rfl)) rfl rfl
theorem r41_24 : runs cal 41 24 [v0, v1, v2, v3, v4, v5, vI w] [vR 38] I = runs cal 41 26 [v0, v1, v2, v3, v4, v5, vI w] [vI w, vR 38] I := runs_to (ins_of mI_41 (by rfl)) rfl rfl
theorem r41_26 : runs cal 41 26 [v0, v1, v2, v3, vL w, v5, v6] [vI x0, vR 38] I = runs cal 41 28 [v0, v1, v2, v3, vL w, v5, v6] [vL w, vI x0, vR 38] I := runs_to (ins_of mI_41 (by rfl)) rfl rfl
theorem r41_28 : runs cal 41 28 [v0, v1, v2, v3, v4, v5, v6] [vL x0, vI x1, vR 38] I = runs cal 41 31 [v0, v1, v2, v3, v4, v5, v6] [vL (1073741823), vL x0, vI x1, vR 38] I := runs_to (ins_of mI_41 (by rfl)) rfl (by simp only [stepI, ldk2, mC_41]; rfl)
theorem r41_31 : runs cal 41 31 [v0, v1, v2, v3, v4, v5, v6] [vL x0, vL x1, vI x2, vR 38] I = runs cal 41 32 [v0, v1, v2, v3, v4, v5, v6] [vL (land x1 x0), vI x2, vR 38] I := runs_to (ins_of mI_41 (by rfl)) rfl rfl
theorem r41_32 : runs cal 41 32 [v0, v1, v2, v3, v4, v5, v6] [vL x0, vI x1, vR 38] I = if 0 ≤ x1 ∧ x1 < 4 then runs cal 41 33 [v0, v1, v2, v3, v4, v5, v6] [] (mset I 38 x1 x0) else none := st_last (ins_of mI_41 (by rfl)) cT_38 (wdc wid_41 wd_38)
theorem r41_33 : runs cal 41 33 [v0, v1, v2, v3, vL w, v5, v6] [] I = runs cal 41 35 [v0, v1, v2, v3, vL w, v5, v6] [vL w] I := runs_to (ins_of mI_41 (by rfl)) rfl rfl
theorem r41_35 : runs cal 41 35 [v0, v1, v2, v3, v4, v5, v6] [vL x0] I = runs cal 41 37 [v0, v1, v2, v3, v4, v5, v6] [vI (30), vL x0] I := runs_to (ins_of mI_41 (by rfl)) rfl rfl
theorem r41_37 : runs cal 41 37 [v0, v1, v2, v3, v4, v5, v6] [vI x0, vL x1] I = runs cal 41 38 [v0, v1, v2, v3, v4, v5, v6] [vL (lshr x1 x0)] I := runs_to (ins_of mI_41 (by rfl)) rfl rfl
theorem r41_38 : runs cal 41 38 [v0, v1, v2, v3, v4, v5, v6] [vL x0] I = runs cal 41 40 [v0, v1, v2, kill v3, vL x0, vR 0, v6] [] I := runs_to (ins_of mI_41 (by rfl)) rfl rfl
theorem r41_40 : runs cal 41 40 [v0, v1, v2, v3, v4, v5, vI w] [] I = runs cal 41 43 [v0, v1, v2, v3, v4, kill v5, vI (iadd w (1))] [] I := runs_to (ins_of mI_41 (by rfl)) rfl rfl
theorem r41_43 : runs cal 41 43 [v0, v1, v2, v3, v4, v5, v6] [] I = runs cal 41 6 [v0, v1, v2, v3, v4, v5, v6] [] I := st_goto (ins_of mI_41 (by rfl)) (by decide)
theorem r41_46 : runs cal 41 46 [v0, v1, v2, v3, v4, v5, v6] [] I = some (none, I) := st_ret (q := none) (k := 3) (ins_of mI_41 (by rfl)) rfl (by decide) mR_41 rfl trivial
theorem r41_14a : runs cal 41 14 [v0, vR 39, v2, v3, v4, v5, v6] [vL x0] I = runs cal 41 15 [v0, vR 39, v2, v3, v4, v5, v6] [vR 39, vL x0] I := runs_to (ins_of mI_41 (by rfl)) rfl rfl
theorem r41_15a : runs cal 41 15 [v0, v1, v2, v3, v4, v5, vI w] [vR 39, vL x1] I = runs cal 41 17 [v0, v1, v2, v3, v4, v5, vI w] [vI w, vR 39, vL x1] I := runs_to (ins_of mI_41 (by rfl)) rfl rfl
theorem r41_17a : runs cal 41 17 [v0, v1, v2, v3, v4, v5, v6] [vI x0, vR 39, vL x2] I = if 0 ≤ x0 ∧ x0 < 4 then runs cal 41 18 [v0, v1, v2, v3, v4, v5, v6] [vL (I 39 x0), vL x2] I else none := st_lald (ins_of mI_41 (by rfl)) cT_39 (wdc wid_41 wd_39)
theorem r41_23a : runs cal 41 23 [v0, vR 39, v2, v3, v4, v5, v6] [] I = runs cal 41 24 [v0, vR 39, v2, v3, v4, v5, v6] [vR 39] I := runs_to (ins_of mI_41 (by rfl)) rfl rfl
theorem r41_24a : runs cal 41 24 [v0, v1, v2, v3, v4, v5, vI w] [vR 39] I = runs cal 41 26 [v0, v1, v2, v3, v4, v5, vI w] [vI w, vR 39] I := runs_to (ins_of mI_41 (by rfl)) rfl rfl
theorem r41_26a : runs cal 41 26 [v0, v1, v2, v3, vL w, v5, v6] [vI x0, vR 39] I = runs cal 41 28 [v0, v1, v2, v3, vL w, v5, v6] [vL w, vI x0, vR 39] I := runs_to (ins_of mI_41 (by rfl)) rfl rfl
theorem r41_28a : runs cal 41 28 [v0, v1, v2, v3, v4, v5, v6] [vL x0, vI x1, vR 39] I = runs cal 41 31 [v0, v1, v2, v3, v4, v5, v6] [vL (1073741823), vL x0, vI x1, vR 39] I := runs_to (ins_of mI_41 (by rfl)) rfl (by simp only [stepI, ldk2, mC_41]; rfl)
theorem r41_31a : runs cal 41 31 [v0, v1, v2, v3, v4, v5, v6] [vL x0, vL x1, vI x2, vR 39] I = runs cal 41 32 [v0, v1, v2, v3, v4, v5, v6] [vL (land x1 x0), vI x2, vR 39] I := runs_to (ins_of mI_41 (by rfl)) rfl rfl
theorem r41_32a : runs cal 41 32 [v0, v1, v2, v3, v4, v5, v6] [vL x0, vI x1, vR 39] I = if 0 ≤ x1 ∧ x1 < 4 then runs cal 41 33 [v0, v1, v2, v3, v4, v5, v6] [] (mset I 39 x1 x0) else none := st_last (ins_of mI_41 (by rfl)) cT_39 (wdc wid_41 wd_39)
theorem r42_0 : runs cal 42 0 [v0, v1, v2, v3] [] I = runs cal 42 1 [v0, v1, v2, v3] [vI (0)] I := runs_to (ins_of mI_42 (by rfl)) rfl rfl
theorem r42_1 : runs cal 42 1 [v0, v1, vI u, v3] [vI x0] I = runs cal 42 2 [v0, v1, vI u, vI x0] [] I := runs_to (ins_of mI_42 (by rfl)) rfl rfl
theorem r42_2 : runs cal 42 2 [v0, v1, v2, vI w] [] I = runs cal 42 3 [v0, v1, v2, vI w] [vI w] I := runs_to (ins_of mI_42 (by rfl)) rfl rfl
theorem r42_3 : runs cal 42 3 [v0, v1, vI w, v3] [vI x0] I = runs cal 42 4 [v0, v1, vI w, v3] [vI w, vI x0] I := runs_to (ins_of mI_42 (by rfl)) rfl rfl
theorem r42_4 : runs cal 42 4 [v0, v1, v2, v3] [vI x0, vI x1] I = if x1 < x0 then runs cal 42 7 [v0, v1, v2, v3] [] I else runs cal 42 23 [v0, v1, v2, v3] [] I := st_cmp_ge (ins_of mI_42 (by rfl)) (by decide)
theorem r42_7 : runs cal 42 7 [vR 36, v1, v2, v3] [] I = runs cal 42 8 [vR 36, v1, v2, v3] [vR 36] I := runs_to (ins_of mI_42 (by rfl)) rfl rfl
theorem r42_8 : runs cal 42 8 [vR 36, v1, v2, v3] [vR 36] I = runs cal 42 9 [vR 36, v1, v2, v3] [vR 36, vR 36] I := runs_to (ins_of mI_42 (by rfl)) rfl rfl
theorem r42_9 : runs cal 42 9 [v0, v1, v2, v3] [vR 36, vR 36] I = runs cal 42 12 [v0, v1, v2, v3] [vR 39, vR 36] I := st_getR (ins_of mI_42 (by rfl)) mC_42 (by decide) fr_1_18 cT_36 (wdc wid_42 wd_36) rfl rfl
theorem r42_12 : runs cal 42 12 [v0, vI w, v2, v3] [vR 39, vR 36] I = runs cal 42 13 [v0, vI w, v2, v3] [vI w, vR 39, vR 36] I := runs_to (ins_of mI_42 (by rfl)) rfl rfl
theorem r42_13 : runs cal 42 13 [v0, v1, v2, v3] [vI x0, vR 39, vR 36] I = runs cal 42 14 [v0, v1, v2, v3] [vL x0, vR 39, vR 36] I := runs_to (ins_of mI_42 (by rfl)) rfl rfl
theorem r42_14 : runs cal 42 14 [v0, v1, v2, v3] [vL x0, vR 39, vR 36] I = (cal 41 [vR 36, vR 39, vL x0] I).bind (fun q => runs cal 42 17 [v0, v1, v2, v3] (pushR q.1 []) q.2) := st_call (st := false) (ins_of mI_42 (by rfl)) mC_42 mr_1_31 (by decide) mS_41 mN_41 rfl (Nat.le_of_ble_eq_true rfl) rfl rfl (Or.inr ⟨_, _, rfl, rcv mC_41 rfl wid_42 (by decide +kernel)⟩) (Or.inl (wid_42.trans wid_41.symm))
theorem r42_17 : runs cal 42 17 [v0, v1, vI u, vI w] [] I = runs cal 42 20 [v0, v1, vI u, vI (iadd w (1))] [] I := runs_to (ins_of mI_42 (by rfl)) rfl rfl
theorem r42_20 : runs cal 42 20 [v0, v1, v2, v3] [] I = runs cal 42 2 [v0, v1, v2, v3] [] I := st_goto (ins_of mI_42 (by rfl)) (by decide)
theorem r42_23 : runs cal 42 23 [v0, v1, v2, v3] [] I = some (none, I) := st_ret (q := none) (k := 3) (ins_of mI_42 (by rfl)) rfl (by decide) mR_42 rfl trivial
theorem r43_0 : runs cal 43 0 [v0, v1, v2, v3] [] I = runs cal 43 1 [v0, v1, v2, v3] [vL 0] I := runs_to (ins_of mI_43 (by rfl)) rfl rfl
theorem r43_1 : runs cal 43 1 [vR b0, v1, v2, v3] [vL x0] I = runs cal 43 2 [vR b0, vL x0, vR 0, v3] [] I := runs_to (ins_of mI_43 (by rfl)) rfl rfl
theorem r43_2 : runs cal 43 2 [v0, v1, v2, v3] [] I = runs cal 43 3 [v0, v1, v2, v3] [vI (0)] I := runs_to (ins_of mI_43 (by rfl)) rfl rfl
theorem r43_3 : runs cal 43 3 [v0, v1, v2, v3] [vI x0] I = runs cal 43 4 [v0, v1, kill v2, vI x0] [] I := runs_to (ins_of mI_43 (by rfl)) rfl rfl
theorem r43_4 : runs cal 43 4 [v0, v1, v2, vI w] [] I = runs cal 43 5 [v0, v1, v2, vI w] [vI w] I := runs_to (ins_of mI_43 (by rfl)) rfl rfl
theorem r43_5 : runs cal 43 5 [v0, v1, v2, v3] [vI x0] I = runs cal 43 6 [v0, v1, v2, v3] [vI (4), vI x0] I := runs_to (ins_of mI_43 (by rfl)) rfl rfl
theorem r43_6 : runs cal 43 6 [v0, v1, v2, v3] [vI x0, vI x1] I = if x1 < x0 then runs cal 43 9 [v0, v1, v2, v3] [] I else runs cal 43 47 [v0, v1, v2, v3] [] I := st_cmp_ge (ins_of mI_43 (by rfl)) (by decide)
theorem r43_9 : runs cal 43 9 [v0, vL w, v2, v3] [] I = runs cal 43 10 [v0, vL w, v2, v3] [vL w] I := runs_to (ins_of mI_43 (by rfl)) rfl rfl
theorem r43_10 : runs cal 43 10 [vR 36, v1, v2, v3] [vL x0] I = runs cal 43 11 [vR 36, v1, v2, v3] [vR 36, vL x0] I := runs_to (ins_of mI_43 (by rfl)) rfl rfl
theorem r43_11 : runs cal 43 11 [v0, v1, v2, v3] [vR 36, vL x1] I = runs cal 43 14 [v0, v1, v2, v3] [vR 37, vL x1] I := st_getR (ins_of mI_43 (by rfl)) mC_43 (by decide) fr_1_11 cT_36 (wdc wid_43 wd_36) rfl rfl
theorem r43_14 : runs cal 43 14 [v0, v1, v2, vI w] [vR 37, vL x1] I = runs cal 43 15 [v0, v1, v2, vI w] [vI w, vR 37, vL x1] I := runs_to (ins_of mI_43 (by rfl)) rfl rfl
theorem r43_15 : runs cal 43 15 [v0, v1, v2, v3] [vI x0, vR 37, vL x2] I = if 0 ≤ x0 ∧ x0 < 4 then runs cal 43 16 [v0, v1, v2, v3] [vL (I 37 x0), vL x2] I else none := st_lald (ins_of mI_43 (by rfl)) cT_37 (wdc wid_43 wd_37)
theorem r43_16 : runs cal 43 16 [vR 36, v1, v2, v3] [vL x0, vL x1] I = runs cal 43 17 [vR 36, v1, v2, v3] [vR 36, vL x0, vL x1] I := runs_to (ins_of mI_43 (by rfl)) rfl rfl
theorem r43_17 : runs cal 43 17 [v0, v1, v2, v3] [vR 36, vL x1, vL x2] I = runs cal 43 20 [v0, v1, v2, v3] [vR 39, vL x1, vL x2] I := st_getR (ins_of mI_43 (by rfl)) mC_43 (by decide) fr_1_18 cT_36 (wdc wid_43 wd_36) rfl rfl
theorem r43_20 : runs cal 43 20 [v0, v1, v2, vI w] [vR 39, vL x1, vL x2] I = runs cal 43 21 [v0, v1, v2, vI w] [vI w, vR 39, vL x1, vL x2] I := runs_to (ins_of mI_43 (by rfl)) rfl rfl
theorem r43_21 : runs cal 43 21 [v0, v1, v2, v3] [vI x0, vR 39, vL x2, vL x3] I = if 0 ≤ x0 ∧ x0 < 4 then runs cal 43 22 [v0, v1, v2, v3] [vL (I 39 x0), vL x2, vL x3] I else none := st_lald (ins_of mI_43 (by rfl)) cT_39 (wdc wid_43 wd_39)
theorem r43_22 : runs cal 43 22 [v0, v1, v2, v3] [vL x0, vL x1, vL x2] I = runs cal 43 23 [v0, v1, v2, v3] [vL (ladd x1 x0), vL x2] I := runs_to (ins_of mI_43 (by rfl)) rfl rfl
theorem r43_23 : runs cal 43 23 [v0, v1, v2, v3] [vL x0, vL x1] I = runs cal 43 24 [v0, v1, v2, v3] [vL (ladd x1 x0)] I := runs_to (ins_of mI_43 (by rfl)) rfl rfl
theorem r43_24 : runs cal 43 24 [vR b0, v1, v2, v3] [vL x0] I = runs cal 43 25 [vR b0, vL x0, vR 0, v3] [] I := runs_to (ins_of mI_43 (by rfl)) rfl rfl
theorem r43_25 : runs cal 43 25 [vR 36, v1, v2, v3] [] I = runs cal 43 26 [vR 36, v1, v2, v3] [vR 36] I := runs_to (ins_of mI_43 (by rfl)) rfl rfl
theorem r43_26 : runs cal 43 26 [v0, v1, v2, v3] [vR 36] I = runs cal 43 29 [v0, v1, v2, v3] [vR 37] I := st_getR (ins_of mI_43 (by rfl)) mC_43 (by decide) fr_1_11 cT_36 (wdc wid_43 wd_36) rfl rfl
theorem r43_29 : runs cal 43 29 [v0, v1, v2, vI w] [vR 37] I = runs cal 43 30 [v0, v1, v2, vI w] [vI w, vR 37] I := runs_to (ins_of mI_43 (by rfl)) rfl rfl
theorem r43_30 : runs cal 43 30 [v0, vL w, v2, v3] [vI x0, vR 37] I = runs cal 43 31 [v0, vL w, v2, v3] [vL w, vI x0, vR 37] I := runs_to (ins_of mI_43 (by rfl)) rfl rfl
theorem r43_31 : runs cal 43 31 [v0, v1, v2, v3] [vL x0, vI x1, vR 37] I = runs cal 43 34 [v0, v1, v2, v3] [vL (1073741823), vL x0, vI x1, vR 37] I := runs_to (ins_of mI_43 (by rfl)) rfl (by simp only [stepI, ldk2, mC_43]; rfl)
theorem r43_34 : runs cal 43 34 [v0, v1, v2, v3] [vL x0, vL x1, vI x2, vR 37] I = runs cal 43 35 [v0, v1, v2, v3] [vL (land x1 x0), vI x2, vR 37] I := runs_to (ins_of mI_43 (by rfl)) rfl rfl
theorem r43_35 : runs cal 43 35 [v0, v1, v2, v3] [vL x0, vI x1, vR 37] I = if 0 ≤ x1 ∧ x1 < 4 then runs cal 43 36 [v0, v1, v2, v3] [] (mset I 37 x1 x0) else none := st_last (ins_of mI_43 (by rfl)) cT_37 (wdc wid_43 wd_37)
theorem r43_36 : runs cal 43 36 [v0, vL w, v2, v3] [] I = runs cal 43 37 [v0, vL w, v2, v3] [vL w] I := runs_to (ins_of mI_43 (by rfl)) rfl rfl
theorem r43_37 : runs cal 43 37 [v0, v1, v2, v3] [vL x0] I = runs cal 43 39 [v0, v1, v2, v3] [vI (30), vL x0] I := runs_to (ins_of mI_43 (by rfl)) rfl rfl
theorem r43_39 : runs cal 43 39 [v0, v1, v2, v3] [vI x0, vL x1] I = runs cal 43 40 [v0, v1, v2, v3] [vL (lshr x1 x0)] I := runs_to (ins_of mI_43 (by rfl)) rfl rfl
theorem r43_40 : runs cal 43 40 [vR b0, v1, v2, v3] [vL x0] I = runs cal 43 41 [vR b0, vL x0, vR 0, v3] [] I := runs_to (ins_of mI_43 (by rfl)) rfl rfl
theorem r43_41 : runs cal 43 41 [v0, v1, v2, vI w] [] I = runs cal 43 44 [v0, v1, kill v2, vI (iadd w (1))] [] I := runs_to (ins_of mI_43 (by rfl)) rfl rfl
theorem r43_44 : runs cal 43 44 [v0, v1, v2, v3] [] I = runs cal 43 4 [v0, v1, v2, v3] [] I := st_goto (ins_of mI_43 (by rfl)) (by decide)
theorem r43_47 : runs cal 43 47 [v0, v1, v2, v3] [] I = some (none, I) := st_ret (q := none) (k := 3) (ins_of mI_43 (by rfl)) rfl (by decide) mR_43 rfl trivial
theorem r44_0 : runs cal 44 0 [vR 36, v1] [] I = runs cal 44 1 [vR 36, v1] [vR 36] I := runs_to (ins_of mI_44 (by rfl)) rfl rfl
theorem r44_1 : runs cal 44 1 [vR 36, v1] [vR 36] I = runs cal 44 2 [vR 36, v1] [vR 36, vR 36] I := runs_to (ins_of mI_44 (by rfl)) rfl rfl
theorem r44_2 : runs cal 44 2 [v0, v1] [vR 36, vR 36] I = runs cal 44 5 [v0, v1] [vR 37, vR 36] I := st_getR (ins_of mI_44 (by rfl)) mC_44 (by decide) fr_1_11 cT_36 (wdc wid_44 wd_36) rfl rfl
theorem r44_5 : runs cal 44 5 [v0, v1] [vR 37, vR 36] I = (cal 48 [vR 36, vR 37] I).bind (fun q => runs cal 44 8 [v0, v1] (pushR q.1 []) q.2) := st_call (st := false) (ins_of mI_44 (by rfl)) mC_44 mr_1_45 (by decide) mS_48 mN_48 rfl (Nat.le_of_ble_eq_true rfl) rfl rfl (Or.inr ⟨_, _, rfl, rcv mC_48 rfl wid_44 (by decide +kernel)⟩) (Or.inl (wid_44.trans wid_48.symm))
theorem r44_8 : runs cal 44 8 [v0, v1] [vI x0] I = if x0 = 0 then runs cal 44 11 [v0, v1] [] I else runs cal 44 21 [v0, v1] [] I := st_if_ne (ins_of mI_44 (by rfl)) (by decide)
theorem r44_11 : runs cal 44 11 [vR 36, v1] [] I = runs cal 44 12 [vR 36, v1] [vR 36] I := runs_to (ins_of mI_44 (by rfl)) rfl rfl
theorem r44_12 : runs cal 44 12 [vR 36, v1] [vR 36] I = runs cal 44 13 [vR 36, v1] [vR 36, vR 36] I := runs_to (ins_of mI_44 (by rfl)) rfl rfl
theorem r44_13 : runs cal 44 13 [v0, v1] [vR 36, vR 36] I = runs cal 44 16 [v0, v1] [vR 38, vR 36] I := st_getR (ins_of mI_44 (by rfl)) mC_44 (by decide) fr_1_15 cT_36 (wdc wid_44 wd_36) rfl rfl
theorem r44_16 : runs cal 44 16 [v0, v1] [vR 38, vR 36] I = runs cal 44 17 [v0, v1] [vL 1, vR 38, vR 36] I := runs_to (ins_of mI_44 (by rfl)) rfl rfl
theorem r44_17 : runs cal 44 17 [v0, v1] [vL x0, vR 38, vR 36] I = (cal 40 [vR 36, vR 38, vL x0] I).bind (fun q => runs cal 44 20 [v0, v1] (pushR q.1 []) q.2) := st_call (st := false) (ins_of mI_44 (by rfl)) mC_44 mr_1_25 (by decide) mS_40 mN_40 rfl (Nat.le_of_ble_eq_true rfl) rfl rfl (Or.inr ⟨_, _, rfl, rcv mC_40 rfl wid_44 (by decide +kernel)⟩) (Or.inl (wid_44.trans wid_40.symm))
theorem r44_20 : runs cal 44 20 [v0, v1] [] I = some (none, I) := st_ret (q := none) (k := 3) (ins_of mI_44 (by rfl)) rfl (by decide) mR_44 rfl trivial
theorem r44_21 : runs cal 44 21 [vR 36, v1] [] I = runs cal 44 22 [vR 36, v1] [vR 36] I := runs_to (ins_of mI_44 (by rfl)) rfl rfl
theorem r44_22 : runs cal 44 22 [v0, v1] [vR 36] I = runs cal 44 23 [v0, v1] [vI (2), vR 36] I := runs_to (ins_of mI_44 (by rfl)) rfl rfl
theorem r44_23 : runs cal 44 23 [v0, vI w] [vI x0, vR 36] I = runs cal 44 24 [v0, vI w] [vI w, vI x0, vR 36] I := runs_to (ins_of mI_44 (by rfl)) rfl rfl
theorem r44_24 : runs cal 44 24 [v0, v1] [vI x0, vI x1, vR 36] I = (cal 45 [vR 36, vI x1, vI x0] I).bind (fun q => runs cal 44 27 [v0, v1] (pushR q.1 []) q.2) := st_call (st := false) (ins_of mI_44 (by rfl)) mC_44 mr_1_54 (by decide) mS_45 mN_45 rfl (Nat.le_of_ble_eq_true rfl) rfl rfl (Or.inr ⟨_, _, rfl, rcv mC_45 rfl wid_44 (by decide +kernel)⟩) (Or.inl (wid_44.trans wid_45.symm))
theorem r44_27 : runs cal 44 27 [vR 36, v1] [] I = runs cal 44 28 [vR 36, v1] [vR 36] I := runs_to (ins_of mI_44 (by rfl)) rfl rfl
theorem r44_28 : runs cal 44 28 [v0, v1] [vR 36] I = runs cal 44 29 [v0, v1] [vI (5), vR 36] I := runs_to (ins_of mI_44 (by rfl)) rfl rfl
theorem r44_29 : runs cal 44 29 [v0, vI w] [vI x0, vR 36] I = runs cal 44 30 [v0, vI w] [vI w, vI x0, vR 36] I := runs_to (ins_of mI_44 (by rfl)) rfl rfl
theorem r44_30 : runs cal 44 30 [v0, v1] [vI x0, vI x1, vR 36] I = (cal 45 [vR 36, vI x1, vI x0] I).bind (fun q => runs cal 44 33 [v0, v1] (pushR q.1 []) q.2) := st_call (st := false) (ins_of mI_44 (by rfl)) mC_44 mr_1_54 (by decide) mS_45 mN_45 rfl (Nat.le_of_ble_eq_true rfl) rfl rfl (Or.inr ⟨_, _, rfl, rcv mC_45 rfl wid_44 (by decide +kernel)⟩) (Or.inl (wid_44.trans wid_45.symm))
theorem r44_33 : runs cal 44 33 [v0, v1] [] I = some (none, I) := st_ret (q := none) (k := 3) (ins_of mI_44 (by rfl)) rfl (by decide) mR_44 rfl trivial
theorem r45_0 : runs cal 45 0 [v0, v1, v2, v3] [] I = runs cal 45 1 [v0, v1, v2, v3] [vI (0)] I := runs_to (ins_of mI_45 (by rfl)) rfl rfl
theorem r45_1 : runs cal 45 1 [v0, v1, vI u, v3] [vI x0] I = runs cal 45 2 [v0, v1, vI u, vI x0] [] I := runs_to (ins_of mI_45 (by rfl)) rfl rfl
theorem r45_2 : runs cal 45 2 [v0, v1, v2, vI w] [] I = runs cal 45 3 [v0, v1, v2, vI w] [vI w] I := runs_to (ins_of mI_45 (by rfl)) rfl rfl
theorem r45_3 : runs cal 45 3 [v0, v1, vI w, v3] [vI x0] I = runs cal 45 4 [v0, v1, vI w, v3] [vI w, vI x0] I := runs_to (ins_of mI_45 (by rfl)) rfl rfl
theorem r45_4 : runs cal 45 4 [v0, v1, v2, v3] [vI x0, vI x1] I = if x1 < x0 then runs cal 45 7 [v0, v1, v2, v3] [] I else runs cal 45 55 [v0, v1, v2, v3] [] I := st_cmp_ge (ins_of mI_45 (by rfl)) (by decide)
theorem r45_7 : runs cal 45 7 [vR 36, v1, v2, v3] [] I = runs cal 45 8 [vR 36, v1, v2, v3] [vR 36] I := runs_to (ins_of mI_45 (by rfl)) rfl rfl
theorem r45_8 : runs cal 45 8 [vR 36, v1, v2, v3] [vR 36] I = runs cal 45 9 [vR 36, v1, v2, v3] [vR 36, vR 36] I := runs_to (ins_of mI_45 (by rfl)) rfl rfl
theorem r45_9 : runs cal 45 9 [v0, v1, v2, v3] [vR 36, vR 36] I = runs cal 45 12 [v0, v1, v2, v3] [vR 37, vR 36] I := st_getR (ins_of mI_45 (by rfl)) mC_45 (by decide) fr_1_11 cT_36 (wdc wid_45 wd_36) rfl rfl
theorem r45_12 : runs cal 45 12 [v0, vI w, v2, v3] [vR 37, vR 36] I = runs cal 45 13 [v0, vI w, v2, v3] [vI w, vR 37, vR 36] I := runs_to (ins_of mI_45 (by rfl)) rfl rfl
theorem r45_13 : runs cal 45 13 [v0, v1, v2, v3] [vI x0, vR 37, vR 36] I = (cal 46 [vR 36, vR 37, vI x0] I).bind (fun q => runs cal 45 16 [v0, v1, v2, v3] (pushR q.1 []) q.2) := st_call (st := false) (ins_of mI_45 (by rfl)) mC_45 mr_1_57 (by decide) mS_46 mN_46 rfl (Nat.le_of_ble_eq_true rfl) rfl rfl (Or.inr ⟨_, _, rfl, rcv mC_46 rfl wid_45 (by decide +kernel)⟩) (Or.inl (wid_45.trans wid_46.symm))
theorem r45_16 : runs cal 45 16 [v0, v1, v2, v3] [vI x0] I = if x0 = 0 then runs cal 45 55 [v0, v1, v2, v3] [] I else runs cal 45 19 [v0, v1, v2, v3] [] I := st_if_eq (ins_of mI_45 (by rfl)) (by decide)
theorem r45_19 : runs cal 45 19 [vR 36, v1, v2, v3] [] I = runs cal 45 20 [vR 36, v1, v2, v3] [vR 36] I := runs_to (ins_of mI_45 (by rfl)) rfl rfl
theorem r45_20 : runs cal 45 20 [vR 36, v1, v2, v3] [vR 36] I = runs cal 45 21 [vR 36, v1, v2, v3] [vR 36, vR 36] I := runs_to (ins_of mI_45 (by rfl)) rfl rfl
theorem r45_21 : runs cal 45 21 [v0, v1, v2, v3] [vR 36, vR 36] I = runs cal 45 24 [v0, v1, v2, v3] [vR 38, vR 36] I := st_getR (ins_of mI_45 (by rfl)) mC_45 (by decide) fr_1_15 cT_36 (wdc wid_45 wd_36) rfl rfl
theorem r45_24 : runs cal 45 24 [v0, vI w, v2, v3] [vR 38, vR 36] I = runs cal 45 25 [v0, vI w, v2, v3] [vI w, vR 38, vR 36] I := runs_to (ins_of mI_45 (by rfl)) rfl rfl
theorem r45_25 : runs cal 45 25 [v0, v1, v2, v3] [vI x0, vR 38, vR 36] I = (cal 46 [vR 36, vR 38, vI x0] I).bind (fun q => runs cal 45 28 [v0, v1, v2, v3] (pushR q.1 []) q.2) := st_call (st := false) (ins_of mI_45 (by rfl)) mC_45 mr_1_57 (by decide) mS_46 mN_46 rfl (Nat.le_of_ble_eq_true rfl) rfl rfl (Or.inr ⟨_, _, rfl, rcv mC_46 rfl wid_45 (by decide +kernel)⟩) (Or.inl (wid_45.trans wid_46.symm))
theorem r45_28 : runs cal 45 28 [v0, v1, v2, v3] [vI x0] I = if x0 = 0 then runs cal 45 55 [v0, v1, v2, v3] [] I else runs cal 45 31 [v0, v1, v2, v3] [] I := st_if_eq (ins_of mI_45 (by rfl)) (by decide)
theorem r45_31 : runs cal 45 31 [vR 36, v1, v2, v3] [] I = runs cal 45 32 [vR 36, v1, v2, v3] [vR 36] I := runs_to (ins_of mI_45 (by rfl)) rfl rfl
theorem r45_32 : runs cal 45 32 [vR 36, v1, v2, v3] [vR 36] I = runs cal 45 33 [vR 36, v1, v2, v3] [vR 36, vR 36] I := runs_to (ins_of mI_45 (by rfl)) rfl rfl
theorem r45_33 : runs cal 45 33 [v0, v1, v2, v3] [vR 36, vR 36] I = runs cal 45 36 [v0, v1, v2, v3] [vR 37, vR 36] I := st_getR (ins_of mI_45 (by rfl)) mC_45 (by decide) fr_1_11 cT_36 (wdc wid_45 wd_36) rfl rfl
theorem r45_36 : runs cal 45 36 [v0, vI w, v2, v3] [vR 37, vR 36] I = runs cal 45 37 [v0, vI w, v2, v3] [vI w, vR 37, vR 36] I := runs_to (ins_of mI_45 (by rfl)) rfl rfl
theorem r45_37 : runs cal 45 37 [v0, v1, v2, v3] [vI x0, vR 37, vR 36] I = (cal 47 [vR 36, vR 37, vI x0] I).bind (fun q => runs cal 45 40 [v0, v1, v2, v3] (pushR q.1 []) q.2) := st_call (st := false) (ins_of mI_45 (by rfl)) mC_45 mr_1_61 (by decide) mS_47 mN_47 rfl (Nat.le_of_ble_eq_true rfl) rfl rfl (Or.inr ⟨_, _, rfl, rcv mC_47 rfl wid_45 (by decide +kernel)⟩) (Or.inl (wid_45.trans wid_47.symm))
theorem r45_40 : runs cal 45 40 [vR 36, v1, v2, v3] [] I = runs cal 45 41 [vR 36, v1, v2, v3] [vR 36] I := runs_to (ins_of mI_45 (by rfl)) rfl rfl
theorem r45_41 : runs cal 45 41 [vR 36, v1, v2, v3] [vR 36] I = runs cal 45 42 [vR 36, v1, v2, v3] [vR 36, vR 36] I := runs_to (ins_of mI_45 (by rfl)) rfl rfl
theorem r45_42 : runs cal 45 42 [v0, v1, v2, v3] [vR 36, vR 36] I = runs cal 45 45 [v0, v1, v2, v3] [vR 38, vR 36] I := st_getR (ins_of mI_45 (by rfl)) mC_45 (by decide) fr_1_15 cT_36 (wdc wid_45 wd_36) rfl rfl
theorem r45_45 : runs cal 45 45 [v0, vI w, v2, v3] [vR 38, vR 36] I = runs cal 45 46 [v0, vI w, v2, v3] [vI w, vR 38, vR 36] I := runs_to (ins_of mI_45 (by rfl)) rfl rfl
theorem r45_46 : runs cal 45 46 [v0, v1, v2, v3] [vI x0, vR 38, vR 36] I = (cal 47 [vR 36, vR 38, vI x0] I).bind (fun q => runs cal 45 49 [v0, v1, v2, v3] (pushR q.1 []) q.2) := st_call (st := false) (ins_of mI_45 (by rfl)) mC_45 mr_1_61 (by decide) mS_47 mN_47 rfl (Nat.le_of_ble_eq_true rfl) rfl rfl (Or.inr ⟨_, _, rfl, rcv mC_47 rfl wid_45 (by decide +kernel)⟩) (Or.inl (wid_45.trans wid_47.symm))
theorem r45_49 : runs cal 45 49 [v0, v1, vI u, vI w] [] I = runs cal 45 52 [v0, v1, vI u, vI (iadd w (1))] [] I := runs_to (ins_of mI_45 (by rfl)) rfl rfl
theorem r45_52 : runs cal 45 52 [v0, v1, v2, v3] [] I = runs cal 45 2 [v0, v1, v2, v3] [] I := st_goto (ins_of mI_45 (by rfl)) (by decide)
theorem r45_55 : runs cal 45 55 [v0, v1, v2, v3] [] I = some (none, I) := st_ret (q := none) (k := 3) (ins_of mI_45 (by rfl)) rfl (by decide) mR_45 rfl trivial
theorem r46_0 : runs cal 46 0 [v0, v1, v2, v3, v4, v5] [] I = runs cal 46 1 [v0, v1, v2, v3, v4, v5] [vL 0] I := runs_to (ins_of mI_46 (by rfl)) rfl rfl
theorem r46_1 : runs cal 46 1 [v0, v1, vI u, v3, v4, v5] [vL x0] I = runs cal 46 2 [v0, v1, vI u, vL x0, vR 0, v5] [] I := runs_to (ins_of mI_46 (by rfl)) rfl rfl
theorem r46_2 : runs cal 46 2 [v0, v1, v2, v3, v4, v5] [] I = runs cal 46 3 [v0, v1, v2, v3, v4, v5] [vI (3)] I := runs_to (ins_of mI_46 (by rfl)) rfl rfl
theorem r46_3 : runs cal 46 3 [v0, v1, v2, v3, v4, v5] [vI x0] I = runs cal 46 5 [v0, v1, v2, v3, kill v4, vI x0] [] I := runs_to (ins_of mI_46 (by rfl)) rfl rfl
theorem r46_5 : runs cal 46 5 [v0, v1, v2, v3, v4, vI w] [] I = runs cal 46 7 [v0, v1, v2, v3, v4, vI w] [vI w] I := runs_to (ins_of mI_46 (by rfl)) rfl rfl
theorem r46_7 : runs cal 46 7 [v0, v1, v2, v3, v4, v5] [vI x0] I = if x0 < 0 then runs cal 46 29 [v0, v1, v2, v3, v4, v5] [] I else runs cal 46 10 [v0, v1, v2, v3, v4, v5] [] I := st_if_lt (ins_of mI_46 (by rfl)) (by decide)
theorem r46_10 : runs cal 46 10 [v0, v1, v2, vL w, v4, v5] [] I = runs cal 46 11 [v0, v1, v2, vL w, v4, v5] [vL w] I := runs_to (ins_of mI_46 (by rfl)) rfl rfl
theorem r46_11 : runs cal 46 11 [v0, v1, v2, v3, v4, v5] [vL x0] I = runs cal 46 13 [v0, v1, v2, v3, v4, v5] [vI (30), vL x0] I := runs_to (ins_of mI_46 (by rfl)) rfl rfl
theorem r46_13 : runs cal 46 13 [v0, v1, v2, v3, v4, v5] [vI x0, vL x1] I = runs cal 46 14 [v0, v1, v2, v3, v4, v5] [vL (lshl x1 x0)] I := runs_to (ins_of mI_46 (by rfl)) rfl rfl
theorem r46_14 : runs cal 46 14 [v0, vR 37, v2, v3, v4, v5] [vL x0] I = runs cal 46 15 [v0, vR 37, v2, v3, v4, v5] [vR 37, vL x0] I := runs_to (ins_of mI_46 (by rfl)) rfl rfl
theorem r46_15 : runs cal 46 15 [v0, v1, v2, v3, v4, vI w] [vR 37, vL x1] I = runs cal 46 17 [v0, v1, v2, v3, v4, vI w] [vI w, vR 37, vL x1] I := runs_to (ins_of mI_46 (by rfl)) rfl rfl
theorem r46_17 : runs cal 46 17 [v0, v1, v2, v3, v4, v5] [vI x0, vR 37, vL x2] I = if 0 ≤ x0 ∧ x0 < 4 then runs cal 46 18 [v0, v1, v2, v3, v4, v5] [vL (I 37 x0), vL x2] I else none := st_lald (ins_of mI_46 (by rfl)) cT_37 (wdc wid_46 wd_37)
theorem r46_18 : runs cal 46 18 [v0, v1, v2, v3, v4, v5] [vL x0, vL x1] I = runs cal 46 19 [v0, v1, v2, v3, v4, v5] [vL (lor x1 x0)] I := runs_to (ins_of mI_46 (by rfl)) rfl rfl
theorem r46_19 : runs cal 46 19 [v0, v1, vI w, v3, v4, v5] [vL x0] I = runs cal 46 20 [v0, v1, vI w, v3, v4, v5] [vI w, vL x0] I := runs_to (ins_of mI_46 (by rfl)) rfl rfl
theorem r46_20 : runs cal 46 20 [v0, v1, v2, v3, v4, v5] [vI x0, vL x1] I = runs cal 46 21 [v0, v1, v2, v3, v4, v5] [vL x0, vL x1] I := runs_to (ins_of mI_46 (by rfl)) rfl rfl
theorem r46_21 : runs cal 46 21 [v0, v1, v2, v3, v4, v5] [vL x0, vL x1] I = if x0 = 0 then none else runs cal 46 22 [v0, v1, v2, v3, v4, v5] [vL (lrem x1 x0)] I := st_nzL (ins_of mI_46 (by rfl)) rfl rfl
theorem r46_22 : runs cal 46 22 [v0, v1, vI u, v3, v4, v5] [vL x0] I = runs cal 46 23 [v0, v1, vI u, vL x0, vR 0, v5] [] I := runs_to (ins_of mI_46 (by rfl)) rfl rfl
theorem r46_23 : runs cal 46 23 [v0, v1, v2, v3, v4, vI w] [] I = runs cal 46 26 [v0, v1, v2, v3, kill v4, vI (iadd w (-1))] [] I := runs_to (ins_of mI_46 (by rfl)) rfl rfl
theorem r46_26 : runs cal 46 26 [v0, v1, v2, v3, v4, v5] [] I = runs cal 46 5 [v0, v1, v2, v3, v4, v5] [] I := st_goto (ins_of mI_46 (by rfl)) (by decide)
theorem r46_29 : runs cal 46 29 [v0, v1, v2, vL w, v4, v5] [] I = runs cal 46 30 [v0, v1, v2, vL w, v4, v5] [vL w] I := runs_to (ins_of mI_46 (by rfl)) rfl rfl
theorem r46_30 : runs cal 46 30 [v0, v1, v2, v3, v4, v5] [vL x0] I = runs cal 46 31 [v0, v1, v2, v3, v4, v5] [vL 0, vL x0] I := runs_to (ins_of mI_46 (by rfl)) rfl rfl
theorem r46_31 : runs cal 46 31 [v0, v1, v2, v3, v4, v5] [vL x0, vL x1] I = if x1 = x0 then runs cal 46 35 [v0, v1, v2, v3, v4, v5] [] I else runs cal 46 39 [v0, v1, v2, v3, v4, v5] [] I := st_lc_ne (ins_of mI_46 (by rfl)) (ins_of mI_46 (by rfl)) (by decide)
theorem r46_32 : runs cal 46 32 [v0, v1, v2, v3, v4, v5] [vI x0] I = if x0 = 0 then runs cal 46 35 [v0, v1, v2, v3, v4, v5] [] I else runs cal 46 39 [v0, v1, v2, v3, v4, v5] [] I := st_if_ne (ins_of mI_46 (by rfl)) (by decide)
theorem r46_35 : runs cal 46 35 [v0, v1, v2, v3, v4, v5] [] I = runs cal 46 36 [v0, v1, v2, v3, v4, v5] [vI (1)] I := runs_to (ins_of mI_46 (by rfl)) rfl rfl
theorem r46_36 : runs cal 46 36 [v0, v1, v2, v3, v4, v5] [vI x0] I = runs cal 46 40 [v0, v1, v2, v3, v4, v5] [vI x0] I := st_goto (ins_of mI_46 (by rfl)) (by decide)
theorem r46_39 : runs cal 46 39 [v0, v1, v2, v3, v4, v5] [] I = runs cal 46 40 [v0, v1, v2, v3, v4, v5] [vI (0)] I := runs_to (ins_of mI_46 (by rfl)) rfl rfl
theorem r46_40 : runs cal 46 40 [v0, v1, v2, v3, v4, v5] [vI x0] I = if x0 = 0 ∨ x0 = 1 then some (some (vI x0), I) else none := st_retZ (ins_of mI_46 (by rfl)) mR_46 (Or.inl rfl)
theorem r46_14a : runs cal 46 14 [v0, vR 38, v2, v3, v4, v5] [vL x0] I = runs cal 46 15 [v0, vR 38, v2, v3, v4, v5] [vR 38, vL x0] I := runs_to (ins_of mI_46 (by rfl)) rfl rfl
theorem r46_15a : runs cal 46 15 [v0, v1, v2, v3, v4, vI w] [vR 38, vL x1] I = runs cal 46 17 [v0, v1, v2, v3, v4, vI w] [vI w, vR 38, vL x1] I := runs_to (ins_of mI_46 (by rfl)) rfl rfl
theorem r46_17a : runs cal 46 17 [v0, v1, v2, v3, v4, v5] [vI x0, vR 38, vL x2] I = if 0 ≤ x0 ∧ x0 < 4 then runs cal 46 18 [v0, v1, v2, v3, v4, v5] [vL (I 38 x0), vL x2] I else none := st_lald (ins_of mI_46 (by rfl)) cT_38 (wdc wid_46 wd_38)
theorem r47_0 : runs cal 47 0 [v0, v1, v2, v3, v4, v5, v6, v7] [] I = runs cal 47 1 [v0, v1, v2, v3, v4, v5, v6, v7] [vL 0] I := runs_to (ins_of mI_47 (by rfl)) rfl rfl
theorem r47_1 : runs cal 47 1 [v0, v1, vI u, v3, v4, v5, v6, v7] [vL x0] I = runs cal 47 2 [v0, v1, vI u, vL x0, vR 0, v5, v6, v7] [] I := runs_to (ins_of mI_47 (by rfl)) rfl rfl
theorem r47_2 : runs cal 47 2 [v0, v1, v2, v3, v4, v5, v6, v7] [] I = runs cal 47 3 [v0, v1, v2, v3, v4, v5, v6, v7] [vI (3)] I := runs_to (ins_of mI_47 (by rfl)) rfl rfl
theorem r47_3 : runs cal 47 3 [v0, v1, v2, v3, v4, v5, v6, v7] [vI x0] I = runs cal 47 5 [v0, v1, v2, v3, kill v4, vI x0, v6, v7] [] I := runs_to (ins_of mI_47 (by rfl)) rfl rfl
theorem r47_5 : runs cal 47 5 [v0, v1, v2, v3, v4, vI w, v6, v7] [] I = runs cal 47 7 [v0, v1, v2, v3, v4, vI w, v6, v7] [vI w] I := runs_to (ins_of mI_47 (by rfl)) rfl rfl
theorem r47_7 : runs cal 47 7 [v0, v1, v2, v3, v4, v5, v6, v7] [vI x0] I = if x0 < 0 then runs cal 47 42 [v0, v1, v2, v3, v4, v5, v6, v7] [] I else runs cal 47 10 [v0, v1, v2, v3, v4, v5, v6, v7] [] I := st_if_lt (ins_of mI_47 (by rfl)) (by decide)
theorem r47_10 : runs cal 47 10 [v0, v1, v2, vL w, v4, v5, v6, v7] [] I = runs cal 47 11 [v0, v1, v2, vL w, v4, v5, v6, v7] [vL w] I := runs_to (ins_of mI_47 (by rfl)) rfl rfl
theorem r47_11 : runs cal 47 11 [v0, v1, v2, v3, v4, v5, v6, v7] [vL x0] I = runs cal 47 13 [v0, v1, v2, v3, v4, v5, v6, v7] [vI (30), vL x0] I := runs_to (ins_of mI_47 (by rfl)) rfl rfl
theorem r47_13 : runs cal 47 13 [v0, v1, v2, v3, v4, v5, v6, v7] [vI x0, vL x1] I = runs cal 47 14 [v0, v1, v2, v3, v4, v5, v6, v7] [vL (lshl x1 x0)] I := runs_to (ins_of mI_47 (by rfl)) rfl rfl
theorem r47_14 : runs cal 47 14 [v0, vR 37, v2, v3, v4, v5, v6, v7] [vL x0] I = runs cal 47 15 [v0, vR 37, v2, v3, v4, v5, v6, v7] [vR 37, vL x0] I := runs_to (ins_of mI_47 (by rfl)) rfl rfl
theorem r47_15 : runs cal 47 15 [v0, v1, v2, v3, v4, vI w, v6, v7] [vR 37, vL x1] I = runs cal 47 17 [v0, v1, v2, v3, v4, vI w, v6, v7] [vI w, vR 37, vL x1] I := runs_to (ins_of mI_47 (by rfl)) rfl rfl
theorem r47_17 : runs cal 47 17 [v0, v1, v2, v3, v4, v5, v6, v7] [vI x0, vR 37, vL x2] I = if 0 ≤ x0 ∧ x0 < 4 then runs cal 47 18 [v0, v1, v2, v3, v4, v5, v6, v7] [vL (I 37 x0), vL x2] I else none := st_lald (ins_of mI_47 (by rfl)) cT_37 (wdc wid_47 wd_37)
theorem r47_18 : runs cal 47 18 [v0, v1, v2, v3, v4, v5, v6, v7] [vL x0, vL x1] I = runs cal 47 19 [v0, v1, v2, v3, v4, v5, v6, v7] [vL (lor x1 x0)] I := runs_to (ins_of mI_47 (by rfl)) rfl rfl
theorem r47_19 : runs cal 47 19 [v0, v1, v2, v3, v4, vI u, v6, v7] [vL x0] I = runs cal 47 21 [v0, v1, v2, v3, v4, vI u, vL x0, vR 0] [] I := runs_to (ins_of mI_47 (by rfl)) rfl rfl
theorem r47_21 : runs cal 47 21 [v0, vR 37, v2, v3, v4, v5, v6, v7] [] I = runs cal 47 22 [v0, vR 37, v2, v3, v4, v5, v6, v7] [vR 37] I := runs_to (ins_of mI_47 (by rfl)) rfl rfl
theorem r47_22 : runs cal 47 22 [v0, v1, v2, v3, v4, vI w, v6, v7] [vR 37] I = runs cal 47 24 [v0, v1, v2, v3, v4, vI w, v6, v7] [vI w, vR 37] I := runs_to (ins_of mI_47 (by rfl)) rfl rfl
theorem r47_24 : runs cal 47 24 [v0, v1, v2, v3, v4, v5, vL w, v7] [vI x0, vR 37] I = runs cal 47 26 [v0, v1, v2, v3, v4, v5, vL w, v7] [vL w, vI x0, vR 37] I := runs_to (ins_of mI_47 (by rfl)) rfl rfl
theorem r47_26 : runs cal 47 26 [v0, v1, vI w, v3, v4, v5, v6, v7] [vL x0, vI x1, vR 37] I = runs cal 47 27 [v0, v1, vI w, v3, v4, v5, v6, v7] [vI w, vL x0, vI x1, vR 37] I := runs_to (ins_of mI_47 (by rfl)) rfl rfl
theorem r47_27 : runs cal 47 27 [v0, v1, v2, v3, v4, v5, v6, v7] [vI x0, vL x1, vI x2, vR 37] I = runs cal 47 28 [v0, v1, v2, v3, v4, v5, v6, v7] [vL x0, vL x1, vI x2, vR 37] I := runs_to (ins_of mI_47 (by rfl)) rfl rfl
theorem r47_28 : runs cal 47 28 [v0, v1, v2, v3, v4, v5, v6, v7] [vL x0, vL x1, vI x2, vR 37] I = if x0 = 0 then none else runs cal 47 29 [v0, v1, v2, v3, v4, v5, v6, v7] [vL (ldiv x1 x0), vI x2, vR 37] I := st_nzL (ins_of mI_47 (by rfl)) rfl rfl
theorem r47_29 : runs cal 47 29 [v0, v1, v2, v3, v4, v5, v6, v7] [vL x0, vI x1, vR 37] I = if 0 ≤ x1 ∧ x1 < 4 then runs cal 47 30 [v0, v1, v2, v3, v4, v5, v6, v7] [] (mset I 37 x1 x0) else none := st_last (ins_of mI_47 (by rfl)) cT_37 (wdc wid_47 wd_37)
theorem r47_30 : runs cal 47 30 [v0, v1, v2, v3, v4, v5, vL w, v7] [] I = runs cal 47 32 [v0, v1, v2, v3, v4, v5, vL w, v7] [vL w] I := runs_to (ins_of mI_47 (by rfl)) rfl rfl
theorem r47_32 : runs cal 47 32 [v0, v1, vI w, v3, v4, v5, v6, v7] [vL x0] I = runs cal 47 33 [v0, v1, vI w, v3, v4, v5, v6, v7] [vI w, vL x0] I := runs_to (ins_of mI_47 (by rfl)) rfl rfl
theorem r47_33 : runs cal 47 33 [v0, v1, v2, v3, v4, v5, v6, v7] [vI x0, vL x1] I = runs cal 47 34 [v0, v1, v2, v3, v4, v5, v6, v7] [vL x0, vL x1] I := runs_to (ins_of mI_47 (by rfl)) rfl rfl
theorem r47_34 : runs cal 47 34 [v0, v1, v2, v3, v4, v5, v6, v7] [vL x0, vL x1] I = if x0 = 0 then none else runs cal 47 35 [v0, v1, v2, v3, v4, v5, v6, v7] [vL (lrem x1 x0)] I := st_nzL (ins_of mI_47 (by rfl)) rfl rfl
theorem r47_35 : runs cal 47 35 [v0, v1, vI u, v3, v4, v5, v6, v7] [vL x0] I = runs cal 47 36 [v0, v1, vI u, vL x0, vR 0, v5, v6, v7] [] I := runs_to (ins_of mI_47 (by rfl)) rfl rfl
theorem r47_36 : runs cal 47 36 [v0, v1, v2, v3, v4, vI w, v6, v7] [] I = runs cal 47 39 [v0, v1, v2, v3, kill v4, vI (iadd w (-1)), v6, v7] [] I := runs_to (ins_of mI_47 (by rfl)) rfl rfl
theorem r47_39 : runs cal 47 39 [v0, v1, v2, v3, v4, v5, v6, v7] [] I = runs cal 47 5 [v0, v1, v2, v3, v4, v5, v6, v7] [] I := st_goto (ins_of mI_47 (by rfl)) (by decide)
theorem r47_42 : runs cal 47 42 [v0, v1, v2, v3, v4, v5, v6, v7] [] I = some (none, I) := st_ret (q := none) (k := 3) (ins_of mI_47 (by rfl)) rfl (by decide) mR_47 rfl trivial
theorem r47_14a : runs cal 47 14 [v0, vR 38, v2, v3, v4, v5, v6, v7] [vL x0] I = runs cal 47 15 [v0, vR 38, v2, v3, v4, v5, v6, v7] [vR 38, vL x0] I := runs_to (ins_of mI_47 (by rfl)) rfl rfl
theorem r47_15a : runs cal 47 15 [v0, v1, v2, v3, v4, vI w, v6, v7] [vR 38, vL x1] I = runs cal 47 17 [v0, v1, v2, v3, v4, vI w, v6, v7] [vI w, vR 38, vL x1] I := runs_to (ins_of mI_47 (by rfl)) rfl rfl
theorem r47_17a : runs cal 47 17 [v0, v1, v2, v3, v4, v5, v6, v7] [vI x0, vR 38, vL x2] I = if 0 ≤ x0 ∧ x0 < 4 then runs cal 47 18 [v0, v1, v2, v3, v4, v5, v6, v7] [vL (I 38 x0), vL x2] I else none := st_lald (ins_of mI_47 (by rfl)) cT_38 (wdc wid_47 wd_38)
theorem r47_21a : runs cal 47 21 [v0, vR 38, v2, v3, v4, v5, v6, v7] [] I = runs cal 47 22 [v0, vR 38, v2, v3, v4, v5, v6, v7] [vR 38] I := runs_to (ins_of mI_47 (by rfl)) rfl rfl
theorem r47_22a : runs cal 47 22 [v0, v1, v2, v3, v4, vI w, v6, v7] [vR 38] I = runs cal 47 24 [v0, v1, v2, v3, v4, vI w, v6, v7] [vI w, vR 38] I := runs_to (ins_of mI_47 (by rfl)) rfl rfl
theorem r47_24a : runs cal 47 24 [v0, v1, v2, v3, v4, v5, vL w, v7] [vI x0, vR 38] I = runs cal 47 26 [v0, v1, v2, v3, v4, v5, vL w, v7] [vL w, vI x0, vR 38] I := runs_to (ins_of mI_47 (by rfl)) rfl rfl
theorem r47_26a : runs cal 47 26 [v0, v1, vI w, v3, v4, v5, v6, v7] [vL x0, vI x1, vR 38] I = runs cal 47 27 [v0, v1, vI w, v3, v4, v5, v6, v7] [vI w, vL x0, vI x1, vR 38] I := runs_to (ins_of mI_47 (by rfl)) rfl rfl
theorem r47_27a : runs cal 47 27 [v0, v1, v2, v3, v4, v5, v6, v7] [vI x0, vL x1, vI x2, vR 38] I = runs cal 47 28 [v0, v1, v2, v3, v4, v5, v6, v7] [vL x0, vL x1, vI x2, vR 38] I := runs_to (ins_of mI_47 (by rfl)) rfl rfl
theorem r47_28a : runs cal 47 28 [v0, v1, v2, v3, v4, v5, v6, v7] [vL x0, vL x1, vI x2, vR 38] I = if x0 = 0 then none else runs cal 47 29 [v0, v1, v2, v3, v4, v5, v6, v7] [vL (ldiv x1 x0), vI x2, vR 38] I := st_nzL (ins_of mI_47 (by rfl)) rfl rfl
theorem r47_29a : runs cal 47 29 [v0, v1, v2, v3, v4, v5, v6, v7] [vL x0, vI x1, vR 38] I = if 0 ≤ x1 ∧ x1 < 4 then runs cal 47 30 [v0, v1, v2, v3, v4, v5, v6, v7] [] (mset I 38 x1 x0) else none := st_last (ins_of mI_47 (by rfl)) cT_38 (wdc wid_47 wd_38)
theorem r48_0 : runs cal 48 0 [v0, v1, v2] [] I = runs cal 48 1 [v0, v1, v2] [vI (4)] I := runs_to (ins_of mI_48 (by rfl)) rfl rfl
theorem r48_1 : runs cal 48 1 [v0, vR b0, v2] [vI x0] I = runs cal 48 2 [v0, vR b0, vI x0] [] I := runs_to (ins_of mI_48 (by rfl)) rfl rfl
theorem r48_2 : runs cal 48 2 [v0, v1, vI w] [] I = runs cal 48 3 [v0, v1, vI w] [vI w] I := runs_to (ins_of mI_48 (by rfl)) rfl rfl
theorem r48_3 : runs cal 48 3 [v0, v1, v2] [vI x0] I = if 0 < x0 then runs cal 48 6 [v0, v1, v2] [] I else runs cal 48 22 [v0, v1, v2] [] I := st_if_le (ins_of mI_48 (by rfl)) (by decide)
theorem r48_6 : runs cal 48 6 [v0, vR 37, v2] [] I = runs cal 48 7 [v0, vR 37, v2] [vR 37] I := runs_to (ins_of mI_48 (by rfl)) rfl rfl
theorem r48_7 : runs cal 48 7 [v0, v1, vI w] [vR 37] I = runs cal 48 8 [v0, v1, vI w] [vI w, vR 37] I := runs_to (ins_of mI_48 (by rfl)) rfl rfl
theorem r48_8 : runs cal 48 8 [v0, v1, v2] [vI x0, vR 37] I = runs cal 48 9 [v0, v1, v2] [vI (1), vI x0, vR 37] I := runs_to (ins_of mI_48 (by rfl)) rfl rfl
theorem r48_9 : runs cal 48 9 [v0, v1, v2] [vI x0, vI x1, vR 37] I = runs cal 48 10 [v0, v1, v2] [vI (isub x1 x0), vR 37] I := runs_to (ins_of mI_48 (by rfl)) rfl rfl
theorem r48_10 : runs cal 48 10 [v0, v1, v2] [vI x0, vR 37] I = if 0 ≤ x0 ∧ x0 < 4 then runs cal 48 11 [v0, v1, v2] [vL (I 37 x0)] I else none := st_lald (ins_of mI_48 (by rfl)) cT_37 (wdc wid_48 wd_37)
theorem r48_11 : runs cal 48 11 [v0, v1, v2] [vL x0] I = runs cal 48 12 [v0, v1, v2] [vL 0, vL x0] I := runs_to (ins_of mI_48 (by rfl)) rfl rfl
theorem r48_12 : runs cal 48 12 [v0, v1, v2] [vL x0, vL x1] I = if x1 = x0 then runs cal 48 16 [v0, v1, v2] [] I else runs cal 48 22 [v0, v1, v2] [] I := st_lc_ne (ins_of mI_48 (by rfl)) (ins_of mI_48 (by rfl)) (by decide)
theorem r48_13 : runs cal 48 13 [v0, v1, v2] [vI x0] I = if x0 = 0 then runs cal 48 16 [v0, v1, v2] [] I else runs cal 48 22 [v0, v1, v2] [] I := st_if_ne (ins_of mI_48 (by rfl)) (by decide)
theorem r48_16 : runs cal 48 16 [v0, vR b0, vI w] [] I = runs cal 48 19 [v0, vR b0, vI (iadd w (-1))] [] I := runs_to (ins_of mI_48 (by rfl)) rfl rfl
theorem r48_19 : runs cal 48 19 [v0, v1, v2] [] I = runs cal 48 2 [v0, v1, v2] [] I := st_goto (ins_of mI_48 (by rfl)) (by decide)
theorem r48_22 : runs cal 48 22 [v0, v1, vI w] [] I = runs cal 48 23 [v0, v1, vI w] [vI w] I := runs_to (ins_of mI_48 (by rfl)) rfl rfl
theorem r48_23 : runs cal 48 23 [v0, v1, v2] [vI x0] I = some (some (vI x0), I) := st_ret (q := some (vI x0)) (k := 0) (ins_of mI_48 (by rfl)) rfl (by decide) mR_48 rfl trivial
theorem r48_6a : runs cal 48 6 [v0, vR 38, v2] [] I = runs cal 48 7 [v0, vR 38, v2] [vR 38] I := runs_to (ins_of mI_48 (by rfl)) rfl rfl
theorem r48_7a : runs cal 48 7 [v0, v1, vI w] [vR 38] I = runs cal 48 8 [v0, v1, vI w] [vI w, vR 38] I := runs_to (ins_of mI_48 (by rfl)) rfl rfl
theorem r48_8a : runs cal 48 8 [v0, v1, v2] [vI x0, vR 38] I = runs cal 48 9 [v0, v1, v2] [vI (1), vI x0, vR 38] I := runs_to (ins_of mI_48 (by rfl)) rfl rfl
theorem r48_9a : runs cal 48 9 [v0, v1, v2] [vI x0, vI x1, vR 38] I = runs cal 48 10 [v0, v1, v2] [vI (isub x1 x0), vR 38] I := runs_to (ins_of mI_48 (by rfl)) rfl rfl
theorem r48_10a : runs cal 48 10 [v0, v1, v2] [vI x0, vR 38] I = if 0 ≤ x0 ∧ x0 < 4 then runs cal 48 11 [v0, v1, v2] [vL (I 38 x0)] I else none := st_lald (ins_of mI_48 (by rfl)) cT_38 (wdc wid_48 wd_38)
theorem r49_0 : runs cal 49 0 [v0, vI w] [] I = runs cal 49 1 [v0, vI w] [vI w] I := runs_to (ins_of mI_49 (by rfl)) rfl rfl
theorem r49_1 : runs cal 49 1 [v0, v1] [vI x0] I = if x0 < 0 then runs cal 49 22 [v0, v1] [] I else runs cal 49 4 [v0, v1] [] I := st_if_lt (ins_of mI_49 (by rfl)) (by decide)
theorem r49_4 : runs cal 49 4 [v0, vI w] [] I = runs cal 49 5 [v0, vI w] [vI w] I := runs_to (ins_of mI_49 (by rfl)) rfl rfl
theorem r49_5 : runs cal 49 5 [vR 36, v1] [vI x0] I = runs cal 49 6 [vR 36, v1] [vR 36, vI x0] I := runs_to (ins_of mI_49 (by rfl)) rfl rfl
theorem r49_6 : runs cal 49 6 [v0, v1] [vR 36, vI x1] I = runs cal 49 9 [v0, v1] [vI (I 36 3), vI x1] I := st_getI (ins_of mI_49 (by rfl)) mC_49 (by decide) fr_1_49 cT_36 (wdc wid_49 wd_36) (Or.inl rfl)
theorem r49_9 : runs cal 49 9 [v0, v1] [vI x0, vI x1] I = if x1 < x0 then runs cal 49 12 [v0, v1] [] I else runs cal 49 22 [v0, v1] [] I := st_cmp_ge (ins_of mI_49 (by rfl)) (by decide)
theorem r49_12 : runs cal 49 12 [vR 36, v1] [] I = runs cal 49 13 [vR 36, v1] [vR 36] I := runs_to (ins_of mI_49 (by rfl)) rfl rfl
theorem r49_13 : runs cal 49 13 [v0, v1] [vR 36] I = runs cal 49 16 [v0, v1] [vR 37] I := st_getR (ins_of mI_49 (by rfl)) mC_49 (by decide) fr_1_11 cT_36 (wdc wid_49 wd_36) rfl rfl
theorem r49_16 : runs cal 49 16 [v0, vI w] [vR 37] I = runs cal 49 17 [v0, vI w] [vI w, vR 37] I := runs_to (ins_of mI_49 (by rfl)) rfl rfl
theorem r49_17 : runs cal 49 17 [v0, v1] [vI x0, vR 37] I = if 0 ≤ x0 ∧ x0 < 4 then runs cal 49 18 [v0, v1] [vL (I 37 x0)] I else none := st_lald (ins_of mI_49 (by rfl)) cT_37 (wdc wid_49 wd_37)
theorem r49_18 : runs cal 49 18 [v0, v1] [vL x0] I = runs cal 49 19 [v0, v1] [vI (l2i x0)] I := runs_to (ins_of mI_49 (by rfl)) rfl rfl
theorem r49_19 : runs cal 49 19 [v0, v1] [vI x0] I = runs cal 49 23 [v0, v1] [vI x0] I := st_goto (ins_of mI_49 (by rfl)) (by decide)
theorem r49_22 : runs cal 49 22 [v0, v1] [] I = runs cal 49 23 [v0, v1] [vI (-1)] I := runs_to (ins_of mI_49 (by rfl)) rfl rfl
theorem r49_23 : runs cal 49 23 [v0, v1] [vI x0] I = some (some (vI x0), I) := st_ret (q := some (vI x0)) (k := 0) (ins_of mI_49 (by rfl)) rfl (by decide) mR_49 rfl trivial
theorem r50_0 : runs cal 50 0 [v0, vI w] [] I = runs cal 50 1 [v0, vI w] [vI w] I := runs_to (ins_of mI_50 (by rfl)) rfl rfl
theorem r50_1 : runs cal 50 1 [v0, v1] [vI x0] I = if x0 < 0 then runs cal 50 22 [v0, v1] [] I else runs cal 50 4 [v0, v1] [] I := st_if_lt (ins_of mI_50 (by rfl)) (by decide)
theorem r50_4 : runs cal 50 4 [v0, vI w] [] I = runs cal 50 5 [v0, vI w] [vI w] I := runs_to (ins_of mI_50 (by rfl)) rfl rfl
theorem r50_5 : runs cal 50 5 [vR 36, v1] [vI x0] I = runs cal 50 6 [vR 36, v1] [vR 36, vI x0] I := runs_to (ins_of mI_50 (by rfl)) rfl rfl
theorem r50_6 : runs cal 50 6 [v0, v1] [vR 36, vI x1] I = runs cal 50 9 [v0, v1] [vI (I 36 4), vI x1] I := st_getI (ins_of mI_50 (by rfl)) mC_50 (by decide) fr_1_21 cT_36 (wdc wid_50 wd_36) (Or.inl rfl)
theorem r50_9 : runs cal 50 9 [v0, v1] [vI x0, vI x1] I = if x1 < x0 then runs cal 50 12 [v0, v1] [] I else runs cal 50 22 [v0, v1] [] I := st_cmp_ge (ins_of mI_50 (by rfl)) (by decide)
theorem r50_12 : runs cal 50 12 [vR 36, v1] [] I = runs cal 50 13 [vR 36, v1] [vR 36] I := runs_to (ins_of mI_50 (by rfl)) rfl rfl
theorem r50_13 : runs cal 50 13 [v0, v1] [vR 36] I = runs cal 50 16 [v0, v1] [vR 38] I := st_getR (ins_of mI_50 (by rfl)) mC_50 (by decide) fr_1_15 cT_36 (wdc wid_50 wd_36) rfl rfl
theorem r50_16 : runs cal 50 16 [v0, vI w] [vR 38] I = runs cal 50 17 [v0, vI w] [vI w, vR 38] I := runs_to (ins_of mI_50 (by rfl)) rfl rfl
theorem r50_17 : runs cal 50 17 [v0, v1] [vI x0, vR 38] I = if 0 ≤ x0 ∧ x0 < 4 then runs cal 50 18 [v0, v1] [vL (I 38 x0)] I else none := st_lald (ins_of mI_50 (by rfl)) cT_38 (wdc wid_50 wd_38)
theorem r50_18 : runs cal 50 18 [v0, v1] [vL x0] I = runs cal 50 19 [v0, v1] [vI (l2i x0)] I := runs_to (ins_of mI_50 (by rfl)) rfl rfl
theorem r50_19 : runs cal 50 19 [v0, v1] [vI x0] I = runs cal 50 23 [v0, v1] [vI x0] I := st_goto (ins_of mI_50 (by rfl)) (by decide)
theorem r50_22 : runs cal 50 22 [v0, v1] [] I = runs cal 50 23 [v0, v1] [vI (-1)] I := runs_to (ins_of mI_50 (by rfl)) rfl rfl
theorem r50_23 : runs cal 50 23 [v0, v1] [vI x0] I = some (some (vI x0), I) := st_ret (q := some (vI x0)) (k := 0) (ins_of mI_50 (by rfl)) rfl (by decide) mR_50 rfl trivial
theorem r51_0 : runs cal 51 0 [v0, v1, v2, v3, v4, v5] [] I = runs cal 51 3 [v0, v1, v2, v3, v4, v5] [vL (31)] I := runs_to (ins_of mI_51 (by rfl)) rfl (by simp only [stepI, ldk2, mC_51]; rfl)
theorem r51_3 : runs cal 51 3 [v0, vL w, v2, v3, v4, v5] [vL x0] I = runs cal 51 4 [v0, vL w, v2, v3, v4, v5] [vL w, vL x0] I := runs_to (ins_of mI_51 (by rfl)) rfl rfl
theorem r51_4 : runs cal 51 4 [v0, v1, v2, v3, v4, v5] [vL x0, vL x1] I = runs cal 51 5 [v0, v1, v2, v3, v4, v5] [vL (lmul x1 x0)] I := runs_to (ins_of mI_51 (by rfl)) rfl rfl
theorem r51_5 : runs cal 51 5 [vR 36, v1, v2, v3, v4, v5] [vL x0] I = runs cal 51 6 [vR 36, v1, v2, v3, v4, v5] [vR 36, vL x0] I := runs_to (ins_of mI_51 (by rfl)) rfl rfl
theorem r51_6 : runs cal 51 6 [v0, v1, v2, v3, v4, v5] [vR 36, vL x1] I = runs cal 51 9 [v0, v1, v2, v3, v4, v5] [vI (I 36 3), vL x1] I := st_getI (ins_of mI_51 (by rfl)) mC_51 (by decide) fr_1_49 cT_36 (wdc wid_51 wd_36) (Or.inl rfl)
theorem r51_9 : runs cal 51 9 [v0, v1, v2, v3, v4, v5] [vI x0, vL x1] I = if x0 = 0 then runs cal 51 12 [v0, v1, v2, v3, v4, v5] [vL x1] I else runs cal 51 16 [v0, v1, v2, v3, v4, v5] [vL x1] I := st_if_ne (ins_of mI_51 (by rfl)) (by decide)
theorem r51_12 : runs cal 51 12 [v0, v1, v2, v3, v4, v5] [vL x0] I = runs cal 51 13 [v0, v1, v2, v3, v4, v5] [vI (0), vL x0] I := runs_to (ins_of mI_51 (by rfl)) rfl rfl
theorem r51_13 : runs cal 51 13 [v0, v1, v2, v3, v4, v5] [vI x0, vL x1] I = runs cal 51 17 [v0, v1, v2, v3, v4, v5] [vI x0, vL x1] I := st_goto (ins_of mI_51 (by rfl)) (by decide)
theorem r51_16 : runs cal 51 16 [v0, v1, v2, v3, v4, v5] [vL x0] I = runs cal 51 17 [v0, v1, v2, v3, v4, v5] [vI (1), vL x0] I := runs_to (ins_of mI_51 (by rfl)) rfl rfl
theorem r51_17 : runs cal 51 17 [v0, v1, v2, v3, v4, v5] [vI x0, vL x1] I = runs cal 51 18 [v0, v1, v2, v3, v4, v5] [vL x0, vL x1] I := runs_to (ins_of mI_51 (by rfl)) rfl rfl
theorem r51_18 : runs cal 51 18 [v0, v1, v2, v3, v4, v5] [vL x0, vL x1] I = runs cal 51 19 [v0, v1, v2, v3, v4, v5] [vL (ladd x1 x0)] I := runs_to (ins_of mI_51 (by rfl)) rfl rfl
theorem r51_19 : runs cal 51 19 [v0, v1, v2, v3, v4, v5] [vL x0] I = runs cal 51 20 [v0, v1, kill v2, vL x0, vR 0, v5] [] I := runs_to (ins_of mI_51 (by rfl)) rfl rfl
theorem r51_20 : runs cal 51 20 [v0, v1, v2, v3, v4, v5] [] I = runs cal 51 23 [v0, v1, v2, v3, v4, v5] [vL (31)] I := runs_to (ins_of mI_51 (by rfl)) rfl (by simp only [stepI, ldk2, mC_51]; rfl)
theorem r51_23 : runs cal 51 23 [v0, v1, v2, vL w, v4, v5] [vL x0] I = runs cal 51 24 [v0, v1, v2, vL w, v4, v5] [vL w, vL x0] I := runs_to (ins_of mI_51 (by rfl)) rfl rfl
theorem r51_24 : runs cal 51 24 [v0, v1, v2, v3, v4, v5] [vL x0, vL x1] I = runs cal 51 25 [v0, v1, v2, v3, v4, v5] [vL (lmul x1 x0)] I := runs_to (ins_of mI_51 (by rfl)) rfl rfl
theorem r51_25 : runs cal 51 25 [vR 36, v1, v2, v3, v4, v5] [vL x0] I = runs cal 51 26 [vR 36, v1, v2, v3, v4, v5] [vR 36, vL x0] I := runs_to (ins_of mI_51 (by rfl)) rfl rfl
theorem r51_26 : runs cal 51 26 [v0, v1, v2, v3, v4, v5] [vR 36, vL x1] I = runs cal 51 29 [v0, v1, v2, v3, v4, v5] [vI (I 36 3), vL x1] I := st_getI (ins_of mI_51 (by rfl)) mC_51 (by decide) fr_1_49 cT_36 (wdc wid_51 wd_36) (Or.inl rfl)
theorem r51_29 : runs cal 51 29 [v0, v1, v2, v3, v4, v5] [vI x0, vL x1] I = runs cal 51 30 [v0, v1, v2, v3, v4, v5] [vL x0, vL x1] I := runs_to (ins_of mI_51 (by rfl)) rfl rfl
theorem r51_30 : runs cal 51 30 [v0, v1, v2, v3, v4, v5] [vL x0, vL x1] I = runs cal 51 31 [v0, v1, v2, v3, v4, v5] [vL (ladd x1 x0)] I := runs_to (ins_of mI_51 (by rfl)) rfl rfl
theorem r51_31 : runs cal 51 31 [v0, v1, v2, v3, v4, v5] [vL x0] I = runs cal 51 32 [v0, v1, kill v2, vL x0, vR 0, v5] [] I := runs_to (ins_of mI_51 (by rfl)) rfl rfl
theorem r51_32 : runs cal 51 32 [v0, v1, v2, v3, v4, v5] [] I = runs cal 51 35 [v0, v1, v2, v3, v4, v5] [vL (31)] I := runs_to (ins_of mI_51 (by rfl)) rfl (by simp only [stepI, ldk2, mC_51]; rfl)
theorem r51_35 : runs cal 51 35 [v0, v1, v2, vL w, v4, v5] [vL x0] I = runs cal 51 36 [v0, v1, v2, vL w, v4, v5] [vL w, vL x0] I := runs_to (ins_of mI_51 (by rfl)) rfl rfl
theorem r51_36 : runs cal 51 36 [v0, v1, v2, v3, v4, v5] [vL x0, vL x1] I = runs cal 51 37 [v0, v1, v2, v3, v4, v5] [vL (lmul x1 x0)] I := runs_to (ins_of mI_51 (by rfl)) rfl rfl
theorem r51_37 : runs cal 51 37 [vR 36, v1, v2, v3, v4, v5] [vL x0] I = runs cal 51 38 [vR 36, v1, v2, v3, v4, v5] [vR 36, vL x0] I := runs_to (ins_of mI_51 (by rfl)) rfl rfl
theorem r51_38 : runs cal 51 38 [v0, v1, v2, v3, v4, v5] [vR 36, vL x1] I = runs cal 51 41 [v0, v1, v2, v3, v4, v5] [vI (I 36 4), vL x1] I := st_getI (ins_of mI_51 (by rfl)) mC_51 (by decide) fr_1_21 cT_36 (wdc wid_51 wd_36) (Or.inl rfl)
theorem r51_41 : runs cal 51 41 [v0, v1, v2, v3, v4, v5] [vI x0, vL x1] I = runs cal 51 42 [v0, v1, v2, v3, v4, v5] [vL x0, vL x1] I := runs_to (ins_of mI_51 (by rfl)) rfl rfl
theorem r51_42 : runs cal 51 42 [v0, v1, v2, v3, v4, v5] [vL x0, vL x1] I = runs cal 51 43 [v0, v1, v2, v3, v4, v5] [vL (ladd x1 x0)] I := runs_to (ins_of mI_51 (by rfl)) rfl rfl
theorem r51_43 : runs cal 51 43 [v0, v1, v2, v3, v4, v5] [vL x0] I = runs cal 51 44 [v0, v1, kill v2, vL x0, vR 0, v5] [] I := runs_to (ins_of mI_51 (by rfl)) rfl rfl
theorem r51_44 : runs cal 51 44 [v0, v1, v2, v3, v4, v5] [] I = runs cal 51 45 [v0, v1, v2, v3, v4, v5] [vI (0)] I := runs_to (ins_of mI_51 (by rfl)) rfl rfl
theorem r51_45 : runs cal 51 45 [v0, v1, v2, v3, v4, v5] [vI x0] I = runs cal 51 47 [v0, v1, v2, v3, kill v4, vI x0] [] I := runs_to (ins_of mI_51 (by rfl)) rfl rfl
theorem r51_47 : runs cal 51 47 [v0, v1, v2, v3, v4, vI w] [] I = runs cal 51 49 [v0, v1, v2, v3, v4, vI w] [vI w] I := runs_to (ins_of mI_51 (by rfl)) rfl rfl
theorem r51_49 : runs cal 51 49 [vR 36, v1, v2, v3, v4, v5] [vI x0] I = runs cal 51 50 [vR 36, v1, v2, v3, v4, v5] [vR 36, vI x0] I := runs_to (ins_of mI_51 (by rfl)) rfl rfl
theorem r51_50 : runs cal 51 50 [v0, v1, v2, v3, v4, v5] [vR 36, vI x1] I = runs cal 51 53 [v0, v1, v2, v3, v4, v5] [vI (I 36 3), vI x1] I := st_getI (ins_of mI_51 (by rfl)) mC_51 (by decide) fr_1_49 cT_36 (wdc wid_51 wd_36) (Or.inl rfl)
theorem r51_53 : runs cal 51 53 [v0, v1, v2, v3, v4, v5] [vI x0, vI x1] I = if x1 < x0 then runs cal 51 56 [v0, v1, v2, v3, v4, v5] [] I else runs cal 51 76 [v0, v1, v2, v3, v4, v5] [] I := st_cmp_ge (ins_of mI_51 (by rfl)) (by decide)
theorem r51_56 : runs cal 51 56 [v0, v1, v2, v3, v4, v5] [] I = runs cal 51 59 [v0, v1, v2, v3, v4, v5] [vL (31)] I := runs_to (ins_of mI_51 (by rfl)) rfl (by simp only [stepI, ldk2, mC_51]; rfl)
theorem r51_59 : runs cal 51 59 [v0, v1, v2, vL w, v4, v5] [vL x0] I = runs cal 51 60 [v0, v1, v2, vL w, v4, v5] [vL w, vL x0] I := runs_to (ins_of mI_51 (by rfl)) rfl rfl
theorem r51_60 : runs cal 51 60 [v0, v1, v2, v3, v4, v5] [vL x0, vL x1] I = runs cal 51 61 [v0, v1, v2, v3, v4, v5] [vL (lmul x1 x0)] I := runs_to (ins_of mI_51 (by rfl)) rfl rfl
theorem r51_61 : runs cal 51 61 [vR 36, v1, v2, v3, v4, v5] [vL x0] I = runs cal 51 62 [vR 36, v1, v2, v3, v4, v5] [vR 36, vL x0] I := runs_to (ins_of mI_51 (by rfl)) rfl rfl
theorem r51_62 : runs cal 51 62 [v0, v1, v2, v3, v4, vI w] [vR 36, vL x1] I = runs cal 51 64 [v0, v1, v2, v3, v4, vI w] [vI w, vR 36, vL x1] I := runs_to (ins_of mI_51 (by rfl)) rfl rfl
theorem r51_64 : runs cal 51 64 [v0, v1, v2, v3, v4, v5] [vI x0, vR 36, vL x2] I = (cal 49 [vR 36, vI x0] I).bind (fun q => runs cal 51 67 [v0, v1, v2, v3, v4, v5] (pushR q.1 [vL x2]) q.2) := st_call (st := false) (ins_of mI_51 (by rfl)) mC_51 mr_1_67 (by decide) mS_49 mN_49 rfl (Nat.le_of_ble_eq_true rfl) rfl rfl (Or.inr ⟨_, _, rfl, rcv mC_49 rfl wid_51 (by decide +kernel)⟩) (Or.inl (wid_51.trans wid_49.symm))
theorem r51_67 : runs cal 51 67 [v0, v1, v2, v3, v4, v5] [vI x0, vL x1] I = runs cal 51 68 [v0, v1, v2, v3, v4, v5] [vL x0, vL x1] I := runs_to (ins_of mI_51 (by rfl)) rfl rfl
theorem r51_68 : runs cal 51 68 [v0, v1, v2, v3, v4, v5] [vL x0, vL x1] I = runs cal 51 69 [v0, v1, v2, v3, v4, v5] [vL (ladd x1 x0)] I := runs_to (ins_of mI_51 (by rfl)) rfl rfl
theorem r51_69 : runs cal 51 69 [v0, v1, v2, v3, v4, v5] [vL x0] I = runs cal 51 70 [v0, v1, kill v2, vL x0, vR 0, v5] [] I := runs_to (ins_of mI_51 (by rfl)) rfl rfl
theorem r51_70 : runs cal 51 70 [v0, v1, v2, v3, v4, vI w] [] I = runs cal 51 73 [v0, v1, v2, v3, kill v4, vI (iadd w (1))] [] I := runs_to (ins_of mI_51 (by rfl)) rfl rfl
theorem r51_73 : runs cal 51 73 [v0, v1, v2, v3, v4, v5] [] I = runs cal 51 47 [v0, v1, v2, v3, v4, v5] [] I := st_goto (ins_of mI_51 (by rfl)) (by decide)
theorem r51_76 : runs cal 51 76 [v0, v1, v2, v3, v4, v5] [] I = runs cal 51 77 [v0, v1, v2, v3, v4, v5] [vI (0)] I := runs_to (ins_of mI_51 (by rfl)) rfl rfl
theorem r51_77 : runs cal 51 77 [v0, v1, v2, v3, v4, v5] [vI x0] I = runs cal 51 79 [v0, v1, v2, v3, kill v4, vI x0] [] I := runs_to (ins_of mI_51 (by rfl)) rfl rfl
theorem r51_79 : runs cal 51 79 [v0, v1, v2, v3, v4, vI w] [] I = runs cal 51 81 [v0, v1, v2, v3, v4, vI w] [vI w] I := runs_to (ins_of mI_51 (by rfl)) rfl rfl
theorem r51_81 : runs cal 51 81 [vR 36, v1, v2, v3, v4, v5] [vI x0] I = runs cal 51 82 [vR 36, v1, v2, v3, v4, v5] [vR 36, vI x0] I := runs_to (ins_of mI_51 (by rfl)) rfl rfl
theorem r51_82 : runs cal 51 82 [v0, v1, v2, v3, v4, v5] [vR 36, vI x1] I = runs cal 51 85 [v0, v1, v2, v3, v4, v5] [vI (I 36 4), vI x1] I := st_getI (ins_of mI_51 (by rfl)) mC_51 (by decide) fr_1_21 cT_36 (wdc wid_51 wd_36) (Or.inl rfl)
theorem r51_85 : runs cal 51 85 [v0, v1, v2, v3, v4, v5] [vI x0, vI x1] I = if x1 < x0 then runs cal 51 88 [v0, v1, v2, v3, v4, v5] [] I else runs cal 51 108 [v0, v1, v2, v3, v4, v5] [] I := st_cmp_ge (ins_of mI_51 (by rfl)) (by decide)
theorem r51_88 : runs cal 51 88 [v0, v1, v2, v3, v4, v5] [] I = runs cal 51 91 [v0, v1, v2, v3, v4, v5] [vL (31)] I := runs_to (ins_of mI_51 (by rfl)) rfl (by simp only [stepI, ldk2, mC_51]; rfl)
theorem r51_91 : runs cal 51 91 [v0, v1, v2, vL w, v4, v5] [vL x0] I = runs cal 51 92 [v0, v1, v2, vL w, v4, v5] [vL w, vL x0] I := runs_to (ins_of mI_51 (by rfl)) rfl rfl
theorem r51_92 : runs cal 51 92 [v0, v1, v2, v3, v4, v5] [vL x0, vL x1] I = runs cal 51 93 [v0, v1, v2, v3, v4, v5] [vL (lmul x1 x0)] I := runs_to (ins_of mI_51 (by rfl)) rfl rfl
theorem r51_93 : runs cal 51 93 [vR 36, v1, v2, v3, v4, v5] [vL x0] I = runs cal 51 94 [vR 36, v1, v2, v3, v4, v5] [vR 36, vL x0] I := runs_to (ins_of mI_51 (by rfl)) rfl rfl
theorem r51_94 : runs cal 51 94 [v0, v1, v2, v3, v4, vI w] [vR 36, vL x1] I = runs cal 51 96 [v0, v1, v2, v3, v4, vI w] [vI w, vR 36, vL x1] I := runs_to (ins_of mI_51 (by rfl)) rfl rfl
theorem r51_96 : runs cal 51 96 [v0, v1, v2, v3, v4, v5] [vI x0, vR 36, vL x2] I = (cal 50 [vR 36, vI x0] I).bind (fun q => runs cal 51 99 [v0, v1, v2, v3, v4, v5] (pushR q.1 [vL x2]) q.2) := st_call (st := false) (ins_of mI_51 (by rfl)) mC_51 mr_1_71 (by decide) mS_50 mN_50 rfl (Nat.le_of_ble_eq_true rfl) rfl rfl (Or.inr ⟨_, _, rfl, rcv mC_50 rfl wid_51 (by decide +kernel)⟩) (Or.inl (wid_51.trans wid_50.symm))
theorem r51_99 : runs cal 51 99 [v0, v1, v2, v3, v4, v5] [vI x0, vL x1] I = runs cal 51 100 [v0, v1, v2, v3, v4, v5] [vL x0, vL x1] I := runs_to (ins_of mI_51 (by rfl)) rfl rfl
theorem r51_100 : runs cal 51 100 [v0, v1, v2, v3, v4, v5] [vL x0, vL x1] I = runs cal 51 101 [v0, v1, v2, v3, v4, v5] [vL (ladd x1 x0)] I := runs_to (ins_of mI_51 (by rfl)) rfl rfl
theorem r51_101 : runs cal 51 101 [v0, v1, v2, v3, v4, v5] [vL x0] I = runs cal 51 102 [v0, v1, kill v2, vL x0, vR 0, v5] [] I := runs_to (ins_of mI_51 (by rfl)) rfl rfl
theorem r51_102 : runs cal 51 102 [v0, v1, v2, v3, v4, vI w] [] I = runs cal 51 105 [v0, v1, v2, v3, kill v4, vI (iadd w (1))] [] I := runs_to (ins_of mI_51 (by rfl)) rfl rfl
theorem r51_105 : runs cal 51 105 [v0, v1, v2, v3, v4, v5] [] I = runs cal 51 79 [v0, v1, v2, v3, v4, v5] [] I := st_goto (ins_of mI_51 (by rfl)) (by decide)
theorem r51_108 : runs cal 51 108 [v0, v1, v2, vL w, v4, v5] [] I = runs cal 51 109 [v0, v1, v2, vL w, v4, v5] [vL w] I := runs_to (ins_of mI_51 (by rfl)) rfl rfl
theorem r51_109 : runs cal 51 109 [v0, v1, v2, v3, v4, v5] [vL x0] I = some (some (vL x0), I) := st_ret (q := some (vL x0)) (k := 1) (ins_of mI_51 (by rfl)) rfl (by decide) mR_51 rfl trivial
theorem r52_0 : runs cal 52 0 [vR 34, v1, v2, v3, v4, v5, v6] [] I = runs cal 52 1 [vR 34, v1, v2, v3, v4, v5, v6] [vR 34] I := runs_to (ins_of mI_52 (by rfl)) rfl rfl
theorem r52_1 : runs cal 52 1 [v0, vR 2, v2, v3, v4, v5, v6] [vR 34] I = runs cal 52 2 [v0, vR 2, v2, v3, v4, v5, v6] [vR 2, vR 34] I := runs_to (ins_of mI_52 (by rfl)) rfl rfl
theorem r52_2 : runs cal 52 2 [v0, v1, v2, v3, v4, v5, v6] [vR 2, vR 34] I = runs cal 52 5 [v0, v1, v2, v3, v4, v5, v6] [vI (I 2 4), vR 34] I := st_getI (ins_of mI_52 (by rfl)) mC_52 (by decide) fr_3_22 cT_2 (wdc wid_52 wd_2) (Or.inl rfl)
theorem r52_5 : runs cal 52 5 [v0, v1, v2, v3, v4, v5, v6] [vI x0, vR 34] I = runs cal 52 8 [v0, v1, v2, v3, v4, v5, v6] [] (mset I 34 1 x0) := st_putI (ins_of mI_52 (by rfl)) mC_52 fr_3_27 cT_34 (wdc wid_52 wd_34) rfl
theorem r52_8 : runs cal 52 8 [vR 34, v1, v2, v3, v4, v5, v6] [] I = runs cal 52 9 [vR 34, v1, v2, v3, v4, v5, v6] [vR 34] I := runs_to (ins_of mI_52 (by rfl)) rfl rfl
theorem r52_9 : runs cal 52 9 [v0, v1, v2, v3, v4, v5, v6] [vR 34] I = runs cal 52 10 [v0, v1, v2, v3, v4, v5, v6] [vI (-1), vR 34] I := runs_to (ins_of mI_52 (by rfl)) rfl rfl
theorem r52_10 : runs cal 52 10 [v0, v1, v2, v3, v4, v5, v6] [vI x0, vR 34] I = runs cal 52 13 [v0, v1, v2, v3, v4, v5, v6] [] (mset I 34 2 x0) := st_putI (ins_of mI_52 (by rfl)) mC_52 fr_3_18 cT_34 (wdc wid_52 wd_34) rfl
theorem r52_13 : runs cal 52 13 [vR 34, v1, v2, v3, v4, v5, v6] [] I = runs cal 52 14 [vR 34, v1, v2, v3, v4, v5, v6] [vR 34] I := runs_to (ins_of mI_52 (by rfl)) rfl rfl
theorem r52_14 : runs cal 52 14 [v0, v1, v2, v3, v4, v5, v6] [vR 34] I = runs cal 52 15 [v0, v1, v2, v3, v4, v5, v6] [vI (0), vR 34] I := runs_to (ins_of mI_52 (by rfl)) rfl rfl
theorem r52_15 : runs cal 52 15 [v0, v1, v2, v3, v4, v5, v6] [vI x0, vR 34] I = runs cal 52 18 [v0, v1, v2, v3, v4, v5, v6] [] (mset I 34 3 x0) := st_putI (ins_of mI_52 (by rfl)) mC_52 fr_3_30 cT_34 (wdc wid_52 wd_34) rfl
theorem r52_18 : runs cal 52 18 [v0, v1, vR 21, v3, v4, v5, v6] [] I = runs cal 52 19 [v0, v1, vR 21, v3, v4, v5, v6] [vR 21] I := runs_to (ins_of mI_52 (by rfl)) rfl rfl
theorem r52_19 : runs cal 52 19 [v0, v1, v2, v3, v4, v5, v6] [vR 21] I = (cal 62 [vR 21] I).bind (fun q => runs cal 52 22 [v0, v1, v2, v3, v4, v5, v6] (pushR q.1 []) q.2) := st_call (st := false) (ins_of mI_52 (by rfl)) mC_52 mr_3_33 (by decide) mS_62 mN_62 rfl (Nat.le_of_ble_eq_true rfl) rfl rfl (Or.inr ⟨_, _, rfl, rcv mC_62 rfl wid_52 (by decide +kernel)⟩) (Or.inl (wid_52.trans wid_62.symm))
theorem r52_22 : runs cal 52 22 [v0, v1, v2, v3, v4, v5, v6] [vI x0] I = runs cal 52 23 [v0, v1, v2, v3, v4, v5, v6] [vI (-1), vI x0] I := runs_to (ins_of mI_52 (by rfl)) rfl rfl
theorem r52_23 : runs cal 52 23 [v0, v1, v2, v3, v4, v5, v6] [vI x0, vI x1] I = if x1 = x0 then runs cal 52 30 [v0, v1, v2, v3, v4, v5, v6] [] I else runs cal 52 26 [v0, v1, v2, v3, v4, v5, v6] [] I := st_cmp_eq (ins_of mI_52 (by rfl)) (by decide)
theorem r52_26 : runs cal 52 26 [v0, v1, v2, v3, v4, v5, v6] [] I = runs cal 52 27 [v0, v1, v2, v3, v4, v5, v6] [vI (1)] I := runs_to (ins_of mI_52 (by rfl)) rfl rfl
theorem r52_27 : runs cal 52 27 [v0, v1, v2, v3, v4, v5, v6] [vI x0] I = runs cal 52 31 [v0, v1, v2, v3, v4, v5, v6] [vI x0] I := st_goto (ins_of mI_52 (by rfl)) (by decide)
theorem r52_30 : runs cal 52 30 [v0, v1, v2, v3, v4, v5, v6] [] I = runs cal 52 31 [v0, v1, v2, v3, v4, v5, v6] [vI (0)] I := runs_to (ins_of mI_52 (by rfl)) rfl rfl
theorem r52_31 : runs cal 52 31 [v0, v1, v2, vI u, v4, v5, v6] [vI x0] I = runs cal 52 33 [v0, v1, v2, vI u, vI x0, v5, v6] [] I := runs_to (ins_of mI_52 (by rfl)) rfl rfl
theorem r52_33 : runs cal 52 33 [v0, v1, v2, v3, v4, v5, v6] [] I = runs cal 52 34 [v0, v1, v2, v3, v4, v5, v6] [vI (0)] I := runs_to (ins_of mI_52 (by rfl)) rfl rfl
theorem r52_34 : runs cal 52 34 [v0, v1, v2, v3, vI u, v5, v6] [vI x0] I = runs cal 52 36 [v0, v1, v2, v3, vI u, vI x0, v6] [] I := runs_to (ins_of mI_52 (by rfl)) rfl rfl
theorem r52_36 : runs cal 52 36 [v0, v1, v2, v3, v4, vI w, v6] [] I = runs cal 52 38 [v0, v1, v2, v3, v4, vI w, v6] [vI w] I := runs_to (ins_of mI_52 (by rfl)) rfl rfl
theorem r52_38 : runs cal 52 38 [v0, v1, v2, vI w, v4, v5, v6] [vI x0] I = runs cal 52 39 [v0, v1, v2, vI w, v4, v5, v6] [vI w, vI x0] I := runs_to (ins_of mI_52 (by rfl)) rfl rfl
theorem r52_39 : runs cal 52 39 [v0, v1, v2, v3, v4, v5, v6] [vI x0, vI x1] I = if x1 < x0 then runs cal 52 42 [v0, v1, v2, v3, v4, v5, v6] [] I else runs cal 52 107 [v0, v1, v2, v3, v4, v5, v6] [] I := st_cmp_ge (ins_of mI_52 (by rfl)) (by decide)
theorem r52_42 : runs cal 52 42 [vR 34, v1, v2, v3, v4, v5, v6] [] I = runs cal 52 43 [vR 34, v1, v2, v3, v4, v5, v6] [vR 34] I := runs_to (ins_of mI_52 (by rfl)) rfl rfl
theorem r52_43 : runs cal 52 43 [v0, v1, v2, v3, v4, v5, v6] [vR 34] I = runs cal 52 46 [v0, v1, v2, v3, v4, v5, v6] [vI (I 34 2)] I := st_getI (ins_of mI_52 (by rfl)) mC_52 (by decide) fr_3_18 cT_34 (wdc wid_52 wd_34) (Or.inl rfl)
theorem r52_46 : runs cal 52 46 [v0, v1, v2, v3, v4, v5, v6] [vI x0] I = runs cal 52 47 [v0, v1, v2, v3, v4, v5, v6] [vI (-1), vI x0] I := runs_to (ins_of mI_52 (by rfl)) rfl rfl
theorem r52_47 : runs cal 52 47 [v0, v1, v2, v3, v4, v5, v6] [vI x0, vI x1] I = if x1 = x0 then runs cal 52 50 [v0, v1, v2, v3, v4, v5, v6] [] I else runs cal 52 107 [v0, v1, v2, v3, v4, v5, v6] [] I := st_cmp_ne (ins_of mI_52 (by rfl)) (by decide)
theorem r52_50 : runs cal 52 50 [v0, v1, v2, v3, v4, v5, v6] [] I = runs cal 52 51 [v0, v1, v2, v3, v4, v5, v6] [vI (0)] I := runs_to (ins_of mI_52 (by rfl)) rfl rfl
theorem r52_51 : runs cal 52 51 [v0, v1, v2, v3, v4, vI u, v6] [vI x0] I = runs cal 52 53 [v0, v1, v2, v3, v4, vI u, vI x0] [] I := runs_to (ins_of mI_52 (by rfl)) rfl rfl
theorem r52_53 : runs cal 52 53 [v0, v1, v2, v3, v4, v5, vI w] [] I = runs cal 52 55 [v0, v1, v2, v3, v4, v5, vI w] [vI w] I := runs_to (ins_of mI_52 (by rfl)) rfl rfl
theorem r52_55 : runs cal 52 55 [v0, vR 2, v2, v3, v4, v5, v6] [vI x0] I = runs cal 52 56 [v0, vR 2, v2, v3, v4, v5, v6] [vR 2, vI x0] I := runs_to (ins_of mI_52 (by rfl)) rfl rfl
theorem r52_56 : runs cal 52 56 [v0, v1, v2, v3, v4, v5, v6] [vR 2, vI x1] I = runs cal 52 59 [v0, v1, v2, v3, v4, v5, v6] [vI (I 2 2), vI x1] I := st_getI (ins_of mI_52 (by rfl)) mC_52 (by decide) fr_3_39 cT_2 (wdc wid_52 wd_2) (Or.inl rfl)
theorem r52_59 : runs cal 52 59 [v0, v1, v2, v3, v4, v5, v6] [vI x0, vI x1] I = if x1 < x0 then runs cal 52 62 [v0, v1, v2, v3, v4, v5, v6] [] I else runs cal 52 91 [v0, v1, v2, v3, v4, v5, v6] [] I := st_cmp_ge (ins_of mI_52 (by rfl)) (by decide)
theorem r52_62 : runs cal 52 62 [vR 34, v1, v2, v3, v4, v5, v6] [] I = runs cal 52 63 [vR 34, v1, v2, v3, v4, v5, v6] [vR 34] I := runs_to (ins_of mI_52 (by rfl)) rfl rfl
theorem r52_63 : runs cal 52 63 [v0, v1, v2, v3, v4, v5, v6] [vR 34] I = runs cal 52 66 [v0, v1, v2, v3, v4, v5, v6] [vI (I 34 2)] I := st_getI (ins_of mI_52 (by rfl)) mC_52 (by decide) fr_3_18 cT_34 (wdc wid_52 wd_34) (Or.inl rfl)
theorem r52_66 : runs cal 52 66 [v0, v1, v2, v3, v4, v5, v6] [vI x0] I = runs cal 52 67 [v0, v1, v2, v3, v4, v5, v6] [vI (-1), vI x0] I := runs_to (ins_of mI_52 (by rfl)) rfl rfl
theorem r52_67 : runs cal 52 67 [v0, v1, v2, v3, v4, v5, v6] [vI x0, vI x1] I = if x1 = x0 then runs cal 52 70 [v0, v1, v2, v3, v4, v5, v6] [] I else runs cal 52 91 [v0, v1, v2, v3, v4, v5, v6] [] I := st_cmp_ne (ins_of mI_52 (by rfl)) (by decide)
theorem r52_70 : runs cal 52 70 [v0, v1, v2, v3, vI w, v5, v6] [] I = runs cal 52 72 [v0, v1, v2, v3, vI w, v5, v6] [vI w] I := runs_to (ins_of mI_52 (by rfl)) rfl rfl
theorem r52_72 : runs cal 52 72 [v0, v1, v2, v3, v4, v5, v6] [vI x0] I = if x0 = 0 then runs cal 52 75 [v0, v1, v2, v3, v4, v5, v6] [] I else runs cal 52 91 [v0, v1, v2, v3, v4, v5, v6] [] I := st_if_ne (ins_of mI_52 (by rfl)) (by decide)
theorem r52_75 : runs cal 52 75 [vR 34, v1, v2, v3, v4, v5, v6] [] I = runs cal 52 76 [vR 34, v1, v2, v3, v4, v5, v6] [vR 34] I := runs_to (ins_of mI_52 (by rfl)) rfl rfl
theorem r52_76 : runs cal 52 76 [v0, vR 2, v2, v3, v4, v5, v6] [vR 34] I = runs cal 52 77 [v0, vR 2, v2, v3, v4, v5, v6] [vR 2, vR 34] I := runs_to (ins_of mI_52 (by rfl)) rfl rfl
theorem r52_77 : runs cal 52 77 [v0, v1, vR 21, v3, v4, v5, v6] [vR 2, vR 34] I = runs cal 52 78 [v0, v1, vR 21, v3, v4, v5, v6] [vR 21, vR 2, vR 34] I := runs_to (ins_of mI_52 (by rfl)) rfl rfl
theorem r52_78 : runs cal 52 78 [v0, v1, v2, v3, v4, v5, vI w] [vR 21, vR 2, vR 34] I = runs cal 52 80 [v0, v1, v2, v3, v4, v5, vI w] [vI w, vR 21, vR 2, vR 34] I := runs_to (ins_of mI_52 (by rfl)) rfl rfl
theorem r52_80 : runs cal 52 80 [v0, v1, v2, v3, v4, vI w, v6] [vI x0, vR 21, vR 2, vR 34] I = runs cal 52 82 [v0, v1, v2, v3, v4, vI w, v6] [vI w, vI x0, vR 21, vR 2, vR 34] I := runs_to (ins_of mI_52 (by rfl)) rfl rfl
theorem r52_82 : runs cal 52 82 [v0, v1, v2, v3, v4, v5, v6] [vI x0, vI x1, vR 21, vR 2, vR 34] I = (cal 53 [vR 34, vR 2, vR 21, vI x1, vI x0] I).bind (fun q => runs cal 52 85 [v0, v1, v2, v3, v4, v5, v6] (pushR q.1 []) q.2) := st_call (st := false) (ins_of mI_52 (by rfl)) mC_52 mr_3_42 (by decide) mS_53 mN_53 rfl (Nat.le_of_ble_eq_true rfl) rfl rfl (Or.inr ⟨_, _, rfl, rcv mC_53 rfl wid_52 (by decide +kernel)⟩) (Or.inl (wid_52.trans wid_53.symm))
theorem r52_85 : runs cal 52 85 [v0, v1, v2, v3, v4, vI u, vI w] [] I = runs cal 52 88 [v0, v1, v2, v3, v4, vI u, vI (iadd w (1))] [] I := runs_to (ins_of mI_52 (by rfl)) rfl rfl
theorem r52_88 : runs cal 52 88 [v0, v1, v2, v3, v4, v5, v6] [] I = runs cal 52 53 [v0, v1, v2, v3, v4, v5, v6] [] I := st_goto (ins_of mI_52 (by rfl)) (by decide)
theorem r52_91 : runs cal 52 91 [vR 34, v1, v2, v3, v4, v5, v6] [] I = runs cal 52 92 [vR 34, v1, v2, v3, v4, v5, v6] [vR 34] I := runs_to (ins_of mI_52 (by rfl)) rfl rfl
theorem r52_92 : runs cal 52 92 [v0, v1, v2, v3, v4, v5, v6] [vR 34] I = runs cal 52 93 [v0, v1, v2, v3, v4, v5, v6] [vR 34, vR 34] I := runs_to (ins_of mI_52 (by rfl)) rfl rfl
theorem r52_93 : runs cal 52 93 [v0, v1, v2, v3, v4, v5, v6] [vR 34, vR 34] I = runs cal 52 96 [v0, v1, v2, v3, v4, v5, v6] [vI (I 34 3), vR 34] I := st_getI (ins_of mI_52 (by rfl)) mC_52 (by decide) fr_3_30 cT_34 (wdc wid_52 wd_34) (Or.inl rfl)
theorem r52_96 : runs cal 52 96 [v0, v1, v2, v3, v4, v5, v6] [vI x0, vR 34] I = runs cal 52 97 [v0, v1, v2, v3, v4, v5, v6] [vI (1), vI x0, vR 34] I := runs_to (ins_of mI_52 (by rfl)) rfl rfl
theorem r52_97 : runs cal 52 97 [v0, v1, v2, v3, v4, v5, v6] [vI x0, vI x1, vR 34] I = runs cal 52 98 [v0, v1, v2, v3, v4, v5, v6] [vI (iadd x1 x0), vR 34] I := runs_to (ins_of mI_52 (by rfl)) rfl rfl
theorem r52_98 : runs cal 52 98 [v0, v1, v2, v3, v4, v5, v6] [vI x0, vR 34] I = runs cal 52 101 [v0, v1, v2, v3, v4, v5, v6] [] (mset I 34 3 x0) := st_putI (ins_of mI_52 (by rfl)) mC_52 fr_3_30 cT_34 (wdc wid_52 wd_34) rfl
theorem r52_101 : runs cal 52 101 [v0, v1, v2, v3, vI u, vI w, v6] [] I = runs cal 52 104 [v0, v1, v2, v3, vI u, vI (iadd w (1)), v6] [] I := runs_to (ins_of mI_52 (by rfl)) rfl rfl
theorem r52_104 : runs cal 52 104 [v0, v1, v2, v3, v4, v5, v6] [] I = runs cal 52 36 [v0, v1, v2, v3, v4, v5, v6] [] I := st_goto (ins_of mI_52 (by rfl)) (by decide)
theorem r52_107 : runs cal 52 107 [v0, v1, v2, v3, v4, v5, v6] [] I = some (none, I) := st_ret (q := none) (k := 3) (ins_of mI_52 (by rfl)) rfl (by decide) mR_52 rfl trivial
theorem r53_0 : runs cal 53 0 [v0, vR 2, v2, v3, v4, v5, v6, v7] [] I = runs cal 53 1 [v0, vR 2, v2, v3, v4, v5, v6, v7] [vR 2] I := runs_to (ins_of mI_53 (by rfl)) rfl rfl
theorem r53_1 : runs cal 53 1 [vR 34, v1, v2, v3, v4, v5, v6, v7] [vR 2] I = runs cal 53 2 [vR 34, v1, v2, v3, v4, v5, v6, v7] [vR 34, vR 2] I := runs_to (ins_of mI_53 (by rfl)) rfl rfl
theorem r53_2 : runs cal 53 2 [v0, v1, v2, v3, v4, v5, v6, v7] [vR 34, vR 2] I = runs cal 53 5 [v0, v1, v2, v3, v4, v5, v6, v7] [vI (I 34 1), vR 2] I := st_getI (ins_of mI_53 (by rfl)) mC_53 (by decide) fr_3_27 cT_34 (wdc wid_53 wd_34) (Or.inl rfl)
theorem r53_5 : runs cal 53 5 [v0, v1, v2, vI w, v4, v5, v6, v7] [vI x0, vR 2] I = runs cal 53 6 [v0, v1, v2, vI w, v4, v5, v6, v7] [vI w, vI x0, vR 2] I := runs_to (ins_of mI_53 (by rfl)) rfl rfl
theorem r53_6 : runs cal 53 6 [v0, v1, v2, v3, v4, v5, v6, v7] [vI x0, vI x1, vR 2] I = (cal 13 [vR 2, vI x1, vI x0] I).bind (fun q => runs cal 53 9 [v0, v1, v2, v3, v4, v5, v6, v7] (pushR q.1 []) q.2) := st_call (st := false) (ins_of mI_53 (by rfl)) mC_53 mr_3_46 (by decide) mS_13 mN_13 rfl (Nat.le_of_ble_eq_true rfl) rfl rfl (Or.inr ⟨_, _, rfl, rcv mC_13 rfl wid_53 (by decide +kernel)⟩) (Or.inl (wid_53.trans wid_13.symm))
theorem r53_9 : runs cal 53 9 [v0, v1, v2, v3, v4, v5, v6, v7] [vI x0] I = if x0 = 0 then runs cal 53 13 [v0, v1, v2, v3, v4, v5, v6, v7] [] I else runs cal 53 12 [v0, v1, v2, v3, v4, v5, v6, v7] [] I := st_if_eq (ins_of mI_53 (by rfl)) (by decide)
theorem r53_12 : runs cal 53 12 [v0, v1, v2, v3, v4, v5, v6, v7] [] I = some (none, I) := st_ret (q := none) (k := 3) (ins_of mI_53 (by rfl)) rfl (by decide) mR_53 rfl trivial
theorem r53_13 : runs cal 53 13 [vR 34, v1, v2, v3, v4, v5, v6, v7] [] I = runs cal 53 14 [vR 34, v1, v2, v3, v4, v5, v6, v7] [vR 34] I := runs_to (ins_of mI_53 (by rfl)) rfl rfl
theorem r53_14 : runs cal 53 14 [v0, vR 2, v2, v3, v4, v5, v6, v7] [vR 34] I = runs cal 53 15 [v0, vR 2, v2, v3, v4, v5, v6, v7] [vR 2, vR 34] I := runs_to (ins_of mI_53 (by rfl)) rfl rfl
theorem r53_15 : runs cal 53 15 [v0, v1, v2, vI w, v4, v5, v6, v7] [vR 2, vR 34] I = runs cal 53 16 [v0, v1, v2, vI w, v4, v5, v6, v7] [vI w, vR 2, vR 34] I := runs_to (ins_of mI_53 (by rfl)) rfl rfl
theorem r53_16 : runs cal 53 16 [v0, v1, v2, v3, vI w, v5, v6, v7] [vI x0, vR 2, vR 34] I = runs cal 53 18 [v0, v1, v2, v3, vI w, v5, v6, v7] [vI w, vI x0, vR 2, vR 34] I := runs_to (ins_of mI_53 (by rfl)) rfl rfl
theorem r53_18 : runs cal 53 18 [v0, v1, v2, v3, v4, v5, v6, v7] [vI x0, vI x1, vR 2, vR 34] I = (cal 54 [vR 34, vR 2, vI x1, vI x0] I).bind (fun q => runs cal 53 21 [v0, v1, v2, v3, v4, v5, v6, v7] (pushR q.1 []) q.2) := st_call (st := false) (ins_of mI_53 (by rfl)) mC_53 mr_3_50 (by decide) mS_54 mN_54 rfl (Nat.le_of_ble_eq_true rfl) rfl rfl (Or.inr ⟨_, _, rfl, rcv mC_54 rfl wid_53 (by decide +kernel)⟩) (Or.inl (wid_53.trans wid_54.symm))
theorem r53_21 : runs cal 53 21 [v0, v1, vR 21, v3, v4, v5, v6, v7] [] I = runs cal 53 22 [v0, v1, vR 21, v3, v4, v5, v6, v7] [vR 21] I := runs_to (ins_of mI_53 (by rfl)) rfl rfl
theorem r53_22 : runs cal 53 22 [vR 34, v1, v2, v3, v4, v5, v6, v7] [vR 21] I = runs cal 53 23 [vR 34, v1, v2, v3, v4, v5, v6, v7] [vR 34, vR 21] I := runs_to (ins_of mI_53 (by rfl)) rfl rfl
theorem r53_23 : runs cal 53 23 [v0, v1, v2, v3, v4, v5, v6, v7] [vR 34, vR 21] I = runs cal 53 26 [v0, v1, v2, v3, v4, v5, v6, v7] [vR 35, vR 21] I := st_getR (ins_of mI_53 (by rfl)) mC_53 (by decide) fr_3_12 cT_34 (wdc wid_53 wd_34) rfl rfl
theorem r53_26 : runs cal 53 26 [v0, v1, v2, v3, v4, v5, v6, v7] [vR 35, vR 21] I = (cal 78 [vR 21, vR 35] I).bind (fun q => runs cal 53 29 [v0, v1, v2, v3, v4, v5, v6, v7] (pushR q.1 []) q.2) := st_call (st := false) (ins_of mI_53 (by rfl)) mC_53 mr_3_54 (by decide) mS_78 mN_78 rfl (Nat.le_of_ble_eq_true rfl) rfl rfl (Or.inr ⟨_, _, rfl, rcv mC_78 rfl wid_53 (by decide +kernel)⟩) (Or.inl (wid_53.trans wid_78.symm))
theorem r53_29 : runs cal 53 29 [v0, v1, v2, v3, v4, v5, v6, v7] [vL x0] I = runs cal 53 32 [v0, v1, v2, v3, v4, v5, v6, v7] [vL (4), vL x0] I := runs_to (ins_of mI_53 (by rfl)) rfl (by simp only [stepI, ldk2, mC_53]; rfl)
theorem r53_32 : runs cal 53 32 [v0, v1, v2, v3, v4, v5, v6, v7] [vL x0, vL x1] I = (cal 265 [vL x1, vL x0] I).bind (fun q => runs cal 53 35 [v0, v1, v2, v3, v4, v5, v6, v7] (pushR q.1 []) q.2) := st_call (st := true) (ins_of mI_53 (by rfl)) mC_53 mr_3_60 (by decide) mS_265 mN_265 rfl (Nat.le_of_ble_eq_true rfl) rfl rfl (Or.inl rfl) (Or.inl (wid_53.trans wid_265.symm))
theorem r53_35 : runs cal 53 35 [v0, v1, v2, v3, v4, v5, v6, v7] [vL x0] I = runs cal 53 36 [v0, v1, v2, v3, v4, v5, v6, v7] [vI (l2i x0)] I := runs_to (ins_of mI_53 (by rfl)) rfl rfl
theorem r53_36 : runs cal 53 36 [v0, v1, v2, v3, vI u, v5, v6, v7] [vI x0] I = runs cal 53 38 [v0, v1, v2, v3, vI u, vI x0, v6, v7] [] I := runs_to (ins_of mI_53 (by rfl)) rfl rfl
theorem r53_38 : runs cal 53 38 [vR 34, v1, v2, v3, v4, v5, v6, v7] [] I = runs cal 53 39 [vR 34, v1, v2, v3, v4, v5, v6, v7] [vR 34] I := runs_to (ins_of mI_53 (by rfl)) rfl rfl
theorem r53_39 : runs cal 53 39 [v0, vR 2, v2, v3, v4, v5, v6, v7] [vR 34] I = runs cal 53 40 [v0, vR 2, v2, v3, v4, v5, v6, v7] [vR 2, vR 34] I := runs_to (ins_of mI_53 (by rfl)) rfl rfl
theorem r53_40 : runs cal 53 40 [v0, v1, v2, vI w, v4, v5, v6, v7] [vR 2, vR 34] I = runs cal 53 41 [v0, v1, v2, vI w, v4, v5, v6, v7] [vI w, vR 2, vR 34] I := runs_to (ins_of mI_53 (by rfl)) rfl rfl
theorem r53_41 : runs cal 53 41 [v0, v1, v2, v3, v4, vI w, v6, v7] [vI x0, vR 2, vR 34] I = runs cal 53 43 [v0, v1, v2, v3, v4, vI w, v6, v7] [vI w, vI x0, vR 2, vR 34] I := runs_to (ins_of mI_53 (by rfl)) rfl rfl
theorem r53_43 : runs cal 53 43 [v0, v1, v2, v3, v4, v5, v6, v7] [vI x0, vI x1, vR 2, vR 34] I = (cal 55 [vR 34, vR 2, vI x1, vI x0] I).bind (fun q => runs cal 53 46 [v0, v1, v2, v3, v4, v5, v6, v7] (pushR q.1 []) q.2) := st_call (st := false) (ins_of mI_53 (by rfl)) mC_53 mr_3_66 (by decide) mS_55 mN_55 rfl (Nat.le_of_ble_eq_true rfl) rfl rfl (Or.inr ⟨_, _, rfl, rcv mC_55 rfl wid_53 (by decide +kernel)⟩) (Or.inl (wid_53.trans wid_55.symm))
theorem r53_46 : runs cal 53 46 [v0, v1, v2, v3, v4, vI u, v6, v7] [vI x0] I = runs cal 53 48 [v0, v1, v2, v3, v4, vI u, vI x0, v7] [] I := runs_to (ins_of mI_53 (by rfl)) rfl rfl
theorem r53_48 : runs cal 53 48 [v0, v1, v2, v3, v4, v5, vI w, v7] [] I = runs cal 53 50 [v0, v1, v2, v3, v4, v5, vI w, v7] [vI w] I := runs_to (ins_of mI_53 (by rfl)) rfl rfl
theorem r53_50 : runs cal 53 50 [v0, v1, v2, v3, v4, v5, v6, v7] [vI x0] I = runs cal 53 51 [v0, v1, v2, v3, v4, v5, v6, v7] [vI (-1), vI x0] I := runs_to (ins_of mI_53 (by rfl)) rfl rfl
theorem r53_51 : runs cal 53 51 [v0, v1, v2, v3, v4, v5, v6, v7] [vI x0, vI x1] I = if x1 = x0 then runs cal 53 54 [v0, v1, v2, v3, v4, v5, v6, v7] [] I else runs cal 53 55 [v0, v1, v2, v3, v4, v5, v6, v7] [] I := st_cmp_ne (ins_of mI_53 (by rfl)) (by decide)
theorem r53_54 : runs cal 53 54 [v0, v1, v2, v3, v4, v5, v6, v7] [] I = some (none, I) := st_ret (q := none) (k := 3) (ins_of mI_53 (by rfl)) rfl (by decide) mR_53 rfl trivial
theorem r53_55 : runs cal 53 55 [v0, vR 2, v2, v3, v4, v5, v6, v7] [] I = runs cal 53 56 [v0, vR 2, v2, v3, v4, v5, v6, v7] [vR 2] I := runs_to (ins_of mI_53 (by rfl)) rfl rfl
theorem r53_56 : runs cal 53 56 [vR 34, v1, v2, v3, v4, v5, v6, v7] [vR 2] I = runs cal 53 57 [vR 34, v1, v2, v3, v4, v5, v6, v7] [vR 34, vR 2] I := runs_to (ins_of mI_53 (by rfl)) rfl rfl
theorem r53_57 : runs cal 53 57 [v0, v1, v2, v3, v4, v5, v6, v7] [vR 34, vR 2] I = runs cal 53 60 [v0, v1, v2, v3, v4, v5, v6, v7] [vI (I 34 1), vR 2] I := st_getI (ins_of mI_53 (by rfl)) mC_53 (by decide) fr_3_27 cT_34 (wdc wid_53 wd_34) (Or.inl rfl)
theorem r53_60 : runs cal 53 60 [v0, v1, v2, v3, v4, v5, vI w, v7] [vI x0, vR 2] I = runs cal 53 62 [v0, v1, v2, v3, v4, v5, vI w, v7] [vI w, vI x0, vR 2] I := runs_to (ins_of mI_53 (by rfl)) rfl rfl
theorem r53_62 : runs cal 53 62 [v0, v1, v2, v3, v4, v5, v6, v7] [vI x0, vI x1, vR 2] I = (cal 32 [vR 2, vI x1, vI x0] I).bind (fun q => runs cal 53 65 [v0, v1, v2, v3, v4, v5, v6, v7] (pushR q.1 []) q.2) := st_call (st := false) (ins_of mI_53 (by rfl)) mC_53 mr_3_70 (by decide) mS_32 mN_32 rfl (Nat.le_of_ble_eq_true rfl) rfl rfl (Or.inr ⟨_, _, rfl, rcv mC_32 rfl wid_53 (by decide +kernel)⟩) (Or.inl (wid_53.trans wid_32.symm))
theorem r53_65 : runs cal 53 65 [v0, v1, v2, v3, v4, v5, vI u, v7] [vI x0] I = runs cal 53 67 [v0, v1, v2, v3, v4, v5, vI u, vI x0] [] I := runs_to (ins_of mI_53 (by rfl)) rfl rfl
theorem r53_67 : runs cal 53 67 [v0, v1, v2, v3, v4, v5, v6, vI w] [] I = runs cal 53 69 [v0, v1, v2, v3, v4, v5, v6, vI w] [vI w] I := runs_to (ins_of mI_53 (by rfl)) rfl rfl
theorem r53_69 : runs cal 53 69 [v0, v1, v2, v3, v4, v5, v6, v7] [vI x0] I = if x0 < 0 then runs cal 53 81 [v0, v1, v2, v3, v4, v5, v6, v7] [] I else runs cal 53 72 [v0, v1, v2, v3, v4, v5, v6, v7] [] I := st_if_lt (ins_of mI_53 (by rfl)) (by decide)
theorem r53_72 : runs cal 53 72 [vR 34, v1, v2, v3, v4, v5, v6, v7] [] I = runs cal 53 73 [vR 34, v1, v2, v3, v4, v5, v6, v7] [vR 34] I := runs_to (ins_of mI_53 (by rfl)) rfl rfl
theorem r53_73 : runs cal 53 73 [v0, v1, v2, v3, v4, v5, v6, vI w] [vR 34] I = runs cal 53 75 [v0, v1, v2, v3, v4, v5, v6, vI w] [vI w, vR 34] I := runs_to (ins_of mI_53 (by rfl)) rfl rfl
theorem r53_75 : runs cal 53 75 [v0, v1, v2, v3, v4, v5, v6, v7] [vI x0, vR 34] I = runs cal 53 78 [v0, v1, v2, v3, v4, v5, v6, v7] [] (mset I 34 1 x0) := st_putI (ins_of mI_53 (by rfl)) mC_53 fr_3_27 cT_34 (wdc wid_53 wd_34) rfl
theorem r53_78 : runs cal 53 78 [v0, v1, v2, v3, v4, v5, v6, v7] [] I = runs cal 53 99 [v0, v1, v2, v3, v4, v5, v6, v7] [] I := st_goto (ins_of mI_53 (by rfl)) (by decide)
theorem r53_81 : runs cal 53 81 [v0, v1, v2, v3, v4, v5, v6, vI w] [] I = runs cal 53 83 [v0, v1, v2, v3, v4, v5, v6, vI w] [vI w] I := runs_to (ins_of mI_53 (by rfl)) rfl rfl
theorem r53_83 : runs cal 53 83 [v0, v1, v2, v3, v4, v5, v6, v7] [vI x0] I = runs cal 53 85 [v0, v1, v2, v3, v4, v5, v6, v7] [vI (-3), vI x0] I := runs_to (ins_of mI_53 (by rfl)) rfl rfl
theorem r53_85 : runs cal 53 85 [v0, v1, v2, v3, v4, v5, v6, v7] [vI x0, vI x1] I = if x1 = x0 then runs cal 53 94 [v0, v1, v2, v3, v4, v5, v6, v7] [] I else runs cal 53 88 [v0, v1, v2, v3, v4, v5, v6, v7] [] I := st_cmp_eq (ins_of mI_53 (by rfl)) (by decide)
theorem r53_88 : runs cal 53 88 [v0, v1, v2, v3, v4, vI w, v6, v7] [] I = runs cal 53 90 [v0, v1, v2, v3, v4, vI w, v6, v7] [vI w] I := runs_to (ins_of mI_53 (by rfl)) rfl rfl
theorem r53_90 : runs cal 53 90 [v0, v1, v2, v3, v4, v5, v6, v7] [vI x0] I = runs cal 53 91 [v0, v1, v2, v3, v4, v5, v6, v7] [vI (1), vI x0] I := runs_to (ins_of mI_53 (by rfl)) rfl rfl
theorem r53_91 : runs cal 53 91 [v0, v1, v2, v3, v4, v5, v6, v7] [vI x0, vI x1] I = if x1 = x0 then runs cal 53 94 [v0, v1, v2, v3, v4, v5, v6, v7] [] I else runs cal 53 99 [v0, v1, v2, v3, v4, v5, v6, v7] [] I := st_cmp_ne (ins_of mI_53 (by rfl)) (by decide)
theorem r53_94 : runs cal 53 94 [vR 34, v1, v2, v3, v4, v5, v6, v7] [] I = runs cal 53 95 [vR 34, v1, v2, v3, v4, v5, v6, v7] [vR 34] I := runs_to (ins_of mI_53 (by rfl)) rfl rfl
theorem r53_95 : runs cal 53 95 [v0, v1, v2, vI w, v4, v5, v6, v7] [vR 34] I = runs cal 53 96 [v0, v1, v2, vI w, v4, v5, v6, v7] [vI w, vR 34] I := runs_to (ins_of mI_53 (by rfl)) rfl rfl
theorem r53_96 : runs cal 53 96 [v0, v1, v2, v3, v4, v5, v6, v7] [vI x0, vR 34] I = runs cal 53 99 [v0, v1, v2, v3, v4, v5, v6, v7] [] (mset I 34 2 x0) := st_putI (ins_of mI_53 (by rfl)) mC_53 fr_3_18 cT_34 (wdc wid_53 wd_34) rfl
theorem r53_99 : runs cal 53 99 [v0, v1, v2, v3, v4, v5, v6, v7] [] I = some (none, I) := st_ret (q := none) (k := 3) (ins_of mI_53 (by rfl)) rfl (by decide) mR_53 rfl trivial
theorem r54_0 : runs cal 54 0 [v0, vR 2, v2, v3, v4, v5] [] I = runs cal 54 1 [v0, vR 2, v2, v3, v4, v5] [vR 2] I := runs_to (ins_of mI_54 (by rfl)) rfl rfl
theorem r54_1 : runs cal 54 1 [vR 34, v1, v2, v3, v4, v5] [vR 2] I = runs cal 54 2 [vR 34, v1, v2, v3, v4, v5] [vR 34, vR 2] I := runs_to (ins_of mI_54 (by rfl)) rfl rfl
theorem r54_2 : runs cal 54 2 [v0, v1, v2, v3, v4, v5] [vR 34, vR 2] I = runs cal 54 5 [v0, v1, v2, v3, v4, v5] [vI (I 34 1), vR 2] I := st_getI (ins_of mI_54 (by rfl)) mC_54 (by decide) fr_3_27 cT_34 (wdc wid_54 wd_34) (Or.inl rfl)
theorem r54_5 : runs cal 54 5 [v0, v1, vI w, v3, v4, v5] [vI x0, vR 2] I = runs cal 54 6 [v0, v1, vI w, v3, v4, v5] [vI w, vI x0, vR 2] I := runs_to (ins_of mI_54 (by rfl)) rfl rfl
theorem r54_6 : runs cal 54 6 [v0, v1, v2, v3, v4, v5] [vI x0, vI x1, vR 2] I = (cal 7 [vR 2, vI x1, vI x0] I).bind (fun q => runs cal 54 9 [v0, v1, v2, v3, v4, v5] (pushR q.1 []) q.2) := st_call (st := false) (ins_of mI_54 (by rfl)) mC_54 mr_3_74 (by decide) mS_7 mN_7 rfl (Nat.le_of_ble_eq_true rfl) rfl rfl (Or.inr ⟨_, _, rfl, rcv mC_7 rfl wid_54 (by decide +kernel)⟩) (Or.inl (wid_54.trans wid_7.symm))
theorem r54_9 : runs cal 54 9 [v0, vR 2, v2, v3, v4, v5] [vI x0] I = runs cal 54 10 [v0, vR 2, v2, v3, v4, v5] [vR 2, vI x0] I := runs_to (ins_of mI_54 (by rfl)) rfl rfl
theorem r54_10 : runs cal 54 10 [v0, v1, v2, v3, v4, v5] [vR 2, vI x1] I = runs cal 54 13 [v0, v1, v2, v3, v4, v5] [vR 4, vI x1] I := st_getR (ins_of mI_54 (by rfl)) mC_54 (by decide) fr_3_77 cT_2 (wdc wid_54 wd_2) rfl rfl
theorem r54_13 : runs cal 54 13 [v0, v1, vI w, v3, v4, v5] [vR 4, vI x1] I = runs cal 54 14 [v0, v1, vI w, v3, v4, v5] [vI w, vR 4, vI x1] I := runs_to (ins_of mI_54 (by rfl)) rfl rfl
theorem r54_14 : runs cal 54 14 [v0, v1, v2, v3, v4, v5] [vI x0, vR 4, vI x2] I = if 0 ≤ x0 ∧ x0 < 3 then runs cal 54 15 [v0, v1, v2, v3, v4, v5] [vI (I 4 x0), vI x2] I else none := st_iald (ins_of mI_54 (by rfl)) cT_4 (wdc wid_54 wd_4)
theorem r54_15 : runs cal 54 15 [v0, v1, v2, v3, v4, v5] [vI x0, vI x1] I = if x0 = 0 then runs cal 54 18 [v0, v1, v2, v3, v4, v5] [vI x1] I else runs cal 54 22 [v0, v1, v2, v3, v4, v5] [vI x1] I := st_if_ne (ins_of mI_54 (by rfl)) (by decide)
theorem r54_18 : runs cal 54 18 [v0, v1, v2, v3, v4, v5] [vI x0] I = runs cal 54 19 [v0, v1, v2, v3, v4, v5] [vI (-1), vI x0] I := runs_to (ins_of mI_54 (by rfl)) rfl rfl
theorem r54_19 : runs cal 54 19 [v0, v1, v2, v3, v4, v5] [vI x0, vI x1] I = runs cal 54 23 [v0, v1, v2, v3, v4, v5] [vI x0, vI x1] I := st_goto (ins_of mI_54 (by rfl)) (by decide)
theorem r54_22 : runs cal 54 22 [v0, v1, v2, v3, v4, v5] [vI x0] I = runs cal 54 23 [v0, v1, v2, v3, v4, v5] [vI (1), vI x0] I := runs_to (ins_of mI_54 (by rfl)) rfl rfl
theorem r54_23 : runs cal 54 23 [v0, v1, v2, v3, v4, v5] [vI x0, vI x1] I = runs cal 54 24 [v0, v1, v2, v3, v4, v5] [vI (iadd x1 x0)] I := runs_to (ins_of mI_54 (by rfl)) rfl rfl
theorem r54_24 : runs cal 54 24 [v0, v1, v2, vI u, v4, v5] [vI x0] I = runs cal 54 26 [v0, v1, v2, vI u, vI x0, v5] [] I := runs_to (ins_of mI_54 (by rfl)) rfl rfl
theorem r54_26 : runs cal 54 26 [vR 34, v1, v2, v3, v4, v5] [] I = runs cal 54 27 [vR 34, v1, v2, v3, v4, v5] [vR 34] I := runs_to (ins_of mI_54 (by rfl)) rfl rfl
theorem r54_27 : runs cal 54 27 [v0, v1, v2, v3, v4, v5] [vR 34] I = runs cal 54 30 [v0, v1, v2, v3, v4, v5] [vR 35] I := st_getR (ins_of mI_54 (by rfl)) mC_54 (by decide) fr_3_12 cT_34 (wdc wid_54 wd_34) rfl rfl
theorem r54_30 : runs cal 54 30 [v0, vR 2, v2, v3, v4, v5] [vR 35] I = runs cal 54 31 [v0, vR 2, v2, v3, v4, v5] [vR 2, vR 35] I := runs_to (ins_of mI_54 (by rfl)) rfl rfl
theorem r54_31 : runs cal 54 31 [vR 34, v1, v2, v3, v4, v5] [vR 2, vR 35] I = runs cal 54 32 [vR 34, v1, v2, v3, v4, v5] [vR 34, vR 2, vR 35] I := runs_to (ins_of mI_54 (by rfl)) rfl rfl
theorem r54_32 : runs cal 54 32 [v0, v1, v2, v3, v4, v5] [vR 34, vR 2, vR 35] I = runs cal 54 35 [v0, v1, v2, v3, v4, v5] [vI (I 34 1), vR 2, vR 35] I := st_getI (ins_of mI_54 (by rfl)) mC_54 (by decide) fr_3_27 cT_34 (wdc wid_54 wd_34) (Or.inl rfl)
theorem r54_35 : runs cal 54 35 [v0, v1, v2, v3, vI w, v5] [vI x0, vR 2, vR 35] I = runs cal 54 37 [v0, v1, v2, v3, vI w, v5] [vI w, vI x0, vR 2, vR 35] I := runs_to (ins_of mI_54 (by rfl)) rfl rfl
theorem r54_37 : runs cal 54 37 [v0, v1, v2, v3, v4, v5] [vI x0, vI x1, vR 2, vR 35] I = (cal 25 [vR 2, vI x1, vI x0] I).bind (fun q => runs cal 54 40 [v0, v1, v2, v3, v4, v5] (pushR q.1 [vR 35]) q.2) := st_call (st := false) (ins_of mI_54 (by rfl)) mC_54 mr_3_81 (by decide) mS_25 mN_25 rfl (Nat.le_of_ble_eq_true rfl) rfl rfl (Or.inr ⟨_, _, rfl, rcv mC_25 rfl wid_54 (by decide +kernel)⟩) (Or.inl (wid_54.trans wid_25.symm))
theorem r54_40 : runs cal 54 40 [v0, v1, v2, v3, v4, v5] [vI x0, vR 35] I = if x0 = 0 then runs cal 54 47 [v0, v1, v2, v3, v4, v5] [vR 35] I else runs cal 54 43 [v0, v1, v2, v3, v4, v5] [vR 35] I := st_if_eq (ins_of mI_54 (by rfl)) (by decide)
theorem r54_43 : runs cal 54 43 [v0, v1, v2, v3, v4, v5] [vR 35] I = runs cal 54 44 [v0, v1, v2, v3, v4, v5] [vI (1), vR 35] I := runs_to (ins_of mI_54 (by rfl)) rfl rfl
theorem r54_44 : runs cal 54 44 [v0, v1, v2, v3, v4, v5] [vI x0, vR 35] I = runs cal 54 48 [v0, v1, v2, v3, v4, v5] [vI x0, vR 35] I := st_goto (ins_of mI_54 (by rfl)) (by decide)
theorem r54_47 : runs cal 54 47 [v0, v1, v2, v3, v4, v5] [vR 35] I = runs cal 54 48 [v0, v1, v2, v3, v4, v5] [vI (0), vR 35] I := runs_to (ins_of mI_54 (by rfl)) rfl rfl
theorem r54_48 : runs cal 54 48 [v0, v1, v2, v3, v4, v5] [vI x0, vR 35] I = runs cal 54 51 [v0, v1, v2, v3, v4, v5] [] (mset I 35 0 x0) := st_putI (ins_of mI_54 (by rfl)) mC_54 fr_3_84 cT_35 (wdc wid_54 wd_35) rfl
theorem r54_51 : runs cal 54 51 [vR 34, v1, v2, v3, v4, v5] [] I = runs cal 54 52 [vR 34, v1, v2, v3, v4, v5] [vR 34] I := runs_to (ins_of mI_54 (by rfl)) rfl rfl
theorem r54_52 : runs cal 54 52 [v0, v1, v2, v3, v4, v5] [vR 34] I = runs cal 54 55 [v0, v1, v2, v3, v4, v5] [vR 35] I := st_getR (ins_of mI_54 (by rfl)) mC_54 (by decide) fr_3_12 cT_34 (wdc wid_54 wd_34) rfl rfl
theorem r54_55 : runs cal 54 55 [v0, vR 2, v2, v3, v4, v5] [vR 35] I = runs cal 54 56 [v0, vR 2, v2, v3, v4, v5] [vR 2, vR 35] I := runs_to (ins_of mI_54 (by rfl)) rfl rfl
theorem r54_56 : runs cal 54 56 [vR 34, v1, v2, v3, v4, v5] [vR 2, vR 35] I = runs cal 54 57 [vR 34, v1, v2, v3, v4, v5] [vR 34, vR 2, vR 35] I := runs_to (ins_of mI_54 (by rfl)) rfl rfl
theorem r54_57 : runs cal 54 57 [v0, v1, v2, v3, v4, v5] [vR 34, vR 2, vR 35] I = runs cal 54 60 [v0, v1, v2, v3, v4, v5] [vI (I 34 1), vR 2, vR 35] I := st_getI (ins_of mI_54 (by rfl)) mC_54 (by decide) fr_3_27 cT_34 (wdc wid_54 wd_34) (Or.inl rfl)
theorem r54_60 : runs cal 54 60 [v0, v1, v2, v3, vI w, v5] [vI x0, vR 2, vR 35] I = runs cal 54 62 [v0, v1, v2, v3, vI w, v5] [vI w, vI x0, vR 2, vR 35] I := runs_to (ins_of mI_54 (by rfl)) rfl rfl
theorem r54_62 : runs cal 54 62 [v0, v1, v2, v3, v4, v5] [vI x0, vI x1, vR 2, vR 35] I = (cal 27 [vR 2, vI x1, vI x0] I).bind (fun q => runs cal 54 65 [v0, v1, v2, v3, v4, v5] (pushR q.1 [vR 35]) q.2) := st_call (st := false) (ins_of mI_54 (by rfl)) mC_54 mr_3_87 (by decide) mS_27 mN_27 rfl (Nat.le_of_ble_eq_true rfl) rfl rfl (Or.inr ⟨_, _, rfl, rcv mC_27 rfl wid_54 (by decide +kernel)⟩) (Or.inl (wid_54.trans wid_27.symm))
theorem r54_65 : runs cal 54 65 [v0, v1, v2, v3, v4, v5] [vI x0, vR 35] I = runs cal 54 68 [v0, v1, v2, v3, v4, v5] [] (mset I 35 1 x0) := st_putI (ins_of mI_54 (by rfl)) mC_54 fr_3_90 cT_35 (wdc wid_54 wd_35) rfl
theorem r54_68 : runs cal 54 68 [vR 34, v1, v2, v3, v4, v5] [] I = runs cal 54 69 [vR 34, v1, v2, v3, v4, v5] [vR 34] I := runs_to (ins_of mI_54 (by rfl)) rfl rfl
theorem r54_69 : runs cal 54 69 [v0, v1, v2, v3, v4, v5] [vR 34] I = runs cal 54 72 [v0, v1, v2, v3, v4, v5] [vR 35] I := st_getR (ins_of mI_54 (by rfl)) mC_54 (by decide) fr_3_12 cT_34 (wdc wid_54 wd_34) rfl rfl
theorem r54_72 : runs cal 54 72 [v0, vR 2, v2, v3, v4, v5] [vR 35] I = runs cal 54 73 [v0, vR 2, v2, v3, v4, v5] [vR 2, vR 35] I := runs_to (ins_of mI_54 (by rfl)) rfl rfl
theorem r54_73 : runs cal 54 73 [vR 34, v1, v2, v3, v4, v5] [vR 2, vR 35] I = runs cal 54 74 [vR 34, v1, v2, v3, v4, v5] [vR 34, vR 2, vR 35] I := runs_to (ins_of mI_54 (by rfl)) rfl rfl
theorem r54_74 : runs cal 54 74 [v0, v1, v2, v3, v4, v5] [vR 34, vR 2, vR 35] I = runs cal 54 77 [v0, v1, v2, v3, v4, v5] [vI (I 34 1), vR 2, vR 35] I := st_getI (ins_of mI_54 (by rfl)) mC_54 (by decide) fr_3_27 cT_34 (wdc wid_54 wd_34) (Or.inl rfl)
theorem r54_77 : runs cal 54 77 [v0, v1, vI w, v3, v4, v5] [vI x0, vR 2, vR 35] I = runs cal 54 78 [v0, v1, vI w, v3, v4, v5] [vI w, vI x0, vR 2, vR 35] I := runs_to (ins_of mI_54 (by rfl)) rfl rfl
theorem r54_78 : runs cal 54 78 [v0, v1, v2, v3, v4, v5] [vI x0, vI x1, vR 2, vR 35] I = (cal 16 [vR 2, vI x1, vI x0] I).bind (fun q => runs cal 54 81 [v0, v1, v2, v3, v4, v5] (pushR q.1 [vR 35]) q.2) := st_call (st := false) (ins_of mI_54 (by rfl)) mC_54 mr_3_93 (by decide) mS_16 mN_16 rfl (Nat.le_of_ble_eq_true rfl) rfl rfl (Or.inr ⟨_, _, rfl, rcv mC_16 rfl wid_54 (by decide +kernel)⟩) (Or.inl (wid_54.trans wid_16.symm))
theorem r54_81 : runs cal 54 81 [v0, v1, v2, v3, v4, v5] [vI x0, vR 35] I = runs cal 54 82 [v0, v1, v2, v3, v4, v5] [vI (-1), vI x0, vR 35] I := runs_to (ins_of mI_54 (by rfl)) rfl rfl
theorem r54_82 : runs cal 54 82 [v0, v1, v2, v3, v4, v5] [vI x0, vI x1, vR 35] I = if x1 = x0 then runs cal 54 85 [v0, v1, v2, v3, v4, v5] [vR 35] I else runs cal 54 89 [v0, v1, v2, v3, v4, v5] [vR 35] I := st_cmp_ne (ins_of mI_54 (by rfl)) (by decide)
theorem r54_85 : runs cal 54 85 [v0, v1, v2, v3, v4, v5] [vR 35] I = runs cal 54 86 [v0, v1, v2, v3, v4, v5] [vI (0), vR 35] I := runs_to (ins_of mI_54 (by rfl)) rfl rfl
theorem r54_86 : runs cal 54 86 [v0, v1, v2, v3, v4, v5] [vI x0, vR 35] I = runs cal 54 90 [v0, v1, v2, v3, v4, v5] [vI x0, vR 35] I := st_goto (ins_of mI_54 (by rfl)) (by decide)
theorem r54_89 : runs cal 54 89 [v0, v1, v2, v3, v4, v5] [vR 35] I = runs cal 54 90 [v0, v1, v2, v3, v4, v5] [vI (1), vR 35] I := runs_to (ins_of mI_54 (by rfl)) rfl rfl
theorem r54_90 : runs cal 54 90 [v0, v1, v2, v3, v4, v5] [vI x0, vR 35] I = runs cal 54 93 [v0, v1, v2, v3, v4, v5] [] (mset I 35 2 x0) := st_putI (ins_of mI_54 (by rfl)) mC_54 fr_3_96 cT_35 (wdc wid_54 wd_35) rfl
theorem r54_93 : runs cal 54 93 [vR 34, v1, v2, v3, v4, v5] [] I = runs cal 54 94 [vR 34, v1, v2, v3, v4, v5] [vR 34] I := runs_to (ins_of mI_54 (by rfl)) rfl rfl
theorem r54_94 : runs cal 54 94 [v0, vR 2, v2, v3, v4, v5] [vR 34] I = runs cal 54 95 [v0, vR 2, v2, v3, v4, v5] [vR 2, vR 34] I := runs_to (ins_of mI_54 (by rfl)) rfl rfl
theorem r54_95 : runs cal 54 95 [v0, v1, vI w, v3, v4, v5] [vR 2, vR 34] I = runs cal 54 96 [v0, v1, vI w, v3, v4, v5] [vI w, vR 2, vR 34] I := runs_to (ins_of mI_54 (by rfl)) rfl rfl
theorem r54_96 : runs cal 54 96 [v0, v1, v2, v3, v4, v5] [vI x0, vR 2, vR 34] I = runs cal 54 97 [v0, v1, v2, v3, v4, v5] [vI (3), vI x0, vR 2, vR 34] I := runs_to (ins_of mI_54 (by rfl)) rfl rfl
theorem r54_97 : runs cal 54 97 [v0, v1, v2, v3, v4, v5] [vI x0, vI x1, vR 2, vR 34] I = (cal 55 [vR 34, vR 2, vI x1, vI x0] I).bind (fun q => runs cal 54 100 [v0, v1, v2, v3, v4, v5] (pushR q.1 []) q.2) := st_call (st := false) (ins_of mI_54 (by rfl)) mC_54 mr_3_66 (by decide) mS_55 mN_55 rfl (Nat.le_of_ble_eq_true rfl) rfl rfl (Or.inr ⟨_, _, rfl, rcv mC_55 rfl wid_54 (by decide +kernel)⟩) (Or.inl (wid_54.trans wid_55.symm))
theorem r54_100 : runs cal 54 100 [v0, v1, v2, v3, vI u, v5] [vI x0] I = runs cal 54 102 [v0, v1, v2, v3, vI u, vI x0] [] I := runs_to (ins_of mI_54 (by rfl)) rfl rfl
theorem r54_102 : runs cal 54 102 [vR 34, v1, v2, v3, v4, v5] [] I = runs cal 54 103 [vR 34, v1, v2, v3, v4, v5] [vR 34] I := runs_to (ins_of mI_54 (by rfl)) rfl rfl
theorem r54_103 : runs cal 54 103 [v0, v1, v2, v3, v4, v5] [vR 34] I = runs cal 54 106 [v0, v1, v2, v3, v4, v5] [vR 35] I := st_getR (ins_of mI_54 (by rfl)) mC_54 (by decide) fr_3_12 cT_34 (wdc wid_54 wd_34) rfl rfl
theorem r54_106 : runs cal 54 106 [v0, v1, v2, v3, v4, vI w] [vR 35] I = runs cal 54 108 [v0, v1, v2, v3, v4, vI w] [vI w, vR 35] I := runs_to (ins_of mI_54 (by rfl)) rfl rfl
theorem r54_108 : runs cal 54 108 [v0, v1, v2, v3, v4, v5] [vI x0, vR 35] I = runs cal 54 109 [v0, v1, v2, v3, v4, v5] [vI (-1), vI x0, vR 35] I := runs_to (ins_of mI_54 (by rfl)) rfl rfl
theorem r54_109 : runs cal 54 109 [v0, v1, v2, v3, v4, v5] [vI x0, vI x1, vR 35] I = if x1 = x0 then runs cal 54 129 [v0, v1, v2, v3, v4, v5] [vR 35] I else runs cal 54 112 [v0, v1, v2, v3, v4, v5] [vR 35] I := st_cmp_eq (ins_of mI_54 (by rfl)) (by decide)
theorem r54_112 : runs cal 54 112 [v0, vR 2, v2, v3, v4, v5] [vR 35] I = runs cal 54 113 [v0, vR 2, v2, v3, v4, v5] [vR 2, vR 35] I := runs_to (ins_of mI_54 (by rfl)) rfl rfl
theorem r54_113 : runs cal 54 113 [vR 34, v1, v2, v3, v4, v5] [vR 2, vR 35] I = runs cal 54 114 [vR 34, v1, v2, v3, v4, v5] [vR 34, vR 2, vR 35] I := runs_to (ins_of mI_54 (by rfl)) rfl rfl
theorem r54_114 : runs cal 54 114 [v0, v1, v2, v3, v4, v5] [vR 34, vR 2, vR 35] I = runs cal 54 117 [v0, v1, v2, v3, v4, v5] [vI (I 34 1), vR 2, vR 35] I := st_getI (ins_of mI_54 (by rfl)) mC_54 (by decide) fr_3_27 cT_34 (wdc wid_54 wd_34) (Or.inl rfl)
theorem r54_117 : runs cal 54 117 [v0, v1, v2, v3, v4, vI w] [vI x0, vR 2, vR 35] I = runs cal 54 119 [v0, v1, v2, v3, v4, vI w] [vI w, vI x0, vR 2, vR 35] I := runs_to (ins_of mI_54 (by rfl)) rfl rfl
theorem r54_119 : runs cal 54 119 [v0, v1, v2, v3, v4, v5] [vI x0, vI x1, vR 2, vR 35] I = (cal 32 [vR 2, vI x1, vI x0] I).bind (fun q => runs cal 54 122 [v0, v1, v2, v3, v4, v5] (pushR q.1 [vR 35]) q.2) := st_call (st := false) (ins_of mI_54 (by rfl)) mC_54 mr_3_70 (by decide) mS_32 mN_32 rfl (Nat.le_of_ble_eq_true rfl) rfl rfl (Or.inr ⟨_, _, rfl, rcv mC_32 rfl wid_54 (by decide +kernel)⟩) (Or.inl (wid_54.trans wid_32.symm))
theorem r54_122 : runs cal 54 122 [v0, v1, v2, v3, v4, v5] [vI x0, vR 35] I = if x0 < 0 then runs cal 54 129 [v0, v1, v2, v3, v4, v5] [vR 35] I else runs cal 54 125 [v0, v1, v2, v3, v4, v5] [vR 35] I := st_if_lt (ins_of mI_54 (by rfl)) (by decide)
theorem r54_125 : runs cal 54 125 [v0, v1, v2, v3, v4, v5] [vR 35] I = runs cal 54 126 [v0, v1, v2, v3, v4, v5] [vI (1), vR 35] I := runs_to (ins_of mI_54 (by rfl)) rfl rfl
theorem r54_126 : runs cal 54 126 [v0, v1, v2, v3, v4, v5] [vI x0, vR 35] I = runs cal 54 130 [v0, v1, v2, v3, v4, v5] [vI x0, vR 35] I := st_goto (ins_of mI_54 (by rfl)) (by decide)
theorem r54_129 : runs cal 54 129 [v0, v1, v2, v3, v4, v5] [vR 35] I = runs cal 54 130 [v0, v1, v2, v3, v4, v5] [vI (0), vR 35] I := runs_to (ins_of mI_54 (by rfl)) rfl rfl
theorem r54_130 : runs cal 54 130 [v0, v1, v2, v3, v4, v5] [vI x0, vR 35] I = runs cal 54 133 [v0, v1, v2, v3, v4, v5] [] (mset I 35 3 x0) := st_putI (ins_of mI_54 (by rfl)) mC_54 fr_3_99 cT_35 (wdc wid_54 wd_35) rfl
theorem r54_133 : runs cal 54 133 [vR 34, v1, v2, v3, v4, v5] [] I = runs cal 54 134 [vR 34, v1, v2, v3, v4, v5] [vR 34] I := runs_to (ins_of mI_54 (by rfl)) rfl rfl
theorem r54_134 : runs cal 54 134 [v0, v1, v2, v3, v4, v5] [vR 34] I = runs cal 54 137 [v0, v1, v2, v3, v4, v5] [vR 35] I := st_getR (ins_of mI_54 (by rfl)) mC_54 (by decide) fr_3_12 cT_34 (wdc wid_54 wd_34) rfl rfl
theorem r54_137 : runs cal 54 137 [v0, v1, vI w, v3, v4, v5] [vR 35] I = runs cal 54 138 [v0, v1, vI w, v3, v4, v5] [vI w, vR 35] I := runs_to (ins_of mI_54 (by rfl)) rfl rfl
theorem r54_138 : runs cal 54 138 [v0, v1, v2, v3, v4, v5] [vI x0, vR 35] I = runs cal 54 141 [v0, v1, v2, v3, v4, v5] [] (mset I 35 4 x0) := st_putI (ins_of mI_54 (by rfl)) mC_54 fr_3_102 cT_35 (wdc wid_54 wd_35) rfl
theorem r54_141 : runs cal 54 141 [vR 34, v1, v2, v3, v4, v5] [] I = runs cal 54 142 [vR 34, v1, v2, v3, v4, v5] [vR 34] I := runs_to (ins_of mI_54 (by rfl)) rfl rfl
theorem r54_142 : runs cal 54 142 [v0, v1, v2, v3, v4, v5] [vR 34] I = runs cal 54 145 [v0, v1, v2, v3, v4, v5] [vR 35] I := st_getR (ins_of mI_54 (by rfl)) mC_54 (by decide) fr_3_12 cT_34 (wdc wid_54 wd_34) rfl rfl
theorem r54_145 : runs cal 54 145 [v0, v1, v2, vI w, v4, v5] [vR 35] I = runs cal 54 146 [v0, v1, v2, vI w, v4, v5] [vI w, vR 35] I := runs_to (ins_of mI_54 (by rfl)) rfl rfl
theorem r54_146 : runs cal 54 146 [v0, v1, v2, v3, v4, v5] [vI x0, vR 35] I = runs cal 54 149 [v0, v1, v2, v3, v4, v5] [] (mset I 35 5 x0) := st_putI (ins_of mI_54 (by rfl)) mC_54 fr_3_105 cT_35 (wdc wid_54 wd_35) rfl
theorem r54_149 : runs cal 54 149 [v0, v1, v2, v3, v4, v5] [] I = some (none, I) := st_ret (q := none) (k := 3) (ins_of mI_54 (by rfl)) rfl (by decide) mR_54 rfl trivial
theorem r55_0 : runs cal 55 0 [v0, vR 2, v2, v3, v4, v5, v6] [] I = runs cal 55 1 [v0, vR 2, v2, v3, v4, v5, v6] [vR 2] I := runs_to (ins_of mI_55 (by rfl)) rfl rfl
theorem r55_1 : runs cal 55 1 [v0, v1, v2, v3, v4, v5, v6] [vR 2] I = runs cal 55 4 [v0, v1, v2, v3, v4, v5, v6] [vR 4] I := st_getR (ins_of mI_55 (by rfl)) mC_55 (by decide) fr_3_77 cT_2 (wdc wid_55 wd_2) rfl rfl
theorem r55_4 : runs cal 55 4 [v0, v1, vI w, v3, v4, v5, v6] [vR 4] I = runs cal 55 5 [v0, v1, vI w, v3, v4, v5, v6] [vI w, vR 4] I := runs_to (ins_of mI_55 (by rfl)) rfl rfl
theorem r55_5 : runs cal 55 5 [v0, v1, v2, v3, v4, v5, v6] [vI x0, vR 4] I = if 0 ≤ x0 ∧ x0 < 3 then runs cal 55 6 [v0, v1, v2, v3, v4, v5, v6] [vI (I 4 x0)] I else none := st_iald (ins_of mI_55 (by rfl)) cT_4 (wdc wid_55 wd_4)
theorem r55_6 : runs cal 55 6 [v0, v1, v2, vI u, v4, v5, v6] [vI x0] I = runs cal 55 8 [v0, v1, v2, vI u, vI x0, v5, v6] [] I := runs_to (ins_of mI_55 (by rfl)) rfl rfl
theorem r55_8 : runs cal 55 8 [v0, v1, v2, vI w, v4, v5, v6] [] I = runs cal 55 9 [v0, v1, v2, vI w, v4, v5, v6] [vI w] I := runs_to (ins_of mI_55 (by rfl)) rfl rfl
theorem r55_9 : runs cal 55 9 [v0, v1, v2, v3, v4, v5, v6] [vI x0] I = runs cal 55 10 [v0, v1, v2, v3, v4, v5, v6] [vI (1), vI x0] I := runs_to (ins_of mI_55 (by rfl)) rfl rfl
theorem r55_10 : runs cal 55 10 [v0, v1, v2, v3, v4, v5, v6] [vI x0, vI x1] I = if x1 = x0 then runs cal 55 13 [v0, v1, v2, v3, v4, v5, v6] [] I else runs cal 55 26 [v0, v1, v2, v3, v4, v5, v6] [] I := st_cmp_ne (ins_of mI_55 (by rfl)) (by decide)
theorem r55_13 : runs cal 55 13 [v0, v1, v2, v3, v4, v5, v6] [] I = runs cal 55 14 [v0, v1, v2, v3, v4, v5, v6] [vI (0)] I := runs_to (ins_of mI_55 (by rfl)) rfl rfl
theorem r55_14 : runs cal 55 14 [v0, v1, v2, v3, v4, v5, v6] [vI x0] I = runs cal 55 16 [v0, v1, v2, v3, v4, v5, v6] [vI (64), vI x0] I := runs_to (ins_of mI_55 (by rfl)) rfl rfl
theorem r55_16 : runs cal 55 16 [v0, v1, vI w, v3, v4, v5, v6] [vI x0, vI x1] I = runs cal 55 17 [v0, v1, vI w, v3, v4, v5, v6] [vI w, vI x0, vI x1] I := runs_to (ins_of mI_55 (by rfl)) rfl rfl
theorem r55_17 : runs cal 55 17 [v0, v1, v2, v3, v4, v5, v6] [vI x0, vI x1, vI x2] I = runs cal 55 18 [v0, v1, v2, v3, v4, v5, v6] [vI (imul x1 x0), vI x2] I := runs_to (ins_of mI_55 (by rfl)) rfl rfl
theorem r55_18 : runs cal 55 18 [v0, v1, v2, v3, v4, v5, v6] [vI x0, vI x1] I = runs cal 55 19 [v0, v1, v2, v3, v4, v5, v6] [vI (iadd x1 x0)] I := runs_to (ins_of mI_55 (by rfl)) rfl rfl
theorem r55_19 : runs cal 55 19 [v0, v1, v2, v3, v4, v5, v6] [vI x0] I = runs cal 55 21 [v0, v1, v2, v3, v4, v5, v6] [vI (8), vI x0] I := runs_to (ins_of mI_55 (by rfl)) rfl rfl
theorem r55_21 : runs cal 55 21 [v0, v1, v2, v3, vI w, v5, v6] [vI x0, vI x1] I = runs cal 55 23 [v0, v1, v2, v3, vI w, v5, v6] [vI w, vI x0, vI x1] I := runs_to (ins_of mI_55 (by rfl)) rfl rfl
theorem r55_23 : runs cal 55 23 [v0, v1, v2, v3, v4, v5, v6] [vI x0, vI x1, vI x2] I = runs cal 55 24 [v0, v1, v2, v3, v4, v5, v6] [vI (imul x1 x0), vI x2] I := runs_to (ins_of mI_55 (by rfl)) rfl rfl
theorem r55_24 : runs cal 55 24 [v0, v1, v2, v3, v4, v5, v6] [vI x0, vI x1] I = runs cal 55 25 [v0, v1, v2, v3, v4, v5, v6] [vI (iadd x1 x0)] I := runs_to (ins_of mI_55 (by rfl)) rfl rfl
theorem r55_25 : runs cal 55 25 [v0, v1, v2, v3, v4, v5, v6] [vI x0] I = some (some (vI x0), I) := st_ret (q := some (vI x0)) (k := 0) (ins_of mI_55 (by rfl)) rfl (by decide) mR_55 rfl trivial
theorem r55_26 : runs cal 55 26 [v0, v1, v2, vI w, v4, v5, v6] [] I = runs cal 55 27 [v0, v1, v2, vI w, v4, v5, v6] [vI w] I := runs_to (ins_of mI_55 (by rfl)) rfl rfl
theorem r55_27 : runs cal 55 27 [v0, v1, v2, v3, v4, v5, v6] [vI x0] I = runs cal 55 28 [v0, v1, v2, v3, v4, v5, v6] [vI (2), vI x0] I := runs_to (ins_of mI_55 (by rfl)) rfl rfl
theorem r55_28 : runs cal 55 28 [v0, v1, v2, v3, v4, v5, v6] [vI x0, vI x1] I = if x1 = x0 then runs cal 55 31 [v0, v1, v2, v3, v4, v5, v6] [] I else runs cal 55 70 [v0, v1, v2, v3, v4, v5, v6] [] I := st_cmp_ne (ins_of mI_55 (by rfl)) (by decide)
theorem r55_31 : runs cal 55 31 [v0, vR 2, v2, v3, v4, v5, v6] [] I = runs cal 55 32 [v0, vR 2, v2, v3, v4, v5, v6] [vR 2] I := runs_to (ins_of mI_55 (by rfl)) rfl rfl
theorem r55_32 : runs cal 55 32 [vR 34, v1, v2, v3, v4, v5, v6] [vR 2] I = runs cal 55 33 [vR 34, v1, v2, v3, v4, v5, v6] [vR 34, vR 2] I := runs_to (ins_of mI_55 (by rfl)) rfl rfl
theorem r55_33 : runs cal 55 33 [v0, v1, v2, v3, v4, v5, v6] [vR 34, vR 2] I = runs cal 55 36 [v0, v1, v2, v3, v4, v5, v6] [vI (I 34 1), vR 2] I := st_getI (ins_of mI_55 (by rfl)) mC_55 (by decide) fr_3_27 cT_34 (wdc wid_55 wd_34) (Or.inl rfl)
theorem r55_36 : runs cal 55 36 [v0, v1, vI w, v3, v4, v5, v6] [vI x0, vR 2] I = runs cal 55 37 [v0, v1, vI w, v3, v4, v5, v6] [vI w, vI x0, vR 2] I := runs_to (ins_of mI_55 (by rfl)) rfl rfl
theorem r55_37 : runs cal 55 37 [v0, v1, v2, v3, v4, v5, v6] [vI x0, vI x1, vR 2] I = (cal 16 [vR 2, vI x1, vI x0] I).bind (fun q => runs cal 55 40 [v0, v1, v2, v3, v4, v5, v6] (pushR q.1 []) q.2) := st_call (st := false) (ins_of mI_55 (by rfl)) mC_55 mr_3_93 (by decide) mS_16 mN_16 rfl (Nat.le_of_ble_eq_true rfl) rfl rfl (Or.inr ⟨_, _, rfl, rcv mC_16 rfl wid_55 (by decide +kernel)⟩) (Or.inl (wid_55.trans wid_16.symm))
theorem r55_40 : runs cal 55 40 [v0, v1, v2, v3, vI u, v5, v6] [vI x0] I = runs cal 55 42 [v0, v1, v2, v3, vI u, vI x0, v6] [] I := runs_to (ins_of mI_55 (by rfl)) rfl rfl
theorem r55_42 : runs cal 55 42 [v0, v1, v2, v3, v4, vI w, v6] [] I = runs cal 55 44 [v0, v1, v2, v3, v4, vI w, v6] [vI w] I := runs_to (ins_of mI_55 (by rfl)) rfl rfl
theorem r55_44 : runs cal 55 44 [v0, v1, v2, v3, v4, v5, v6] [vI x0] I = runs cal 55 45 [v0, v1, v2, v3, v4, v5, v6] [vI (-1), vI x0] I := runs_to (ins_of mI_55 (by rfl)) rfl rfl
theorem r55_45 : runs cal 55 45 [v0, v1, v2, v3, v4, v5, v6] [vI x0, vI x1] I = if x1 = x0 then runs cal 55 48 [v0, v1, v2, v3, v4, v5, v6] [] I else runs cal 55 52 [v0, v1, v2, v3, v4, v5, v6] [] I := st_cmp_ne (ins_of mI_55 (by rfl)) (by decide)
theorem r55_48 : runs cal 55 48 [v0, v1, v2, v3, v4, v5, v6] [] I = runs cal 55 49 [v0, v1, v2, v3, v4, v5, v6] [vI (-1)] I := runs_to (ins_of mI_55 (by rfl)) rfl rfl
theorem r55_49 : runs cal 55 49 [v0, v1, v2, v3, v4, v5, v6] [vI x0] I = runs cal 55 69 [v0, v1, v2, v3, v4, v5, v6] [vI x0] I := st_goto (ins_of mI_55 (by rfl)) (by decide)
theorem r55_52 : runs cal 55 52 [v0, v1, v2, v3, v4, v5, v6] [] I = runs cal 55 55 [v0, v1, v2, v3, v4, v5, v6] [vI (256)] I := runs_to (ins_of mI_55 (by rfl)) rfl rfl
theorem r55_55 : runs cal 55 55 [v0, v1, v2, v3, v4, v5, v6] [vI x0] I = runs cal 55 57 [v0, v1, v2, v3, v4, v5, v6] [vI (64), vI x0] I := runs_to (ins_of mI_55 (by rfl)) rfl rfl
theorem r55_57 : runs cal 55 57 [v0, v1, vI w, v3, v4, v5, v6] [vI x0, vI x1] I = runs cal 55 58 [v0, v1, vI w, v3, v4, v5, v6] [vI w, vI x0, vI x1] I := runs_to (ins_of mI_55 (by rfl)) rfl rfl
theorem r55_58 : runs cal 55 58 [v0, v1, v2, v3, v4, v5, v6] [vI x0, vI x1, vI x2] I = runs cal 55 59 [v0, v1, v2, v3, v4, v5, v6] [vI (imul x1 x0), vI x2] I := runs_to (ins_of mI_55 (by rfl)) rfl rfl
theorem r55_59 : runs cal 55 59 [v0, v1, v2, v3, v4, v5, v6] [vI x0, vI x1] I = runs cal 55 60 [v0, v1, v2, v3, v4, v5, v6] [vI (iadd x1 x0)] I := runs_to (ins_of mI_55 (by rfl)) rfl rfl
theorem r55_60 : runs cal 55 60 [v0, v1, v2, v3, v4, v5, v6] [vI x0] I = runs cal 55 62 [v0, v1, v2, v3, v4, v5, v6] [vI (8), vI x0] I := runs_to (ins_of mI_55 (by rfl)) rfl rfl
theorem r55_62 : runs cal 55 62 [v0, v1, v2, v3, v4, vI w, v6] [vI x0, vI x1] I = runs cal 55 64 [v0, v1, v2, v3, v4, vI w, v6] [vI w, vI x0, vI x1] I := runs_to (ins_of mI_55 (by rfl)) rfl rfl
theorem r55_64 : runs cal 55 64 [v0, v1, v2, v3, v4, v5, v6] [vI x0, vI x1, vI x2] I = runs cal 55 65 [v0, v1, v2, v3, v4, v5, v6] [vI (imul x1 x0), vI x2] I := runs_to (ins_of mI_55 (by rfl)) rfl rfl
theorem r55_65 : runs cal 55 65 [v0, v1, v2, v3, v4, v5, v6] [vI x0, vI x1] I = runs cal 55 66 [v0, v1, v2, v3, v4, v5, v6] [vI (iadd x1 x0)] I := runs_to (ins_of mI_55 (by rfl)) rfl rfl
theorem r55_66 : runs cal 55 66 [v0, v1, v2, v3, vI w, v5, v6] [vI x0] I = runs cal 55 68 [v0, v1, v2, v3, vI w, v5, v6] [vI w, vI x0] I := runs_to (ins_of mI_55 (by rfl)) rfl rfl
theorem r55_68 : runs cal 55 68 [v0, v1, v2, v3, v4, v5, v6] [vI x0, vI x1] I = runs cal 55 69 [v0, v1, v2, v3, v4, v5, v6] [vI (iadd x1 x0)] I := runs_to (ins_of mI_55 (by rfl)) rfl rfl
theorem r55_69 : runs cal 55 69 [v0, v1, v2, v3, v4, v5, v6] [vI x0] I = some (some (vI x0), I) := st_ret (q := some (vI x0)) (k := 0) (ins_of mI_55 (by rfl)) rfl (by decide) mR_55 rfl trivial
theorem r55_70 : runs cal 55 70 [v0, v1, v2, vI w, v4, v5, v6] [] I = runs cal 55 71 [v0, v1, v2, vI w, v4, v5, v6] [vI w] I := runs_to (ins_of mI_55 (by rfl)) rfl rfl
theorem r55_71 : runs cal 55 71 [v0, v1, v2, v3, v4, v5, v6] [vI x0] I = runs cal 55 72 [v0, v1, v2, v3, v4, v5, v6] [vI (3), vI x0] I := runs_to (ins_of mI_55 (by rfl)) rfl rfl
theorem r55_72 : runs cal 55 72 [v0, v1, v2, v3, v4, v5, v6] [vI x0, vI x1] I = if x1 = x0 then runs cal 55 75 [v0, v1, v2, v3, v4, v5, v6] [] I else runs cal 55 134 [v0, v1, v2, v3, v4, v5, v6] [] I := st_cmp_ne (ins_of mI_55 (by rfl)) (by decide)
theorem r55_75 : runs cal 55 75 [v0, vR 2, v2, v3, v4, v5, v6] [] I = runs cal 55 76 [v0, vR 2, v2, v3, v4, v5, v6] [vR 2] I := runs_to (ins_of mI_55 (by rfl)) rfl rfl
theorem r55_76 : runs cal 55 76 [vR 34, v1, v2, v3, v4, v5, v6] [vR 2] I = runs cal 55 77 [vR 34, v1, v2, v3, v4, v5, v6] [vR 34, vR 2] I := runs_to (ins_of mI_55 (by rfl)) rfl rfl
theorem r55_77 : runs cal 55 77 [v0, v1, v2, v3, v4, v5, v6] [vR 34, vR 2] I = runs cal 55 80 [v0, v1, v2, v3, v4, v5, v6] [vI (I 34 1), vR 2] I := st_getI (ins_of mI_55 (by rfl)) mC_55 (by decide) fr_3_27 cT_34 (wdc wid_55 wd_34) (Or.inl rfl)
theorem r55_80 : runs cal 55 80 [v0, v1, vI w, v3, v4, v5, v6] [vI x0, vR 2] I = runs cal 55 81 [v0, v1, vI w, v3, v4, v5, v6] [vI w, vI x0, vR 2] I := runs_to (ins_of mI_55 (by rfl)) rfl rfl
theorem r55_81 : runs cal 55 81 [v0, v1, v2, v3, v4, v5, v6] [vI x0, vI x1, vR 2] I = (cal 7 [vR 2, vI x1, vI x0] I).bind (fun q => runs cal 55 84 [v0, v1, v2, v3, v4, v5, v6] (pushR q.1 []) q.2) := st_call (st := false) (ins_of mI_55 (by rfl)) mC_55 mr_3_74 (by decide) mS_7 mN_7 rfl (Nat.le_of_ble_eq_true rfl) rfl rfl (Or.inr ⟨_, _, rfl, rcv mC_7 rfl wid_55 (by decide +kernel)⟩) (Or.inl (wid_55.trans wid_7.symm))
theorem r55_84 : runs cal 55 84 [v0, v1, v2, v3, vI w, v5, v6] [vI x0] I = runs cal 55 86 [v0, v1, v2, v3, vI w, v5, v6] [vI w, vI x0] I := runs_to (ins_of mI_55 (by rfl)) rfl rfl
theorem r55_86 : runs cal 55 86 [v0, v1, v2, v3, v4, v5, v6] [vI x0, vI x1] I = if x0 = 0 then runs cal 55 89 [v0, v1, v2, v3, v4, v5, v6] [vI x1] I else runs cal 55 93 [v0, v1, v2, v3, v4, v5, v6] [vI x1] I := st_if_ne (ins_of mI_55 (by rfl)) (by decide)
theorem r55_89 : runs cal 55 89 [v0, v1, v2, v3, v4, v5, v6] [vI x0] I = runs cal 55 90 [v0, v1, v2, v3, v4, v5, v6] [vI (1), vI x0] I := runs_to (ins_of mI_55 (by rfl)) rfl rfl
theorem r55_90 : runs cal 55 90 [v0, v1, v2, v3, v4, v5, v6] [vI x0, vI x1] I = runs cal 55 94 [v0, v1, v2, v3, v4, v5, v6] [vI x0, vI x1] I := st_goto (ins_of mI_55 (by rfl)) (by decide)
theorem r55_93 : runs cal 55 93 [v0, v1, v2, v3, v4, v5, v6] [vI x0] I = runs cal 55 94 [v0, v1, v2, v3, v4, v5, v6] [vI (-1), vI x0] I := runs_to (ins_of mI_55 (by rfl)) rfl rfl
theorem r55_94 : runs cal 55 94 [v0, v1, v2, v3, v4, v5, v6] [vI x0, vI x1] I = runs cal 55 95 [v0, v1, v2, v3, v4, v5, v6] [vI (iadd x1 x0)] I := runs_to (ins_of mI_55 (by rfl)) rfl rfl
theorem r55_95 : runs cal 55 95 [v0, v1, v2, v3, vI u, v5, v6] [vI x0] I = runs cal 55 97 [v0, v1, v2, v3, vI u, vI x0, v6] [] I := runs_to (ins_of mI_55 (by rfl)) rfl rfl
theorem r55_97 : runs cal 55 97 [v0, vR 2, v2, v3, v4, v5, v6] [] I = runs cal 55 98 [v0, vR 2, v2, v3, v4, v5, v6] [vR 2] I := runs_to (ins_of mI_55 (by rfl)) rfl rfl
theorem r55_98 : runs cal 55 98 [vR 34, v1, v2, v3, v4, v5, v6] [vR 2] I = runs cal 55 99 [vR 34, v1, v2, v3, v4, v5, v6] [vR 34, vR 2] I := runs_to (ins_of mI_55 (by rfl)) rfl rfl
theorem r55_99 : runs cal 55 99 [v0, v1, v2, v3, v4, v5, v6] [vR 34, vR 2] I = runs cal 55 102 [v0, v1, v2, v3, v4, v5, v6] [vI (I 34 1), vR 2] I := st_getI (ins_of mI_55 (by rfl)) mC_55 (by decide) fr_3_27 cT_34 (wdc wid_55 wd_34) (Or.inl rfl)
theorem r55_102 : runs cal 55 102 [v0, v1, v2, v3, v4, vI w, v6] [vI x0, vR 2] I = runs cal 55 104 [v0, v1, v2, v3, v4, vI w, v6] [vI w, vI x0, vR 2] I := runs_to (ins_of mI_55 (by rfl)) rfl rfl
theorem r55_104 : runs cal 55 104 [v0, v1, v2, v3, v4, v5, v6] [vI x0, vI x1, vR 2] I = (cal 26 [vR 2, vI x1, vI x0] I).bind (fun q => runs cal 55 107 [v0, v1, v2, v3, v4, v5, v6] (pushR q.1 []) q.2) := st_call (st := false) (ins_of mI_55 (by rfl)) mC_55 mr_3_108 (by decide) mS_26 mN_26 rfl (Nat.le_of_ble_eq_true rfl) rfl rfl (Or.inr ⟨_, _, rfl, rcv mC_26 rfl wid_55 (by decide +kernel)⟩) (Or.inl (wid_55.trans wid_26.symm))
theorem r55_107 : runs cal 55 107 [v0, v1, v2, v3, v4, vI u, v6] [vI x0] I = runs cal 55 109 [v0, v1, v2, v3, v4, vI u, vI x0] [] I := runs_to (ins_of mI_55 (by rfl)) rfl rfl
theorem r55_109 : runs cal 55 109 [v0, v1, v2, v3, v4, v5, vI w] [] I = runs cal 55 111 [v0, v1, v2, v3, v4, v5, vI w] [vI w] I := runs_to (ins_of mI_55 (by rfl)) rfl rfl
theorem r55_111 : runs cal 55 111 [v0, v1, v2, v3, v4, v5, v6] [vI x0] I = runs cal 55 112 [v0, v1, v2, v3, v4, v5, v6] [vI (-1), vI x0] I := runs_to (ins_of mI_55 (by rfl)) rfl rfl
theorem r55_112 : runs cal 55 112 [v0, v1, v2, v3, v4, v5, v6] [vI x0, vI x1] I = if x1 = x0 then runs cal 55 115 [v0, v1, v2, v3, v4, v5, v6] [] I else runs cal 55 119 [v0, v1, v2, v3, v4, v5, v6] [] I := st_cmp_ne (ins_of mI_55 (by rfl)) (by decide)
theorem r55_115 : runs cal 55 115 [v0, v1, v2, v3, v4, v5, v6] [] I = runs cal 55 116 [v0, v1, v2, v3, v4, v5, v6] [vI (-1)] I := runs_to (ins_of mI_55 (by rfl)) rfl rfl
theorem r55_116 : runs cal 55 116 [v0, v1, v2, v3, v4, v5, v6] [vI x0] I = runs cal 55 133 [v0, v1, v2, v3, v4, v5, v6] [vI x0] I := st_goto (ins_of mI_55 (by rfl)) (by decide)
theorem r55_119 : runs cal 55 119 [v0, v1, v2, v3, v4, v5, v6] [] I = runs cal 55 122 [v0, v1, v2, v3, v4, v5, v6] [vI (512)] I := runs_to (ins_of mI_55 (by rfl)) rfl rfl
theorem r55_122 : runs cal 55 122 [v0, v1, v2, v3, v4, v5, v6] [vI x0] I = runs cal 55 124 [v0, v1, v2, v3, v4, v5, v6] [vI (64), vI x0] I := runs_to (ins_of mI_55 (by rfl)) rfl rfl
theorem r55_124 : runs cal 55 124 [v0, v1, vI w, v3, v4, v5, v6] [vI x0, vI x1] I = runs cal 55 125 [v0, v1, vI w, v3, v4, v5, v6] [vI w, vI x0, vI x1] I := runs_to (ins_of mI_55 (by rfl)) rfl rfl
theorem r55_125 : runs cal 55 125 [v0, v1, v2, v3, v4, v5, v6] [vI x0, vI x1, vI x2] I = runs cal 55 126 [v0, v1, v2, v3, v4, v5, v6] [vI (imul x1 x0), vI x2] I := runs_to (ins_of mI_55 (by rfl)) rfl rfl
theorem r55_126 : runs cal 55 126 [v0, v1, v2, v3, v4, v5, v6] [vI x0, vI x1] I = runs cal 55 127 [v0, v1, v2, v3, v4, v5, v6] [vI (iadd x1 x0)] I := runs_to (ins_of mI_55 (by rfl)) rfl rfl
theorem r55_127 : runs cal 55 127 [v0, v1, v2, v3, v4, v5, v6] [vI x0] I = runs cal 55 129 [v0, v1, v2, v3, v4, v5, v6] [vI (8), vI x0] I := runs_to (ins_of mI_55 (by rfl)) rfl rfl
theorem r55_129 : runs cal 55 129 [v0, v1, v2, v3, v4, v5, vI w] [vI x0, vI x1] I = runs cal 55 131 [v0, v1, v2, v3, v4, v5, vI w] [vI w, vI x0, vI x1] I := runs_to (ins_of mI_55 (by rfl)) rfl rfl
theorem r55_131 : runs cal 55 131 [v0, v1, v2, v3, v4, v5, v6] [vI x0, vI x1, vI x2] I = runs cal 55 132 [v0, v1, v2, v3, v4, v5, v6] [vI (imul x1 x0), vI x2] I := runs_to (ins_of mI_55 (by rfl)) rfl rfl
theorem r55_132 : runs cal 55 132 [v0, v1, v2, v3, v4, v5, v6] [vI x0, vI x1] I = runs cal 55 133 [v0, v1, v2, v3, v4, v5, v6] [vI (iadd x1 x0)] I := runs_to (ins_of mI_55 (by rfl)) rfl rfl
theorem r55_133 : runs cal 55 133 [v0, v1, v2, v3, v4, v5, v6] [vI x0] I = some (some (vI x0), I) := st_ret (q := some (vI x0)) (k := 0) (ins_of mI_55 (by rfl)) rfl (by decide) mR_55 rfl trivial
theorem r55_134 : runs cal 55 134 [v0, v1, v2, v3, v4, v5, v6] [] I = runs cal 55 135 [v0, v1, v2, v3, v4, v5, v6] [vI (-1)] I := runs_to (ins_of mI_55 (by rfl)) rfl rfl
theorem r55_135 : runs cal 55 135 [v0, v1, v2, v3, v4, v5, v6] [vI x0] I = some (some (vI x0), I) := st_ret (q := some (vI x0)) (k := 0) (ins_of mI_55 (by rfl)) rfl (by decide) mR_55 rfl trivial
theorem r56_0 : runs cal 56 0 [vR 25, v1] [] I = runs cal 56 1 [vR 25, v1] [vR 25] I := runs_to (ins_of mI_56 (by rfl)) rfl rfl
theorem r56_1 : runs cal 56 1 [v0, v1] [vR 25] I = runs cal 56 4 [v0, v1] [vI (I 25 1)] I := st_getI (ins_of mI_56 (by rfl)) mC_56 (by decide) fr_4_13 cT_25 (wdc wid_56 wd_25) (Or.inl rfl)
theorem r56_4 : runs cal 56 4 [v0, v1] [vI x0] I = runs cal 56 6 [v0, v1] [vI (8), vI x0] I := runs_to (ins_of mI_56 (by rfl)) rfl rfl
theorem r56_6 : runs cal 56 6 [v0, v1] [vI x0, vI x1] I = if x1 < x0 then runs cal 56 30 [v0, v1] [] I else runs cal 56 9 [v0, v1] [] I := st_cmp_lt (ins_of mI_56 (by rfl)) (by decide)
theorem r56_9 : runs cal 56 9 [vR 25, v1] [] I = runs cal 56 10 [vR 25, v1] [vR 25] I := runs_to (ins_of mI_56 (by rfl)) rfl rfl
theorem r56_10 : runs cal 56 10 [v0, v1] [vR 25] I = runs cal 56 13 [v0, v1] [vR 26] I := st_getR (ins_of mI_56 (by rfl)) mC_56 (by decide) fr_4_9 cT_25 (wdc wid_56 wd_25) rfl rfl
theorem r56_13 : runs cal 56 13 [v0, v1] [vR 26] I = runs cal 56 14 [v0, v1] [vI (1), vR 26] I := runs_to (ins_of mI_56 (by rfl)) rfl rfl
theorem r56_14 : runs cal 56 14 [vR 25, v1] [vI x0, vR 26] I = runs cal 56 15 [vR 25, v1] [vR 25, vI x0, vR 26] I := runs_to (ins_of mI_56 (by rfl)) rfl rfl
theorem r56_15 : runs cal 56 15 [v0, v1] [vR 25, vI x1, vR 26] I = runs cal 56 18 [v0, v1] [vR 26, vI x1, vR 26] I := st_getR (ins_of mI_56 (by rfl)) mC_56 (by decide) fr_4_9 cT_25 (wdc wid_56 wd_25) rfl rfl
theorem r56_18 : runs cal 56 18 [v0, v1] [vR 26, vI x1, vR 26] I = runs cal 56 19 [v0, v1] [vI (0), vR 26, vI x1, vR 26] I := runs_to (ins_of mI_56 (by rfl)) rfl rfl
theorem r56_19 : runs cal 56 19 [v0, v1] [vI x0, vR 26, vI x2, vR 26] I = runs cal 56 21 [v0, v1] [vI (7), vI x0, vR 26, vI x2, vR 26] I := runs_to (ins_of mI_56 (by rfl)) rfl rfl
theorem r56_21 : runs cal 56 21 [v0, v1] [vI x0, vI x1, vR 26, vI x3, vR 26] I = if 0 ≤ x3 ∧ 0 ≤ x1 ∧ 0 ≤ x0 ∧ x3 + x0 ≤ 8 ∧ x1 + x0 ≤ 8 then runs cal 56 24 [v0, v1] [] (mcpy I 26 x3 26 x1 x0) else none := st_copy (ins_of mI_56 (by rfl)) mC_56 mr_4_17 cT_26 cT_26 (wdc wid_56 wd_26) (wdc wid_56 wd_26) (by decide)
theorem r56_24 : runs cal 56 24 [vR 25, v1] [] I = runs cal 56 25 [vR 25, v1] [vR 25] I := runs_to (ins_of mI_56 (by rfl)) rfl rfl
theorem r56_25 : runs cal 56 25 [v0, v1] [vR 25] I = runs cal 56 27 [v0, v1] [vI (7), vR 25] I := runs_to (ins_of mI_56 (by rfl)) rfl rfl
theorem r56_27 : runs cal 56 27 [v0, v1] [vI x0, vR 25] I = runs cal 56 30 [v0, v1] [] (mset I 25 1 x0) := st_putI (ins_of mI_56 (by rfl)) mC_56 fr_4_13 cT_25 (wdc wid_56 wd_25) rfl
theorem r56_30 : runs cal 56 30 [vR 25, v1] [] I = runs cal 56 31 [vR 25, v1] [vR 25] I := runs_to (ins_of mI_56 (by rfl)) rfl rfl
theorem r56_31 : runs cal 56 31 [v0, v1] [vR 25] I = runs cal 56 34 [v0, v1] [vR 26] I := st_getR (ins_of mI_56 (by rfl)) mC_56 (by decide) fr_4_9 cT_25 (wdc wid_56 wd_25) rfl rfl
theorem r56_34 : runs cal 56 34 [vR 25, v1] [vR 26] I = runs cal 56 35 [vR 25, v1] [vR 25, vR 26] I := runs_to (ins_of mI_56 (by rfl)) rfl rfl
theorem r56_35 : runs cal 56 35 [v0, v1] [vR 25, vR 26] I = runs cal 56 38 [v0, v1] [vI (I 25 1), vR 26] I := st_getI (ins_of mI_56 (by rfl)) mC_56 (by decide) fr_4_13 cT_25 (wdc wid_56 wd_25) (Or.inl rfl)
theorem r56_38 : runs cal 56 38 [v0, vI w] [vI x0, vR 26] I = runs cal 56 39 [v0, vI w] [vI w, vI x0, vR 26] I := runs_to (ins_of mI_56 (by rfl)) rfl rfl
theorem r56_39 : runs cal 56 39 [v0, v1] [vI x0, vI x1, vR 26] I = if 0 ≤ x1 ∧ x1 < 8 then runs cal 56 40 [v0, v1] [] (mset I 26 x1 x0) else none := st_iast (ins_of mI_56 (by rfl)) cT_26 (wdc wid_56 wd_26)
theorem r56_40 : runs cal 56 40 [vR 25, v1] [] I = runs cal 56 41 [vR 25, v1] [vR 25] I := runs_to (ins_of mI_56 (by rfl)) rfl rfl
theorem r56_41 : runs cal 56 41 [v0, v1] [vR 25] I = runs cal 56 42 [v0, v1] [vR 25, vR 25] I := runs_to (ins_of mI_56 (by rfl)) rfl rfl
theorem r56_42 : runs cal 56 42 [v0, v1] [vR 25, vR 25] I = runs cal 56 45 [v0, v1] [vI (I 25 1), vR 25] I := st_getI (ins_of mI_56 (by rfl)) mC_56 (by decide) fr_4_13 cT_25 (wdc wid_56 wd_25) (Or.inl rfl)
theorem r56_45 : runs cal 56 45 [v0, v1] [vI x0, vR 25] I = runs cal 56 46 [v0, v1] [vI (1), vI x0, vR 25] I := runs_to (ins_of mI_56 (by rfl)) rfl rfl
theorem r56_46 : runs cal 56 46 [v0, v1] [vI x0, vI x1, vR 25] I = runs cal 56 47 [v0, v1] [vI (iadd x1 x0), vR 25] I := runs_to (ins_of mI_56 (by rfl)) rfl rfl
theorem r56_47 : runs cal 56 47 [v0, v1] [vI x0, vR 25] I = runs cal 56 50 [v0, v1] [] (mset I 25 1 x0) := st_putI (ins_of mI_56 (by rfl)) mC_56 fr_4_13 cT_25 (wdc wid_56 wd_25) rfl
theorem r56_50 : runs cal 56 50 [v0, v1] [] I = some (none, I) := st_ret (q := none) (k := 3) (ins_of mI_56 (by rfl)) rfl (by decide) mR_56 rfl trivial
theorem r57_0 : runs cal 57 0 [vR 25] [] I = runs cal 57 1 [vR 25] [vR 25] I := runs_to (ins_of mI_57 (by rfl)) rfl rfl
theorem r57_1 : runs cal 57 1 [v0] [vR 25] I = runs cal 57 4 [v0] [vI (I 25 1)] I := st_getI (ins_of mI_57 (by rfl)) mC_57 (by decide) fr_4_13 cT_25 (wdc wid_57 wd_25) (Or.inl rfl)
theorem r57_4 : runs cal 57 4 [v0] [vI x0] I = runs cal 57 5 [v0] [vI (1), vI x0] I := runs_to (ins_of mI_57 (by rfl)) rfl rfl
theorem r57_5 : runs cal 57 5 [v0] [vI x0, vI x1] I = if x1 < x0 then runs cal 57 17 [v0] [] I else runs cal 57 8 [v0] [] I := st_cmp_lt (ins_of mI_57 (by rfl)) (by decide)
theorem r57_8 : runs cal 57 8 [vR 25] [] I = runs cal 57 9 [vR 25] [vR 25] I := runs_to (ins_of mI_57 (by rfl)) rfl rfl
theorem r57_9 : runs cal 57 9 [v0] [vR 25] I = runs cal 57 12 [v0] [vI (I 25 1)] I := st_getI (ins_of mI_57 (by rfl)) mC_57 (by decide) fr_4_13 cT_25 (wdc wid_57 wd_25) (Or.inl rfl)
theorem r57_12 : runs cal 57 12 [v0] [vI x0] I = runs cal 57 14 [v0] [vI (8), vI x0] I := runs_to (ins_of mI_57 (by rfl)) rfl rfl
theorem r57_14 : runs cal 57 14 [v0] [vI x0, vI x1] I = if x0 < x1 then runs cal 57 17 [v0] [] I else runs cal 57 19 [v0] [] I := st_cmp_le (ins_of mI_57 (by rfl)) (by decide)
theorem r57_17 : runs cal 57 17 [v0] [] I = runs cal 57 18 [v0] [vI (0)] I := runs_to (ins_of mI_57 (by rfl)) rfl rfl
theorem r57_18 : runs cal 57 18 [v0] [vI x0] I = some (some (vI x0), I) := st_ret (q := some (vI x0)) (k := 0) (ins_of mI_57 (by rfl)) rfl (by decide) mR_57 rfl trivial
theorem r57_19 : runs cal 57 19 [vR 25] [] I = runs cal 57 20 [vR 25] [vR 25] I := runs_to (ins_of mI_57 (by rfl)) rfl rfl
theorem r57_20 : runs cal 57 20 [v0] [vR 25] I = runs cal 57 21 [v0] [vR 25, vR 25] I := runs_to (ins_of mI_57 (by rfl)) rfl rfl
theorem r57_21 : runs cal 57 21 [v0] [vR 25, vR 25] I = runs cal 57 24 [v0] [vI (I 25 1), vR 25] I := st_getI (ins_of mI_57 (by rfl)) mC_57 (by decide) fr_4_13 cT_25 (wdc wid_57 wd_25) (Or.inl rfl)
theorem r57_24 : runs cal 57 24 [v0] [vI x0, vR 25] I = runs cal 57 25 [v0] [vI (1), vI x0, vR 25] I := runs_to (ins_of mI_57 (by rfl)) rfl rfl
theorem r57_25 : runs cal 57 25 [v0] [vI x0, vI x1, vR 25] I = runs cal 57 26 [v0] [vI (isub x1 x0), vR 25] I := runs_to (ins_of mI_57 (by rfl)) rfl rfl
theorem r57_26 : runs cal 57 26 [v0] [vI x0, vR 25] I = runs cal 57 29 [v0] [] (mset I 25 1 x0) := st_putI (ins_of mI_57 (by rfl)) mC_57 fr_4_13 cT_25 (wdc wid_57 wd_25) rfl
theorem r57_29 : runs cal 57 29 [vR 25] [] I = runs cal 57 30 [vR 25] [vR 25] I := runs_to (ins_of mI_57 (by rfl)) rfl rfl
theorem r57_30 : runs cal 57 30 [v0] [vR 25] I = runs cal 57 33 [v0] [vR 26] I := st_getR (ins_of mI_57 (by rfl)) mC_57 (by decide) fr_4_9 cT_25 (wdc wid_57 wd_25) rfl rfl
theorem r57_33 : runs cal 57 33 [vR 25] [vR 26] I = runs cal 57 34 [vR 25] [vR 25, vR 26] I := runs_to (ins_of mI_57 (by rfl)) rfl rfl
theorem r57_34 : runs cal 57 34 [v0] [vR 25, vR 26] I = runs cal 57 37 [v0] [vI (I 25 1), vR 26] I := st_getI (ins_of mI_57 (by rfl)) mC_57 (by decide) fr_4_13 cT_25 (wdc wid_57 wd_25) (Or.inl rfl)
theorem r57_37 : runs cal 57 37 [v0] [vI x0, vR 26] I = if 0 ≤ x0 ∧ x0 < 8 then runs cal 57 38 [v0] [vI (I 26 x0)] I else none := st_iald (ins_of mI_57 (by rfl)) cT_26 (wdc wid_57 wd_26)
theorem r57_38 : runs cal 57 38 [v0] [vI x0] I = some (some (vI x0), I) := st_ret (q := some (vI x0)) (k := 0) (ins_of mI_57 (by rfl)) rfl (by decide) mR_57 rfl trivial
theorem r58_0 : runs cal 58 0 [v0, vR 53] [] I = runs cal 58 1 [v0, vR 53] [vR 53] I := runs_to (ins_of mI_58 (by rfl)) rfl rfl
theorem r58_1 : runs cal 58 1 [v0, v1] [vR 53] I = runs cal 58 4 [v0, v1] [vR 54] I := st_getR (ins_of mI_58 (by rfl)) mC_58 (by decide) fr_4_9 cT_53 (wdc wid_58 wd_53) rfl rfl
theorem r58_4 : runs cal 58 4 [v0, v1] [vR 54] I = runs cal 58 5 [v0, v1] [vI (0), vR 54] I := runs_to (ins_of mI_58 (by rfl)) rfl rfl
theorem r58_5 : runs cal 58 5 [vR 25, v1] [vI x0, vR 54] I = runs cal 58 6 [vR 25, v1] [vR 25, vI x0, vR 54] I := runs_to (ins_of mI_58 (by rfl)) rfl rfl
theorem r58_6 : runs cal 58 6 [v0, v1] [vR 25, vI x1, vR 54] I = runs cal 58 9 [v0, v1] [vR 26, vI x1, vR 54] I := st_getR (ins_of mI_58 (by rfl)) mC_58 (by decide) fr_4_9 cT_25 (wdc wid_58 wd_25) rfl rfl
theorem r58_9 : runs cal 58 9 [v0, v1] [vR 26, vI x1, vR 54] I = runs cal 58 10 [v0, v1] [vI (0), vR 26, vI x1, vR 54] I := runs_to (ins_of mI_58 (by rfl)) rfl rfl
theorem r58_10 : runs cal 58 10 [v0, v1] [vI x0, vR 26, vI x2, vR 54] I = runs cal 58 12 [v0, v1] [vI (8), vI x0, vR 26, vI x2, vR 54] I := runs_to (ins_of mI_58 (by rfl)) rfl rfl
theorem r58_12 : runs cal 58 12 [v0, v1] [vI x0, vI x1, vR 26, vI x3, vR 54] I = if 0 ≤ x3 ∧ 0 ≤ x1 ∧ 0 ≤ x0 ∧ x3 + x0 ≤ 8 ∧ x1 + x0 ≤ 8 then runs cal 58 15 [v0, v1] [] (mcpy I 54 x3 26 x1 x0) else none := st_copy (ins_of mI_58 (by rfl)) mC_58 mr_4_17 cT_54 cT_26 (wdc wid_58 wd_54) (wdc wid_58 wd_26) (by decide)
theorem r58_15 : runs cal 58 15 [vR 25, v1] [] I = runs cal 58 16 [vR 25, v1] [vR 25] I := runs_to (ins_of mI_58 (by rfl)) rfl rfl
theorem r58_16 : runs cal 58 16 [v0, vR 53] [vR 25] I = runs cal 58 17 [v0, vR 53] [vR 53, vR 25] I := runs_to (ins_of mI_58 (by rfl)) rfl rfl
theorem r58_17 : runs cal 58 17 [v0, v1] [vR 53, vR 25] I = runs cal 58 20 [v0, v1] [vI (I 53 1), vR 25] I := st_getI (ins_of mI_58 (by rfl)) mC_58 (by decide) fr_4_13 cT_53 (wdc wid_58 wd_53) (Or.inl rfl)
theorem r58_20 : runs cal 58 20 [v0, v1] [vI x0, vR 25] I = runs cal 58 23 [v0, v1] [] (mset I 25 1 x0) := st_putI (ins_of mI_58 (by rfl)) mC_58 fr_4_13 cT_25 (wdc wid_58 wd_25) rfl
theorem r58_23 : runs cal 58 23 [v0, v1] [] I = some (none, I) := st_ret (q := none) (k := 3) (ins_of mI_58 (by rfl)) rfl (by decide) mR_58 rfl trivial
theorem r58_0a : runs cal 58 0 [v0, vR 68] [] I = runs cal 58 1 [v0, vR 68] [vR 68] I := runs_to (ins_of mI_58 (by rfl)) rfl rfl
theorem r58_1a : runs cal 58 1 [v0, v1] [vR 68] I = runs cal 58 4 [v0, v1] [vR 69] I := st_getR (ins_of mI_58 (by rfl)) mC_58 (by decide) fr_4_9 cT_68 (wdc wid_58 wd_68) rfl rfl
theorem r58_4a : runs cal 58 4 [v0, v1] [vR 69] I = runs cal 58 5 [v0, v1] [vI (0), vR 69] I := runs_to (ins_of mI_58 (by rfl)) rfl rfl
theorem r58_5a : runs cal 58 5 [vR 25, v1] [vI x0, vR 69] I = runs cal 58 6 [vR 25, v1] [vR 25, vI x0, vR 69] I := runs_to (ins_of mI_58 (by rfl)) rfl rfl
theorem r58_6a : runs cal 58 6 [v0, v1] [vR 25, vI x1, vR 69] I = runs cal 58 9 [v0, v1] [vR 26, vI x1, vR 69] I := st_getR (ins_of mI_58 (by rfl)) mC_58 (by decide) fr_4_9 cT_25 (wdc wid_58 wd_25) rfl rfl
theorem r58_9a : runs cal 58 9 [v0, v1] [vR 26, vI x1, vR 69] I = runs cal 58 10 [v0, v1] [vI (0), vR 26, vI x1, vR 69] I := runs_to (ins_of mI_58 (by rfl)) rfl rfl
theorem r58_10a : runs cal 58 10 [v0, v1] [vI x0, vR 26, vI x2, vR 69] I = runs cal 58 12 [v0, v1] [vI (8), vI x0, vR 26, vI x2, vR 69] I := runs_to (ins_of mI_58 (by rfl)) rfl rfl
theorem r58_12a : runs cal 58 12 [v0, v1] [vI x0, vI x1, vR 26, vI x3, vR 69] I = if 0 ≤ x3 ∧ 0 ≤ x1 ∧ 0 ≤ x0 ∧ x3 + x0 ≤ 8 ∧ x1 + x0 ≤ 8 then runs cal 58 15 [v0, v1] [] (mcpy I 69 x3 26 x1 x0) else none := st_copy (ins_of mI_58 (by rfl)) mC_58 mr_4_17 cT_69 cT_26 (wdc wid_58 wd_69) (wdc wid_58 wd_26) (by decide)
theorem r58_16a : runs cal 58 16 [v0, vR 68] [vR 25] I = runs cal 58 17 [v0, vR 68] [vR 68, vR 25] I := runs_to (ins_of mI_58 (by rfl)) rfl rfl
theorem r58_17a : runs cal 58 17 [v0, v1] [vR 68, vR 25] I = runs cal 58 20 [v0, v1] [vI (I 68 1), vR 25] I := st_getI (ins_of mI_58 (by rfl)) mC_58 (by decide) fr_4_13 cT_68 (wdc wid_58 wd_68) (Or.inl rfl)
theorem r58_0b : runs cal 58 0 [v0, vR 25] [] I = runs cal 58 1 [v0, vR 25] [vR 25] I := runs_to (ins_of mI_58 (by rfl)) rfl rfl
theorem r58_1b : runs cal 58 1 [v0, v1] [vR 25] I = runs cal 58 4 [v0, v1] [vR 26] I := st_getR (ins_of mI_58 (by rfl)) mC_58 (by decide) fr_4_9 cT_25 (wdc wid_58 wd_25) rfl rfl
theorem r58_4b : runs cal 58 4 [v0, v1] [vR 26] I = runs cal 58 5 [v0, v1] [vI (0), vR 26] I := runs_to (ins_of mI_58 (by rfl)) rfl rfl
theorem r58_5b : runs cal 58 5 [vR 53, v1] [vI x0, vR 26] I = runs cal 58 6 [vR 53, v1] [vR 53, vI x0, vR 26] I := runs_to (ins_of mI_58 (by rfl)) rfl rfl
theorem r58_6b : runs cal 58 6 [v0, v1] [vR 53, vI x1, vR 26] I = runs cal 58 9 [v0, v1] [vR 54, vI x1, vR 26] I := st_getR (ins_of mI_58 (by rfl)) mC_58 (by decide) fr_4_9 cT_53 (wdc wid_58 wd_53) rfl rfl
theorem r58_9b : runs cal 58 9 [v0, v1] [vR 54, vI x1, vR 26] I = runs cal 58 10 [v0, v1] [vI (0), vR 54, vI x1, vR 26] I := runs_to (ins_of mI_58 (by rfl)) rfl rfl
theorem r58_10b : runs cal 58 10 [v0, v1] [vI x0, vR 54, vI x2, vR 26] I = runs cal 58 12 [v0, v1] [vI (8), vI x0, vR 54, vI x2, vR 26] I := runs_to (ins_of mI_58 (by rfl)) rfl rfl
theorem r58_12b : runs cal 58 12 [v0, v1] [vI x0, vI x1, vR 54, vI x3, vR 26] I = if 0 ≤ x3 ∧ 0 ≤ x1 ∧ 0 ≤ x0 ∧ x3 + x0 ≤ 8 ∧ x1 + x0 ≤ 8 then runs cal 58 15 [v0, v1] [] (mcpy I 26 x3 54 x1 x0) else none := st_copy (ins_of mI_58 (by rfl)) mC_58 mr_4_17 cT_26 cT_54 (wdc wid_58 wd_26) (wdc wid_58 wd_54) (by decide)
theorem r58_15a : runs cal 58 15 [vR 53, v1] [] I = runs cal 58 16 [vR 53, v1] [vR 53] I := runs_to (ins_of mI_58 (by rfl)) rfl rfl
theorem r58_16b : runs cal 58 16 [v0, vR 25] [vR 53] I = runs cal 58 17 [v0, vR 25] [vR 25, vR 53] I := runs_to (ins_of mI_58 (by rfl)) rfl rfl
theorem r58_17b : runs cal 58 17 [v0, v1] [vR 25, vR 53] I = runs cal 58 20 [v0, v1] [vI (I 25 1), vR 53] I := st_getI (ins_of mI_58 (by rfl)) mC_58 (by decide) fr_4_13 cT_25 (wdc wid_58 wd_25) (Or.inl rfl)
theorem r58_20a : runs cal 58 20 [v0, v1] [vI x0, vR 53] I = runs cal 58 23 [v0, v1] [] (mset I 53 1 x0) := st_putI (ins_of mI_58 (by rfl)) mC_58 fr_4_13 cT_53 (wdc wid_58 wd_53) rfl
theorem r58_5c : runs cal 58 5 [vR 68, v1] [vI x0, vR 26] I = runs cal 58 6 [vR 68, v1] [vR 68, vI x0, vR 26] I := runs_to (ins_of mI_58 (by rfl)) rfl rfl
theorem r58_6c : runs cal 58 6 [v0, v1] [vR 68, vI x1, vR 26] I = runs cal 58 9 [v0, v1] [vR 69, vI x1, vR 26] I := st_getR (ins_of mI_58 (by rfl)) mC_58 (by decide) fr_4_9 cT_68 (wdc wid_58 wd_68) rfl rfl
theorem r58_9c : runs cal 58 9 [v0, v1] [vR 69, vI x1, vR 26] I = runs cal 58 10 [v0, v1] [vI (0), vR 69, vI x1, vR 26] I := runs_to (ins_of mI_58 (by rfl)) rfl rfl
theorem r58_10c : runs cal 58 10 [v0, v1] [vI x0, vR 69, vI x2, vR 26] I = runs cal 58 12 [v0, v1] [vI (8), vI x0, vR 69, vI x2, vR 26] I := runs_to (ins_of mI_58 (by rfl)) rfl rfl
theorem r58_12c : runs cal 58 12 [v0, v1] [vI x0, vI x1, vR 69, vI x3, vR 26] I = if 0 ≤ x3 ∧ 0 ≤ x1 ∧ 0 ≤ x0 ∧ x3 + x0 ≤ 8 ∧ x1 + x0 ≤ 8 then runs cal 58 15 [v0, v1] [] (mcpy I 26 x3 69 x1 x0) else none := st_copy (ins_of mI_58 (by rfl)) mC_58 mr_4_17 cT_26 cT_69 (wdc wid_58 wd_26) (wdc wid_58 wd_69) (by decide)
theorem r58_15b : runs cal 58 15 [vR 68, v1] [] I = runs cal 58 16 [vR 68, v1] [vR 68] I := runs_to (ins_of mI_58 (by rfl)) rfl rfl
theorem r58_16c : runs cal 58 16 [v0, vR 25] [vR 68] I = runs cal 58 17 [v0, vR 25] [vR 25, vR 68] I := runs_to (ins_of mI_58 (by rfl)) rfl rfl
theorem r58_17c : runs cal 58 17 [v0, v1] [vR 25, vR 68] I = runs cal 58 20 [v0, v1] [vI (I 25 1), vR 68] I := st_getI (ins_of mI_58 (by rfl)) mC_58 (by decide) fr_4_13 cT_25 (wdc wid_58 wd_25) (Or.inl rfl)
theorem r58_20b : runs cal 58 20 [v0, v1] [vI x0, vR 68] I = runs cal 58 23 [v0, v1] [] (mset I 68 1 x0) := st_putI (ins_of mI_58 (by rfl)) mC_58 fr_4_13 cT_68 (wdc wid_58 wd_68) rfl
theorem r59_0 : runs cal 59 0 [vR 21, v1] [] I = runs cal 59 1 [vR 21, v1] [vR 21] I := runs_to (ins_of mI_59 (by rfl)) rfl rfl
theorem r59_1 : runs cal 59 1 [v0, v1] [vR 21] I = runs cal 59 4 [v0, v1] [vI (I 21 1)] I := st_getI (ins_of mI_59 (by rfl)) mC_59 (by decide) fr_5_22 cT_21 (wdc wid_59 wd_21) (Or.inl rfl)
theorem r59_4 : runs cal 59 4 [v0, v1] [vI x0] I = runs cal 59 6 [v0, v1] [vI (40), vI x0] I := runs_to (ins_of mI_59 (by rfl)) rfl rfl
theorem r59_6 : runs cal 59 6 [v0, v1] [vI x0, vI x1] I = if x1 < x0 then runs cal 59 9 [v0, v1] [] I else runs cal 59 34 [v0, v1] [] I := st_cmp_ge (ins_of mI_59 (by rfl)) (by decide)
theorem r59_9 : runs cal 59 9 [vR 21, v1] [] I = runs cal 59 10 [vR 21, v1] [vR 21] I := runs_to (ins_of mI_59 (by rfl)) rfl rfl
theorem r59_10 : runs cal 59 10 [v0, v1] [vR 21] I = runs cal 59 13 [v0, v1] [vR 22] I := st_getR (ins_of mI_59 (by rfl)) mC_59 (by decide) fr_5_11 cT_21 (wdc wid_59 wd_21) rfl rfl
theorem r59_13 : runs cal 59 13 [vR 21, v1] [vR 22] I = runs cal 59 14 [vR 21, v1] [vR 21, vR 22] I := runs_to (ins_of mI_59 (by rfl)) rfl rfl
theorem r59_14 : runs cal 59 14 [v0, v1] [vR 21, vR 22] I = runs cal 59 17 [v0, v1] [vI (I 21 1), vR 22] I := st_getI (ins_of mI_59 (by rfl)) mC_59 (by decide) fr_5_22 cT_21 (wdc wid_59 wd_21) (Or.inl rfl)
theorem r59_17 : runs cal 59 17 [v0, vI w] [vI x0, vR 22] I = runs cal 59 18 [v0, vI w] [vI w, vI x0, vR 22] I := runs_to (ins_of mI_59 (by rfl)) rfl rfl
theorem r59_18 : runs cal 59 18 [v0, v1] [vI x0, vI x1, vR 22] I = if 0 ≤ x1 ∧ x1 < 40 then runs cal 59 19 [v0, v1] [] (mset I 22 x1 x0) else none := st_iast (ins_of mI_59 (by rfl)) cT_22 (wdc wid_59 wd_22)
theorem r59_19 : runs cal 59 19 [vR 21, v1] [] I = runs cal 59 20 [vR 21, v1] [vR 21] I := runs_to (ins_of mI_59 (by rfl)) rfl rfl
theorem r59_20 : runs cal 59 20 [v0, v1] [vR 21] I = runs cal 59 21 [v0, v1] [vR 21, vR 21] I := runs_to (ins_of mI_59 (by rfl)) rfl rfl
theorem r59_21 : runs cal 59 21 [v0, v1] [vR 21, vR 21] I = runs cal 59 24 [v0, v1] [vI (I 21 1), vR 21] I := st_getI (ins_of mI_59 (by rfl)) mC_59 (by decide) fr_5_22 cT_21 (wdc wid_59 wd_21) (Or.inl rfl)
theorem r59_24 : runs cal 59 24 [v0, v1] [vI x0, vR 21] I = runs cal 59 25 [v0, v1] [vI (1), vI x0, vR 21] I := runs_to (ins_of mI_59 (by rfl)) rfl rfl
theorem r59_25 : runs cal 59 25 [v0, v1] [vI x0, vI x1, vR 21] I = runs cal 59 26 [v0, v1] [vI (iadd x1 x0), vR 21] I := runs_to (ins_of mI_59 (by rfl)) rfl rfl
theorem r59_26 : runs cal 59 26 [v0, v1] [vI x0, vR 21] I = runs cal 59 29 [v0, v1] [] (mset I 21 1 x0) := st_putI (ins_of mI_59 (by rfl)) mC_59 fr_5_22 cT_21 (wdc wid_59 wd_21) rfl
theorem r59_29 : runs cal 59 29 [vR 21, v1] [] I = runs cal 59 30 [vR 21, v1] [vR 21] I := runs_to (ins_of mI_59 (by rfl)) rfl rfl
theorem r59_30 : runs cal 59 30 [v0, v1] [vR 21] I = runs cal 59 31 [v0, v1] [vI (0), vR 21] I := runs_to (ins_of mI_59 (by rfl)) rfl rfl
theorem r59_31 : runs cal 59 31 [v0, v1] [vI x0, vR 21] I = if x0 = 0 ∨ x0 = 1 then runs cal 59 34 [v0, v1] [] (mset I 21 6 x0) else none := st_putZ (ins_of mI_59 (by rfl)) mC_59 fr_5_26 cT_21 (wdc wid_59 wd_21) rfl
theorem r59_34 : runs cal 59 34 [v0, v1] [] I = some (none, I) := st_ret (q := none) (k := 3) (ins_of mI_59 (by rfl)) rfl (by decide) mR_59 rfl trivial
theorem r60_0 : runs cal 60 0 [vR 21] [] I = runs cal 60 1 [vR 21] [vR 21] I := runs_to (ins_of mI_60 (by rfl)) rfl rfl
theorem r60_1 : runs cal 60 1 [v0] [vR 21] I = runs cal 60 2 [v0] [vI (0), vR 21] I := runs_to (ins_of mI_60 (by rfl)) rfl rfl
theorem r60_2 : runs cal 60 2 [v0] [vI x0, vR 21] I = runs cal 60 5 [v0] [] (mset I 21 1 x0) := st_putI (ins_of mI_60 (by rfl)) mC_60 fr_5_22 cT_21 (wdc wid_60 wd_21) rfl
theorem r60_5 : runs cal 60 5 [vR 21] [] I = runs cal 60 6 [vR 21] [vR 21] I := runs_to (ins_of mI_60 (by rfl)) rfl rfl
theorem r60_6 : runs cal 60 6 [v0] [vR 21] I = runs cal 60 7 [v0] [vI (0), vR 21] I := runs_to (ins_of mI_60 (by rfl)) rfl rfl
theorem r60_7 : runs cal 60 7 [v0] [vI x0, vR 21] I = if x0 = 0 ∨ x0 = 1 then runs cal 60 10 [v0] [] (mset I 21 6 x0) else none := st_putZ (ins_of mI_60 (by rfl)) mC_60 fr_5_26 cT_21 (wdc wid_60 wd_21) rfl
theorem r60_10 : runs cal 60 10 [v0] [] I = some (none, I) := st_ret (q := none) (k := 3) (ins_of mI_60 (by rfl)) rfl (by decide) mR_60 rfl trivial
theorem r61_0 : runs cal 61 0 [v0, vR 49] [] I = runs cal 61 1 [v0, vR 49] [vR 49] I := runs_to (ins_of mI_61 (by rfl)) rfl rfl
theorem r61_1 : runs cal 61 1 [v0, v1] [vR 49] I = runs cal 61 4 [v0, v1] [vR 50] I := st_getR (ins_of mI_61 (by rfl)) mC_61 (by decide) fr_5_11 cT_49 (wdc wid_61 wd_49) rfl rfl
theorem r61_4 : runs cal 61 4 [v0, v1] [vR 50] I = runs cal 61 5 [v0, v1] [vI (0), vR 50] I := runs_to (ins_of mI_61 (by rfl)) rfl rfl
theorem r61_5 : runs cal 61 5 [vR 21, v1] [vI x0, vR 50] I = runs cal 61 6 [vR 21, v1] [vR 21, vI x0, vR 50] I := runs_to (ins_of mI_61 (by rfl)) rfl rfl
theorem r61_6 : runs cal 61 6 [v0, v1] [vR 21, vI x1, vR 50] I = runs cal 61 9 [v0, v1] [vR 22, vI x1, vR 50] I := st_getR (ins_of mI_61 (by rfl)) mC_61 (by decide) fr_5_11 cT_21 (wdc wid_61 wd_21) rfl rfl
theorem r61_9 : runs cal 61 9 [v0, v1] [vR 22, vI x1, vR 50] I = runs cal 61 10 [v0, v1] [vI (0), vR 22, vI x1, vR 50] I := runs_to (ins_of mI_61 (by rfl)) rfl rfl
theorem r61_10 : runs cal 61 10 [v0, v1] [vI x0, vR 22, vI x2, vR 50] I = runs cal 61 12 [v0, v1] [vI (40), vI x0, vR 22, vI x2, vR 50] I := runs_to (ins_of mI_61 (by rfl)) rfl rfl
theorem r61_12 : runs cal 61 12 [v0, v1] [vI x0, vI x1, vR 22, vI x3, vR 50] I = if 0 ≤ x3 ∧ 0 ≤ x1 ∧ 0 ≤ x0 ∧ x3 + x0 ≤ 40 ∧ x1 + x0 ≤ 40 then runs cal 61 15 [v0, v1] [] (mcpy I 50 x3 22 x1 x0) else none := st_copy (ins_of mI_61 (by rfl)) mC_61 mr_5_30 cT_50 cT_22 (wdc wid_61 wd_50) (wdc wid_61 wd_22) (by decide)
theorem r61_15 : runs cal 61 15 [vR 21, v1] [] I = runs cal 61 16 [vR 21, v1] [vR 21] I := runs_to (ins_of mI_61 (by rfl)) rfl rfl
theorem r61_16 : runs cal 61 16 [v0, vR 49] [vR 21] I = runs cal 61 17 [v0, vR 49] [vR 49, vR 21] I := runs_to (ins_of mI_61 (by rfl)) rfl rfl
theorem r61_17 : runs cal 61 17 [v0, v1] [vR 49, vR 21] I = runs cal 61 20 [v0, v1] [vI (I 49 1), vR 21] I := st_getI (ins_of mI_61 (by rfl)) mC_61 (by decide) fr_5_22 cT_49 (wdc wid_61 wd_49) (Or.inl rfl)
theorem r61_20 : runs cal 61 20 [v0, v1] [vI x0, vR 21] I = runs cal 61 23 [v0, v1] [] (mset I 21 1 x0) := st_putI (ins_of mI_61 (by rfl)) mC_61 fr_5_22 cT_21 (wdc wid_61 wd_21) rfl
theorem r61_23 : runs cal 61 23 [vR 21, v1] [] I = runs cal 61 24 [vR 21, v1] [vR 21] I := runs_to (ins_of mI_61 (by rfl)) rfl rfl
theorem r61_24 : runs cal 61 24 [v0, v1] [vR 21] I = runs cal 61 25 [v0, v1] [vI (0), vR 21] I := runs_to (ins_of mI_61 (by rfl)) rfl rfl
theorem r61_25 : runs cal 61 25 [v0, v1] [vI x0, vR 21] I = if x0 = 0 ∨ x0 = 1 then runs cal 61 28 [v0, v1] [] (mset I 21 6 x0) else none := st_putZ (ins_of mI_61 (by rfl)) mC_61 fr_5_26 cT_21 (wdc wid_61 wd_21) rfl
theorem r61_28 : runs cal 61 28 [v0, v1] [] I = some (none, I) := st_ret (q := none) (k := 3) (ins_of mI_61 (by rfl)) rfl (by decide) mR_61 rfl trivial
theorem r61_0a : runs cal 61 0 [v0, vR 64] [] I = runs cal 61 1 [v0, vR 64] [vR 64] I := runs_to (ins_of mI_61 (by rfl)) rfl rfl
theorem r61_1a : runs cal 61 1 [v0, v1] [vR 64] I = runs cal 61 4 [v0, v1] [vR 65] I := st_getR (ins_of mI_61 (by rfl)) mC_61 (by decide) fr_5_11 cT_64 (wdc wid_61 wd_64) rfl rfl
theorem r61_4a : runs cal 61 4 [v0, v1] [vR 65] I = runs cal 61 5 [v0, v1] [vI (0), vR 65] I := runs_to (ins_of mI_61 (by rfl)) rfl rfl
theorem r61_5a : runs cal 61 5 [vR 21, v1] [vI x0, vR 65] I = runs cal 61 6 [vR 21, v1] [vR 21, vI x0, vR 65] I := runs_to (ins_of mI_61 (by rfl)) rfl rfl
theorem r61_6a : runs cal 61 6 [v0, v1] [vR 21, vI x1, vR 65] I = runs cal 61 9 [v0, v1] [vR 22, vI x1, vR 65] I := st_getR (ins_of mI_61 (by rfl)) mC_61 (by decide) fr_5_11 cT_21 (wdc wid_61 wd_21) rfl rfl
theorem r61_9a : runs cal 61 9 [v0, v1] [vR 22, vI x1, vR 65] I = runs cal 61 10 [v0, v1] [vI (0), vR 22, vI x1, vR 65] I := runs_to (ins_of mI_61 (by rfl)) rfl rfl
theorem r61_10a : runs cal 61 10 [v0, v1] [vI x0, vR 22, vI x2, vR 65] I = runs cal 61 12 [v0, v1] [vI (40), vI x0, vR 22, vI x2, vR 65] I := runs_to (ins_of mI_61 (by rfl)) rfl rfl
theorem r61_12a : runs cal 61 12 [v0, v1] [vI x0, vI x1, vR 22, vI x3, vR 65] I = if 0 ≤ x3 ∧ 0 ≤ x1 ∧ 0 ≤ x0 ∧ x3 + x0 ≤ 40 ∧ x1 + x0 ≤ 40 then runs cal 61 15 [v0, v1] [] (mcpy I 65 x3 22 x1 x0) else none := st_copy (ins_of mI_61 (by rfl)) mC_61 mr_5_30 cT_65 cT_22 (wdc wid_61 wd_65) (wdc wid_61 wd_22) (by decide)
theorem r61_16a : runs cal 61 16 [v0, vR 64] [vR 21] I = runs cal 61 17 [v0, vR 64] [vR 64, vR 21] I := runs_to (ins_of mI_61 (by rfl)) rfl rfl
theorem r61_17a : runs cal 61 17 [v0, v1] [vR 64, vR 21] I = runs cal 61 20 [v0, v1] [vI (I 64 1), vR 21] I := st_getI (ins_of mI_61 (by rfl)) mC_61 (by decide) fr_5_22 cT_64 (wdc wid_61 wd_64) (Or.inl rfl)
theorem r61_0b : runs cal 61 0 [v0, vR 21] [] I = runs cal 61 1 [v0, vR 21] [vR 21] I := runs_to (ins_of mI_61 (by rfl)) rfl rfl
theorem r61_1b : runs cal 61 1 [v0, v1] [vR 21] I = runs cal 61 4 [v0, v1] [vR 22] I := st_getR (ins_of mI_61 (by rfl)) mC_61 (by decide) fr_5_11 cT_21 (wdc wid_61 wd_21) rfl rfl
theorem r61_4b : runs cal 61 4 [v0, v1] [vR 22] I = runs cal 61 5 [v0, v1] [vI (0), vR 22] I := runs_to (ins_of mI_61 (by rfl)) rfl rfl
theorem r61_5b : runs cal 61 5 [vR 49, v1] [vI x0, vR 22] I = runs cal 61 6 [vR 49, v1] [vR 49, vI x0, vR 22] I := runs_to (ins_of mI_61 (by rfl)) rfl rfl
theorem r61_6b : runs cal 61 6 [v0, v1] [vR 49, vI x1, vR 22] I = runs cal 61 9 [v0, v1] [vR 50, vI x1, vR 22] I := st_getR (ins_of mI_61 (by rfl)) mC_61 (by decide) fr_5_11 cT_49 (wdc wid_61 wd_49) rfl rfl
theorem r61_9b : runs cal 61 9 [v0, v1] [vR 50, vI x1, vR 22] I = runs cal 61 10 [v0, v1] [vI (0), vR 50, vI x1, vR 22] I := runs_to (ins_of mI_61 (by rfl)) rfl rfl
theorem r61_10b : runs cal 61 10 [v0, v1] [vI x0, vR 50, vI x2, vR 22] I = runs cal 61 12 [v0, v1] [vI (40), vI x0, vR 50, vI x2, vR 22] I := runs_to (ins_of mI_61 (by rfl)) rfl rfl
theorem r61_12b : runs cal 61 12 [v0, v1] [vI x0, vI x1, vR 50, vI x3, vR 22] I = if 0 ≤ x3 ∧ 0 ≤ x1 ∧ 0 ≤ x0 ∧ x3 + x0 ≤ 40 ∧ x1 + x0 ≤ 40 then runs cal 61 15 [v0, v1] [] (mcpy I 22 x3 50 x1 x0) else none := st_copy (ins_of mI_61 (by rfl)) mC_61 mr_5_30 cT_22 cT_50 (wdc wid_61 wd_22) (wdc wid_61 wd_50) (by decide)
theorem r61_15a : runs cal 61 15 [vR 49, v1] [] I = runs cal 61 16 [vR 49, v1] [vR 49] I := runs_to (ins_of mI_61 (by rfl)) rfl rfl
theorem r61_16b : runs cal 61 16 [v0, vR 21] [vR 49] I = runs cal 61 17 [v0, vR 21] [vR 21, vR 49] I := runs_to (ins_of mI_61 (by rfl)) rfl rfl
theorem r61_17b : runs cal 61 17 [v0, v1] [vR 21, vR 49] I = runs cal 61 20 [v0, v1] [vI (I 21 1), vR 49] I := st_getI (ins_of mI_61 (by rfl)) mC_61 (by decide) fr_5_22 cT_21 (wdc wid_61 wd_21) (Or.inl rfl)
theorem r61_20a : runs cal 61 20 [v0, v1] [vI x0, vR 49] I = runs cal 61 23 [v0, v1] [] (mset I 49 1 x0) := st_putI (ins_of mI_61 (by rfl)) mC_61 fr_5_22 cT_49 (wdc wid_61 wd_49) rfl
theorem r61_23a : runs cal 61 23 [vR 49, v1] [] I = runs cal 61 24 [vR 49, v1] [vR 49] I := runs_to (ins_of mI_61 (by rfl)) rfl rfl
theorem r61_24a : runs cal 61 24 [v0, v1] [vR 49] I = runs cal 61 25 [v0, v1] [vI (0), vR 49] I := runs_to (ins_of mI_61 (by rfl)) rfl rfl
theorem r61_25a : runs cal 61 25 [v0, v1] [vI x0, vR 49] I = if x0 = 0 ∨ x0 = 1 then runs cal 61 28 [v0, v1] [] (mset I 49 6 x0) else none := st_putZ (ins_of mI_61 (by rfl)) mC_61 fr_5_26 cT_49 (wdc wid_61 wd_49) rfl
theorem r61_5c : runs cal 61 5 [vR 64, v1] [vI x0, vR 22] I = runs cal 61 6 [vR 64, v1] [vR 64, vI x0, vR 22] I := runs_to (ins_of mI_61 (by rfl)) rfl rfl
theorem r61_6c : runs cal 61 6 [v0, v1] [vR 64, vI x1, vR 22] I = runs cal 61 9 [v0, v1] [vR 65, vI x1, vR 22] I := st_getR (ins_of mI_61 (by rfl)) mC_61 (by decide) fr_5_11 cT_64 (wdc wid_61 wd_64) rfl rfl
theorem r61_9c : runs cal 61 9 [v0, v1] [vR 65, vI x1, vR 22] I = runs cal 61 10 [v0, v1] [vI (0), vR 65, vI x1, vR 22] I := runs_to (ins_of mI_61 (by rfl)) rfl rfl
theorem r61_10c : runs cal 61 10 [v0, v1] [vI x0, vR 65, vI x2, vR 22] I = runs cal 61 12 [v0, v1] [vI (40), vI x0, vR 65, vI x2, vR 22] I := runs_to (ins_of mI_61 (by rfl)) rfl rfl
theorem r61_12c : runs cal 61 12 [v0, v1] [vI x0, vI x1, vR 65, vI x3, vR 22] I = if 0 ≤ x3 ∧ 0 ≤ x1 ∧ 0 ≤ x0 ∧ x3 + x0 ≤ 40 ∧ x1 + x0 ≤ 40 then runs cal 61 15 [v0, v1] [] (mcpy I 22 x3 65 x1 x0) else none := st_copy (ins_of mI_61 (by rfl)) mC_61 mr_5_30 cT_22 cT_65 (wdc wid_61 wd_22) (wdc wid_61 wd_65) (by decide)
theorem r61_15b : runs cal 61 15 [vR 64, v1] [] I = runs cal 61 16 [vR 64, v1] [vR 64] I := runs_to (ins_of mI_61 (by rfl)) rfl rfl
theorem r61_16c : runs cal 61 16 [v0, vR 21] [vR 64] I = runs cal 61 17 [v0, vR 21] [vR 21, vR 64] I := runs_to (ins_of mI_61 (by rfl)) rfl rfl
theorem r61_17c : runs cal 61 17 [v0, v1] [vR 21, vR 64] I = runs cal 61 20 [v0, v1] [vI (I 21 1), vR 64] I := st_getI (ins_of mI_61 (by rfl)) mC_61 (by decide) fr_5_22 cT_21 (wdc wid_61 wd_21) (Or.inl rfl)
theorem r61_20b : runs cal 61 20 [v0, v1] [vI x0, vR 64] I = runs cal 61 23 [v0, v1] [] (mset I 64 1 x0) := st_putI (ins_of mI_61 (by rfl)) mC_61 fr_5_22 cT_64 (wdc wid_61 wd_64) rfl
theorem r61_23b : runs cal 61 23 [vR 64, v1] [] I = runs cal 61 24 [vR 64, v1] [vR 64] I := runs_to (ins_of mI_61 (by rfl)) rfl rfl
theorem r61_24b : runs cal 61 24 [v0, v1] [vR 64] I = runs cal 61 25 [v0, v1] [vI (0), vR 64] I := runs_to (ins_of mI_61 (by rfl)) rfl rfl
theorem r61_25b : runs cal 61 25 [v0, v1] [vI x0, vR 64] I = if x0 = 0 ∨ x0 = 1 then runs cal 61 28 [v0, v1] [] (mset I 64 6 x0) else none := st_putZ (ins_of mI_61 (by rfl)) mC_61 fr_5_26 cT_64 (wdc wid_61 wd_64) rfl
theorem r62_0 : runs cal 62 0 [vR 21] [] I = runs cal 62 1 [vR 21] [vR 21] I := runs_to (ins_of mI_62 (by rfl)) rfl rfl
theorem r62_1 : runs cal 62 1 [v0] [vR 21] I = runs cal 62 4 [v0] [vI (I 21 6)] I := st_getI (ins_of mI_62 (by rfl)) mC_62 (by decide) fr_5_26 cT_21 (wdc wid_62 wd_21) (Or.inr rfl)
theorem r62_4 : runs cal 62 4 [v0] [vI x0] I = if x0 = 0 then runs cal 62 7 [v0] [] I else runs cal 62 45 [v0] [] I := st_if_ne (ins_of mI_62 (by rfl)) (by decide)
theorem r62_7 : runs cal 62 7 [vR 21] [] I = runs cal 62 8 [vR 21] [vR 21] I := runs_to (ins_of mI_62 (by rfl)) rfl rfl
theorem r62_8 : runs cal 62 8 [v0] [vR 21] I = runs cal 62 9 [v0] [vI (0), vR 21] I := runs_to (ins_of mI_62 (by rfl)) rfl rfl
theorem r62_9 : runs cal 62 9 [v0] [vI x0, vR 21] I = runs cal 62 12 [v0] [] (mset I 21 7 x0) := st_putI (ins_of mI_62 (by rfl)) mC_62 fr_5_36 cT_21 (wdc wid_62 wd_21) rfl
theorem r62_12 : runs cal 62 12 [vR 21] [] I = runs cal 62 13 [vR 21] [vR 21] I := runs_to (ins_of mI_62 (by rfl)) rfl rfl
theorem r62_13 : runs cal 62 13 [v0] [vR 21] I = runs cal 62 14 [v0] [vI (0), vR 21] I := runs_to (ins_of mI_62 (by rfl)) rfl rfl
theorem r62_14 : runs cal 62 14 [v0] [vI x0, vR 21] I = runs cal 62 17 [v0] [] (mset I 21 3 x0) := st_putI (ins_of mI_62 (by rfl)) mC_62 fr_5_39 cT_21 (wdc wid_62 wd_21) rfl
theorem r62_17 : runs cal 62 17 [vR 21] [] I = runs cal 62 18 [vR 21] [vR 21] I := runs_to (ins_of mI_62 (by rfl)) rfl rfl
theorem r62_18 : runs cal 62 18 [v0] [vR 21] I = runs cal 62 19 [v0] [vI (-1), vR 21] I := runs_to (ins_of mI_62 (by rfl)) rfl rfl
theorem r62_19 : runs cal 62 19 [v0] [vI x0, vR 21] I = runs cal 62 22 [v0] [] (mset I 21 8 x0) := st_putI (ins_of mI_62 (by rfl)) mC_62 fr_5_42 cT_21 (wdc wid_62 wd_21) rfl
theorem r62_22 : runs cal 62 22 [vR 21] [] I = runs cal 62 23 [vR 21] [vR 21] I := runs_to (ins_of mI_62 (by rfl)) rfl rfl
theorem r62_23 : runs cal 62 23 [v0] [vR 21] I = runs cal 62 24 [v0] [vI (0), vR 21] I := runs_to (ins_of mI_62 (by rfl)) rfl rfl
theorem r62_24 : runs cal 62 24 [v0] [vI x0, vR 21] I = (cal 63 [vR 21, vI x0] I).bind (fun q => runs cal 62 27 [v0] (pushR q.1 []) q.2) := st_call (st := false) (ins_of mI_62 (by rfl)) mC_62 mr_5_45 (by decide) mS_63 mN_63 rfl (Nat.le_of_ble_eq_true rfl) rfl rfl (Or.inr ⟨_, _, rfl, rcv mC_63 rfl wid_62 (by decide +kernel)⟩) (Or.inl (wid_62.trans wid_63.symm))
theorem r62_27 : runs cal 62 27 [vR 21] [] I = runs cal 62 28 [vR 21] [vR 21] I := runs_to (ins_of mI_62 (by rfl)) rfl rfl
theorem r62_28 : runs cal 62 28 [v0] [vR 21] I = (cal 72 [vR 21] I).bind (fun q => runs cal 62 31 [v0] (pushR q.1 []) q.2) := st_call (st := false) (ins_of mI_62 (by rfl)) mC_62 mr_5_49 (by decide) mS_72 mN_72 rfl (Nat.le_of_ble_eq_true rfl) rfl rfl (Or.inr ⟨_, _, rfl, rcv mC_72 rfl wid_62 (by decide +kernel)⟩) (Or.inl (wid_62.trans wid_72.symm))
theorem r62_31 : runs cal 62 31 [v0] [vI x0] I = runs cal 62 32 [v0] [vI (-1), vI x0] I := runs_to (ins_of mI_62 (by rfl)) rfl rfl
theorem r62_32 : runs cal 62 32 [v0] [vI x0, vI x1] I = if x1 = x0 then runs cal 62 40 [v0] [] I else runs cal 62 35 [v0] [] I := st_cmp_eq (ins_of mI_62 (by rfl)) (by decide)
theorem r62_35 : runs cal 62 35 [vR 21] [] I = runs cal 62 36 [vR 21] [vR 21] I := runs_to (ins_of mI_62 (by rfl)) rfl rfl
theorem r62_36 : runs cal 62 36 [v0] [vR 21] I = runs cal 62 37 [v0] [vI (1), vR 21] I := runs_to (ins_of mI_62 (by rfl)) rfl rfl
theorem r62_37 : runs cal 62 37 [v0] [vI x0, vR 21] I = (cal 74 [vR 21, vI x0] I).bind (fun q => runs cal 62 40 [v0] (pushR q.1 []) q.2) := st_call (st := false) (ins_of mI_62 (by rfl)) mC_62 mr_5_53 (by decide) mS_74 mN_74 rfl (Nat.le_of_ble_eq_true rfl) rfl rfl (Or.inr ⟨_, _, rfl, rcv mC_74 rfl wid_62 (by decide +kernel)⟩) (Or.inl (wid_62.trans wid_74.symm))
theorem r62_40 : runs cal 62 40 [vR 21] [] I = runs cal 62 41 [vR 21] [vR 21] I := runs_to (ins_of mI_62 (by rfl)) rfl rfl
theorem r62_41 : runs cal 62 41 [v0] [vR 21] I = runs cal 62 42 [v0] [vI (1), vR 21] I := runs_to (ins_of mI_62 (by rfl)) rfl rfl
theorem r62_42 : runs cal 62 42 [v0] [vI x0, vR 21] I = if x0 = 0 ∨ x0 = 1 then runs cal 62 45 [v0] [] (mset I 21 6 x0) else none := st_putZ (ins_of mI_62 (by rfl)) mC_62 fr_5_26 cT_21 (wdc wid_62 wd_21) rfl
theorem r62_45 : runs cal 62 45 [vR 21] [] I = runs cal 62 46 [vR 21] [vR 21] I := runs_to (ins_of mI_62 (by rfl)) rfl rfl
theorem r62_46 : runs cal 62 46 [v0] [vR 21] I = runs cal 62 49 [v0] [vI (I 21 8)] I := st_getI (ins_of mI_62 (by rfl)) mC_62 (by decide) fr_5_42 cT_21 (wdc wid_62 wd_21) (Or.inl rfl)
theorem r62_49 : runs cal 62 49 [v0] [vI x0] I = some (some (vI x0), I) := st_ret (q := some (vI x0)) (k := 0) (ins_of mI_62 (by rfl)) rfl (by decide) mR_62 rfl trivial
theorem r63_0 : runs cal 63 0 [vR 21, v1, v2] [] I = runs cal 63 1 [vR 21, v1, v2] [vR 21] I := runs_to (ins_of mI_63 (by rfl)) rfl rfl
theorem r63_1 : runs cal 63 1 [v0, vI w, v2] [vR 21] I = runs cal 63 2 [v0, vI w, v2] [vI w, vR 21] I := runs_to (ins_of mI_63 (by rfl)) rfl rfl
theorem r63_2 : runs cal 63 2 [v0, v1, v2] [vI x0, vR 21] I = (cal 64 [vR 21, vI x0] I).bind (fun q => runs cal 63 5 [v0, v1, v2] (pushR q.1 []) q.2) := st_call (st := false) (ins_of mI_63 (by rfl)) mC_63 mr_5_56 (by decide) mS_64 mN_64 rfl (Nat.le_of_ble_eq_true rfl) rfl rfl (Or.inr ⟨_, _, rfl, rcv mC_64 rfl wid_63 (by decide +kernel)⟩) (Or.inl (wid_63.trans wid_64.symm))
theorem r63_5 : runs cal 63 5 [v0, v1, v2] [] I = runs cal 63 6 [v0, v1, v2] [vI (0)] I := runs_to (ins_of mI_63 (by rfl)) rfl rfl
theorem r63_6 : runs cal 63 6 [v0, vI u, v2] [vI x0] I = runs cal 63 7 [v0, vI u, vI x0] [] I := runs_to (ins_of mI_63 (by rfl)) rfl rfl
theorem r63_7 : runs cal 63 7 [v0, v1, vI w] [] I = runs cal 63 8 [v0, v1, vI w] [vI w] I := runs_to (ins_of mI_63 (by rfl)) rfl rfl
theorem r63_8 : runs cal 63 8 [v0, v1, v2] [vI x0] I = runs cal 63 10 [v0, v1, v2] [vI (40), vI x0] I := runs_to (ins_of mI_63 (by rfl)) rfl rfl
theorem r63_10 : runs cal 63 10 [v0, v1, v2] [vI x0, vI x1] I = if x1 < x0 then runs cal 63 13 [v0, v1, v2] [] I else runs cal 63 39 [v0, v1, v2] [] I := st_cmp_ge (ins_of mI_63 (by rfl)) (by decide)
theorem r63_13 : runs cal 63 13 [vR 21, v1, v2] [] I = runs cal 63 14 [vR 21, v1, v2] [vR 21] I := runs_to (ins_of mI_63 (by rfl)) rfl rfl
theorem r63_14 : runs cal 63 14 [v0, v1, v2] [vR 21] I = runs cal 63 16 [v0, v1, v2] [vI (124), vR 21] I := runs_to (ins_of mI_63 (by rfl)) rfl rfl
theorem r63_16 : runs cal 63 16 [v0, v1, v2] [vI x0, vR 21] I = (cal 73 [vR 21, vI x0] I).bind (fun q => runs cal 63 19 [v0, v1, v2] (pushR q.1 []) q.2) := st_call (st := false) (ins_of mI_63 (by rfl)) mC_63 mr_5_59 (by decide) mS_73 mN_73 rfl (Nat.le_of_ble_eq_true rfl) rfl rfl (Or.inr ⟨_, _, rfl, rcv mC_73 rfl wid_63 (by decide +kernel)⟩) (Or.inl (wid_63.trans wid_73.symm))
theorem r63_19 : runs cal 63 19 [v0, v1, v2] [vI x0] I = if x0 = 0 then runs cal 63 39 [v0, v1, v2] [] I else runs cal 63 22 [v0, v1, v2] [] I := st_if_eq (ins_of mI_63 (by rfl)) (by decide)
theorem r63_22 : runs cal 63 22 [vR 21, v1, v2] [] I = runs cal 63 23 [vR 21, v1, v2] [vR 21] I := runs_to (ins_of mI_63 (by rfl)) rfl rfl
theorem r63_23 : runs cal 63 23 [v0, vI w, v2] [vR 21] I = runs cal 63 24 [v0, vI w, v2] [vI w, vR 21] I := runs_to (ins_of mI_63 (by rfl)) rfl rfl
theorem r63_24 : runs cal 63 24 [v0, v1, v2] [vI x0, vR 21] I = (cal 64 [vR 21, vI x0] I).bind (fun q => runs cal 63 27 [v0, v1, v2] (pushR q.1 []) q.2) := st_call (st := false) (ins_of mI_63 (by rfl)) mC_63 mr_5_56 (by decide) mS_64 mN_64 rfl (Nat.le_of_ble_eq_true rfl) rfl rfl (Or.inr ⟨_, _, rfl, rcv mC_64 rfl wid_63 (by decide +kernel)⟩) (Or.inl (wid_63.trans wid_64.symm))
theorem r63_27 : runs cal 63 27 [vR 21, v1, v2] [] I = runs cal 63 28 [vR 21, v1, v2] [vR 21] I := runs_to (ins_of mI_63 (by rfl)) rfl rfl
theorem r63_28 : runs cal 63 28 [v0, v1, v2] [vR 21] I = runs cal 63 30 [v0, v1, v2] [vI (-124), vR 21] I := runs_to (ins_of mI_63 (by rfl)) rfl rfl
theorem r63_30 : runs cal 63 30 [v0, v1, v2] [vI x0, vR 21] I = (cal 75 [vR 21, vI x0] I).bind (fun q => runs cal 63 33 [v0, v1, v2] (pushR q.1 []) q.2) := st_call (st := false) (ins_of mI_63 (by rfl)) mC_63 mr_5_63 (by decide) mS_75 mN_75 rfl (Nat.le_of_ble_eq_true rfl) rfl rfl (Or.inr ⟨_, _, rfl, rcv mC_75 rfl wid_63 (by decide +kernel)⟩) (Or.inl (wid_63.trans wid_75.symm))
theorem r63_33 : runs cal 63 33 [v0, vI u, vI w] [] I = runs cal 63 36 [v0, vI u, vI (iadd w (1))] [] I := runs_to (ins_of mI_63 (by rfl)) rfl rfl
theorem r63_36 : runs cal 63 36 [v0, v1, v2] [] I = runs cal 63 7 [v0, v1, v2] [] I := st_goto (ins_of mI_63 (by rfl)) (by decide)
theorem r63_39 : runs cal 63 39 [v0, v1, v2] [] I = some (none, I) := st_ret (q := none) (k := 3) (ins_of mI_63 (by rfl)) rfl (by decide) mR_63 rfl trivial
theorem r64_0 : runs cal 64 0 [vR 21, v1, v2] [] I = runs cal 64 1 [vR 21, v1, v2] [vR 21] I := runs_to (ins_of mI_64 (by rfl)) rfl rfl
theorem r64_1 : runs cal 64 1 [v0, vI w, v2] [vR 21] I = runs cal 64 2 [v0, vI w, v2] [vI w, vR 21] I := runs_to (ins_of mI_64 (by rfl)) rfl rfl
theorem r64_2 : runs cal 64 2 [v0, v1, v2] [vI x0, vR 21] I = (cal 65 [vR 21, vI x0] I).bind (fun q => runs cal 64 5 [v0, v1, v2] (pushR q.1 []) q.2) := st_call (st := false) (ins_of mI_64 (by rfl)) mC_64 mr_5_66 (by decide) mS_65 mN_65 rfl (Nat.le_of_ble_eq_true rfl) rfl rfl (Or.inr ⟨_, _, rfl, rcv mC_65 rfl wid_64 (by decide +kernel)⟩) (Or.inl (wid_64.trans wid_65.symm))
theorem r64_5 : runs cal 64 5 [v0, v1, v2] [] I = runs cal 64 6 [v0, v1, v2] [vI (0)] I := runs_to (ins_of mI_64 (by rfl)) rfl rfl
theorem r64_6 : runs cal 64 6 [v0, vI u, v2] [vI x0] I = runs cal 64 7 [v0, vI u, vI x0] [] I := runs_to (ins_of mI_64 (by rfl)) rfl rfl
theorem r64_7 : runs cal 64 7 [v0, v1, vI w] [] I = runs cal 64 8 [v0, v1, vI w] [vI w] I := runs_to (ins_of mI_64 (by rfl)) rfl rfl
theorem r64_8 : runs cal 64 8 [v0, v1, v2] [vI x0] I = runs cal 64 10 [v0, v1, v2] [vI (40), vI x0] I := runs_to (ins_of mI_64 (by rfl)) rfl rfl
theorem r64_10 : runs cal 64 10 [v0, v1, v2] [vI x0, vI x1] I = if x1 < x0 then runs cal 64 13 [v0, v1, v2] [] I else runs cal 64 39 [v0, v1, v2] [] I := st_cmp_ge (ins_of mI_64 (by rfl)) (by decide)
theorem r64_13 : runs cal 64 13 [vR 21, v1, v2] [] I = runs cal 64 14 [vR 21, v1, v2] [vR 21] I := runs_to (ins_of mI_64 (by rfl)) rfl rfl
theorem r64_14 : runs cal 64 14 [v0, v1, v2] [vR 21] I = runs cal 64 16 [v0, v1, v2] [vI (38), vR 21] I := runs_to (ins_of mI_64 (by rfl)) rfl rfl
theorem r64_16 : runs cal 64 16 [v0, v1, v2] [vI x0, vR 21] I = (cal 73 [vR 21, vI x0] I).bind (fun q => runs cal 64 19 [v0, v1, v2] (pushR q.1 []) q.2) := st_call (st := false) (ins_of mI_64 (by rfl)) mC_64 mr_5_59 (by decide) mS_73 mN_73 rfl (Nat.le_of_ble_eq_true rfl) rfl rfl (Or.inr ⟨_, _, rfl, rcv mC_73 rfl wid_64 (by decide +kernel)⟩) (Or.inl (wid_64.trans wid_73.symm))
theorem r64_19 : runs cal 64 19 [v0, v1, v2] [vI x0] I = if x0 = 0 then runs cal 64 39 [v0, v1, v2] [] I else runs cal 64 22 [v0, v1, v2] [] I := st_if_eq (ins_of mI_64 (by rfl)) (by decide)
theorem r64_22 : runs cal 64 22 [vR 21, v1, v2] [] I = runs cal 64 23 [vR 21, v1, v2] [vR 21] I := runs_to (ins_of mI_64 (by rfl)) rfl rfl
theorem r64_23 : runs cal 64 23 [v0, vI w, v2] [vR 21] I = runs cal 64 24 [v0, vI w, v2] [vI w, vR 21] I := runs_to (ins_of mI_64 (by rfl)) rfl rfl
theorem r64_24 : runs cal 64 24 [v0, v1, v2] [vI x0, vR 21] I = (cal 65 [vR 21, vI x0] I).bind (fun q => runs cal 64 27 [v0, v1, v2] (pushR q.1 []) q.2) := st_call (st := false) (ins_of mI_64 (by rfl)) mC_64 mr_5_66 (by decide) mS_65 mN_65 rfl (Nat.le_of_ble_eq_true rfl) rfl rfl (Or.inr ⟨_, _, rfl, rcv mC_65 rfl wid_64 (by decide +kernel)⟩) (Or.inl (wid_64.trans wid_65.symm))
theorem r64_27 : runs cal 64 27 [vR 21, v1, v2] [] I = runs cal 64 28 [vR 21, v1, v2] [vR 21] I := runs_to (ins_of mI_64 (by rfl)) rfl rfl
theorem r64_28 : runs cal 64 28 [v0, v1, v2] [vR 21] I = runs cal 64 30 [v0, v1, v2] [vI (-38), vR 21] I := runs_to (ins_of mI_64 (by rfl)) rfl rfl
theorem r64_30 : runs cal 64 30 [v0, v1, v2] [vI x0, vR 21] I = (cal 75 [vR 21, vI x0] I).bind (fun q => runs cal 64 33 [v0, v1, v2] (pushR q.1 []) q.2) := st_call (st := false) (ins_of mI_64 (by rfl)) mC_64 mr_5_63 (by decide) mS_75 mN_75 rfl (Nat.le_of_ble_eq_true rfl) rfl rfl (Or.inr ⟨_, _, rfl, rcv mC_75 rfl wid_64 (by decide +kernel)⟩) (Or.inl (wid_64.trans wid_75.symm))
theorem r64_33 : runs cal 64 33 [v0, vI u, vI w] [] I = runs cal 64 36 [v0, vI u, vI (iadd w (1))] [] I := runs_to (ins_of mI_64 (by rfl)) rfl rfl
theorem r64_36 : runs cal 64 36 [v0, v1, v2] [] I = runs cal 64 7 [v0, v1, v2] [] I := st_goto (ins_of mI_64 (by rfl)) (by decide)
theorem r64_39 : runs cal 64 39 [v0, v1, v2] [] I = some (none, I) := st_ret (q := none) (k := 3) (ins_of mI_64 (by rfl)) rfl (by decide) mR_64 rfl trivial
theorem r65_0 : runs cal 65 0 [vR 21, v1, v2] [] I = runs cal 65 1 [vR 21, v1, v2] [vR 21] I := runs_to (ins_of mI_65 (by rfl)) rfl rfl
theorem r65_1 : runs cal 65 1 [v0, vI w, v2] [vR 21] I = runs cal 65 2 [v0, vI w, v2] [vI w, vR 21] I := runs_to (ins_of mI_65 (by rfl)) rfl rfl
theorem r65_2 : runs cal 65 2 [v0, v1, v2] [vI x0, vR 21] I = (cal 66 [vR 21, vI x0] I).bind (fun q => runs cal 65 5 [v0, v1, v2] (pushR q.1 []) q.2) := st_call (st := false) (ins_of mI_65 (by rfl)) mC_65 mr_5_69 (by decide) mS_66 mN_66 rfl (Nat.le_of_ble_eq_true rfl) rfl rfl (Or.inr ⟨_, _, rfl, rcv mC_66 rfl wid_65 (by decide +kernel)⟩) (Or.inl (wid_65.trans wid_66.symm))
theorem r65_5 : runs cal 65 5 [vR 21, v1, v2] [] I = runs cal 65 6 [vR 21, v1, v2] [vR 21] I := runs_to (ins_of mI_65 (by rfl)) rfl rfl
theorem r65_6 : runs cal 65 6 [v0, v1, v2] [vR 21] I = (cal 72 [vR 21] I).bind (fun q => runs cal 65 9 [v0, v1, v2] (pushR q.1 []) q.2) := st_call (st := false) (ins_of mI_65 (by rfl)) mC_65 mr_5_49 (by decide) mS_72 mN_72 rfl (Nat.le_of_ble_eq_true rfl) rfl rfl (Or.inr ⟨_, _, rfl, rcv mC_72 rfl wid_65 (by decide +kernel)⟩) (Or.inl (wid_65.trans wid_72.symm))
theorem r65_9 : runs cal 65 9 [v0, vI u, v2] [vI x0] I = runs cal 65 10 [v0, vI u, vI x0] [] I := runs_to (ins_of mI_65 (by rfl)) rfl rfl
theorem r65_10 : runs cal 65 10 [v0, v1, vI w] [] I = runs cal 65 11 [v0, v1, vI w] [vI w] I := runs_to (ins_of mI_65 (by rfl)) rfl rfl
theorem r65_11 : runs cal 65 11 [v0, v1, v2] [vI x0] I = runs cal 65 13 [v0, v1, v2] [vI (60), vI x0] I := runs_to (ins_of mI_65 (by rfl)) rfl rfl
theorem r65_13 : runs cal 65 13 [v0, v1, v2] [vI x0, vI x1] I = if x1 = x0 then runs cal 65 28 [v0, v1, v2] [] I else runs cal 65 16 [v0, v1, v2] [] I := st_cmp_eq (ins_of mI_65 (by rfl)) (by decide)
theorem r65_16 : runs cal 65 16 [v0, v1, vI w] [] I = runs cal 65 17 [v0, v1, vI w] [vI w] I := runs_to (ins_of mI_65 (by rfl)) rfl rfl
theorem r65_17 : runs cal 65 17 [v0, v1, v2] [vI x0] I = runs cal 65 19 [v0, v1, v2] [vI (62), vI x0] I := runs_to (ins_of mI_65 (by rfl)) rfl rfl
theorem r65_19 : runs cal 65 19 [v0, v1, v2] [vI x0, vI x1] I = if x1 = x0 then runs cal 65 28 [v0, v1, v2] [] I else runs cal 65 22 [v0, v1, v2] [] I := st_cmp_eq (ins_of mI_65 (by rfl)) (by decide)
theorem r65_22 : runs cal 65 22 [v0, v1, vI w] [] I = runs cal 65 23 [v0, v1, vI w] [vI w] I := runs_to (ins_of mI_65 (by rfl)) rfl rfl
theorem r65_23 : runs cal 65 23 [v0, v1, v2] [vI x0] I = runs cal 65 25 [v0, v1, v2] [vI (61), vI x0] I := runs_to (ins_of mI_65 (by rfl)) rfl rfl
theorem r65_25 : runs cal 65 25 [v0, v1, v2] [vI x0, vI x1] I = if x1 = x0 then runs cal 65 28 [v0, v1, v2] [] I else runs cal 65 45 [v0, v1, v2] [] I := st_cmp_ne (ins_of mI_65 (by rfl)) (by decide)
theorem r65_28 : runs cal 65 28 [vR 21, v1, v2] [] I = runs cal 65 29 [vR 21, v1, v2] [vR 21] I := runs_to (ins_of mI_65 (by rfl)) rfl rfl
theorem r65_29 : runs cal 65 29 [v0, v1, vI w] [vR 21] I = runs cal 65 30 [v0, v1, vI w] [vI w, vR 21] I := runs_to (ins_of mI_65 (by rfl)) rfl rfl
theorem r65_30 : runs cal 65 30 [v0, v1, v2] [vI x0, vR 21] I = (cal 73 [vR 21, vI x0] I).bind (fun q => runs cal 65 33 [v0, v1, v2] (pushR q.1 []) q.2) := st_call (st := false) (ins_of mI_65 (by rfl)) mC_65 mr_5_59 (by decide) mS_73 mN_73 rfl (Nat.le_of_ble_eq_true rfl) rfl rfl (Or.inr ⟨_, _, rfl, rcv mC_73 rfl wid_65 (by decide +kernel)⟩) (Or.inl (wid_65.trans wid_73.symm))
theorem r65_33 : runs cal 65 33 [v0, v1, v2] [vI x0] I = runs cal 65 34 [v0, v1, v2] [] I := runs_to (ins_of mI_65 (by rfl)) rfl rfl
theorem r65_34 : runs cal 65 34 [vR 21, v1, v2] [] I = runs cal 65 35 [vR 21, v1, v2] [vR 21] I := runs_to (ins_of mI_65 (by rfl)) rfl rfl
theorem r65_35 : runs cal 65 35 [v0, vI w, v2] [vR 21] I = runs cal 65 36 [v0, vI w, v2] [vI w, vR 21] I := runs_to (ins_of mI_65 (by rfl)) rfl rfl
theorem r65_36 : runs cal 65 36 [v0, v1, v2] [vI x0, vR 21] I = (cal 66 [vR 21, vI x0] I).bind (fun q => runs cal 65 39 [v0, v1, v2] (pushR q.1 []) q.2) := st_call (st := false) (ins_of mI_65 (by rfl)) mC_65 mr_5_69 (by decide) mS_66 mN_66 rfl (Nat.le_of_ble_eq_true rfl) rfl rfl (Or.inr ⟨_, _, rfl, rcv mC_66 rfl wid_65 (by decide +kernel)⟩) (Or.inl (wid_65.trans wid_66.symm))
theorem r65_39 : runs cal 65 39 [vR 21, v1, v2] [] I = runs cal 65 40 [vR 21, v1, v2] [vR 21] I := runs_to (ins_of mI_65 (by rfl)) rfl rfl
theorem r65_40 : runs cal 65 40 [v0, v1, vI w] [vR 21] I = runs cal 65 41 [v0, v1, vI w] [vI w, vR 21] I := runs_to (ins_of mI_65 (by rfl)) rfl rfl
theorem r65_41 : runs cal 65 41 [v0, v1, v2] [vI x0, vR 21] I = runs cal 65 42 [v0, v1, v2] [vI (ineg x0), vR 21] I := runs_to (ins_of mI_65 (by rfl)) rfl rfl
theorem r65_42 : runs cal 65 42 [v0, v1, v2] [vI x0, vR 21] I = (cal 75 [vR 21, vI x0] I).bind (fun q => runs cal 65 45 [v0, v1, v2] (pushR q.1 []) q.2) := st_call (st := false) (ins_of mI_65 (by rfl)) mC_65 mr_5_63 (by decide) mS_75 mN_75 rfl (Nat.le_of_ble_eq_true rfl) rfl rfl (Or.inr ⟨_, _, rfl, rcv mC_75 rfl wid_65 (by decide +kernel)⟩) (Or.inl (wid_65.trans wid_75.symm))
theorem r65_45 : runs cal 65 45 [v0, v1, v2] [] I = some (none, I) := st_ret (q := none) (k := 3) (ins_of mI_65 (by rfl)) rfl (by decide) mR_65 rfl trivial
theorem r66_0 : runs cal 66 0 [vR 21, v1, v2, v3] [] I = runs cal 66 1 [vR 21, v1, v2, v3] [vR 21] I := runs_to (ins_of mI_66 (by rfl)) rfl rfl
theorem r66_1 : runs cal 66 1 [v0, vI w, v2, v3] [vR 21] I = runs cal 66 2 [v0, vI w, v2, v3] [vI w, vR 21] I := runs_to (ins_of mI_66 (by rfl)) rfl rfl
theorem r66_2 : runs cal 66 2 [v0, v1, v2, v3] [vI x0, vR 21] I = (cal 67 [vR 21, vI x0] I).bind (fun q => runs cal 66 5 [v0, v1, v2, v3] (pushR q.1 []) q.2) := st_call (st := false) (ins_of mI_66 (by rfl)) mC_66 mr_5_72 (by decide) mS_67 mN_67 rfl (Nat.le_of_ble_eq_true rfl) rfl rfl (Or.inr ⟨_, _, rfl, rcv mC_67 rfl wid_66 (by decide +kernel)⟩) (Or.inl (wid_66.trans wid_67.symm))
theorem r66_5 : runs cal 66 5 [vR 21, v1, v2, v3] [] I = runs cal 66 6 [vR 21, v1, v2, v3] [vR 21] I := runs_to (ins_of mI_66 (by rfl)) rfl rfl
theorem r66_6 : runs cal 66 6 [v0, v1, v2, v3] [vR 21] I = (cal 72 [vR 21] I).bind (fun q => runs cal 66 9 [v0, v1, v2, v3] (pushR q.1 []) q.2) := st_call (st := false) (ins_of mI_66 (by rfl)) mC_66 mr_5_49 (by decide) mS_72 mN_72 rfl (Nat.le_of_ble_eq_true rfl) rfl rfl (Or.inr ⟨_, _, rfl, rcv mC_72 rfl wid_66 (by decide +kernel)⟩) (Or.inl (wid_66.trans wid_72.symm))
theorem r66_9 : runs cal 66 9 [v0, vI u, v2, v3] [vI x0] I = runs cal 66 10 [v0, vI u, vI x0, v3] [] I := runs_to (ins_of mI_66 (by rfl)) rfl rfl
theorem r66_10 : runs cal 66 10 [v0, v1, v2, v3] [] I = runs cal 66 11 [v0, v1, v2, v3] [vI (0)] I := runs_to (ins_of mI_66 (by rfl)) rfl rfl
theorem r66_11 : runs cal 66 11 [v0, v1, vI u, v3] [vI x0] I = runs cal 66 12 [v0, v1, vI u, vI x0] [] I := runs_to (ins_of mI_66 (by rfl)) rfl rfl
theorem r66_12 : runs cal 66 12 [v0, v1, v2, vI w] [] I = runs cal 66 13 [v0, v1, v2, vI w] [vI w] I := runs_to (ins_of mI_66 (by rfl)) rfl rfl
theorem r66_13 : runs cal 66 13 [v0, v1, v2, v3] [vI x0] I = runs cal 66 15 [v0, v1, v2, v3] [vI (40), vI x0] I := runs_to (ins_of mI_66 (by rfl)) rfl rfl
theorem r66_15 : runs cal 66 15 [v0, v1, v2, v3] [vI x0, vI x1] I = if x1 < x0 then runs cal 66 18 [v0, v1, v2, v3] [] I else runs cal 66 60 [v0, v1, v2, v3] [] I := st_cmp_ge (ins_of mI_66 (by rfl)) (by decide)
theorem r66_18 : runs cal 66 18 [v0, v1, vI w, v3] [] I = runs cal 66 19 [v0, v1, vI w, v3] [vI w] I := runs_to (ins_of mI_66 (by rfl)) rfl rfl
theorem r66_19 : runs cal 66 19 [v0, v1, v2, v3] [vI x0] I = runs cal 66 21 [v0, v1, v2, v3] [vI (43), vI x0] I := runs_to (ins_of mI_66 (by rfl)) rfl rfl
theorem r66_21 : runs cal 66 21 [v0, v1, v2, v3] [vI x0, vI x1] I = if x1 = x0 then runs cal 66 30 [v0, v1, v2, v3] [] I else runs cal 66 24 [v0, v1, v2, v3] [] I := st_cmp_eq (ins_of mI_66 (by rfl)) (by decide)
theorem r66_24 : runs cal 66 24 [v0, v1, vI w, v3] [] I = runs cal 66 25 [v0, v1, vI w, v3] [vI w] I := runs_to (ins_of mI_66 (by rfl)) rfl rfl
theorem r66_25 : runs cal 66 25 [v0, v1, v2, v3] [vI x0] I = runs cal 66 27 [v0, v1, v2, v3] [vI (45), vI x0] I := runs_to (ins_of mI_66 (by rfl)) rfl rfl
theorem r66_27 : runs cal 66 27 [v0, v1, v2, v3] [vI x0, vI x1] I = if x1 = x0 then runs cal 66 30 [v0, v1, v2, v3] [] I else runs cal 66 60 [v0, v1, v2, v3] [] I := st_cmp_ne (ins_of mI_66 (by rfl)) (by decide)
theorem r66_30 : runs cal 66 30 [vR 21, v1, v2, v3] [] I = runs cal 66 31 [vR 21, v1, v2, v3] [vR 21] I := runs_to (ins_of mI_66 (by rfl)) rfl rfl
theorem r66_31 : runs cal 66 31 [v0, v1, vI w, v3] [vR 21] I = runs cal 66 32 [v0, v1, vI w, v3] [vI w, vR 21] I := runs_to (ins_of mI_66 (by rfl)) rfl rfl
theorem r66_32 : runs cal 66 32 [v0, v1, v2, v3] [vI x0, vR 21] I = (cal 73 [vR 21, vI x0] I).bind (fun q => runs cal 66 35 [v0, v1, v2, v3] (pushR q.1 []) q.2) := st_call (st := false) (ins_of mI_66 (by rfl)) mC_66 mr_5_59 (by decide) mS_73 mN_73 rfl (Nat.le_of_ble_eq_true rfl) rfl rfl (Or.inr ⟨_, _, rfl, rcv mC_73 rfl wid_66 (by decide +kernel)⟩) (Or.inl (wid_66.trans wid_73.symm))
theorem r66_35 : runs cal 66 35 [v0, v1, v2, v3] [vI x0] I = if x0 = 0 then runs cal 66 60 [v0, v1, v2, v3] [] I else runs cal 66 38 [v0, v1, v2, v3] [] I := st_if_eq (ins_of mI_66 (by rfl)) (by decide)
theorem r66_38 : runs cal 66 38 [vR 21, v1, v2, v3] [] I = runs cal 66 39 [vR 21, v1, v2, v3] [vR 21] I := runs_to (ins_of mI_66 (by rfl)) rfl rfl
theorem r66_39 : runs cal 66 39 [v0, vI w, v2, v3] [vR 21] I = runs cal 66 40 [v0, vI w, v2, v3] [vI w, vR 21] I := runs_to (ins_of mI_66 (by rfl)) rfl rfl
theorem r66_40 : runs cal 66 40 [v0, v1, v2, v3] [vI x0, vR 21] I = (cal 67 [vR 21, vI x0] I).bind (fun q => runs cal 66 43 [v0, v1, v2, v3] (pushR q.1 []) q.2) := st_call (st := false) (ins_of mI_66 (by rfl)) mC_66 mr_5_72 (by decide) mS_67 mN_67 rfl (Nat.le_of_ble_eq_true rfl) rfl rfl (Or.inr ⟨_, _, rfl, rcv mC_67 rfl wid_66 (by decide +kernel)⟩) (Or.inl (wid_66.trans wid_67.symm))
theorem r66_43 : runs cal 66 43 [vR 21, v1, v2, v3] [] I = runs cal 66 44 [vR 21, v1, v2, v3] [vR 21] I := runs_to (ins_of mI_66 (by rfl)) rfl rfl
theorem r66_44 : runs cal 66 44 [v0, v1, vI w, v3] [vR 21] I = runs cal 66 45 [v0, v1, vI w, v3] [vI w, vR 21] I := runs_to (ins_of mI_66 (by rfl)) rfl rfl
theorem r66_45 : runs cal 66 45 [v0, v1, v2, v3] [vI x0, vR 21] I = runs cal 66 46 [v0, v1, v2, v3] [vI (ineg x0), vR 21] I := runs_to (ins_of mI_66 (by rfl)) rfl rfl
theorem r66_46 : runs cal 66 46 [v0, v1, v2, v3] [vI x0, vR 21] I = (cal 75 [vR 21, vI x0] I).bind (fun q => runs cal 66 49 [v0, v1, v2, v3] (pushR q.1 []) q.2) := st_call (st := false) (ins_of mI_66 (by rfl)) mC_66 mr_5_63 (by decide) mS_75 mN_75 rfl (Nat.le_of_ble_eq_true rfl) rfl rfl (Or.inr ⟨_, _, rfl, rcv mC_75 rfl wid_66 (by decide +kernel)⟩) (Or.inl (wid_66.trans wid_75.symm))
theorem r66_49 : runs cal 66 49 [vR 21, v1, v2, v3] [] I = runs cal 66 50 [vR 21, v1, v2, v3] [vR 21] I := runs_to (ins_of mI_66 (by rfl)) rfl rfl
theorem r66_50 : runs cal 66 50 [v0, v1, v2, v3] [vR 21] I = (cal 72 [vR 21] I).bind (fun q => runs cal 66 53 [v0, v1, v2, v3] (pushR q.1 []) q.2) := st_call (st := false) (ins_of mI_66 (by rfl)) mC_66 mr_5_49 (by decide) mS_72 mN_72 rfl (Nat.le_of_ble_eq_true rfl) rfl rfl (Or.inr ⟨_, _, rfl, rcv mC_72 rfl wid_66 (by decide +kernel)⟩) (Or.inl (wid_66.trans wid_72.symm))
theorem r66_53 : runs cal 66 53 [v0, vI u, v2, v3] [vI x0] I = runs cal 66 54 [v0, vI u, vI x0, v3] [] I := runs_to (ins_of mI_66 (by rfl)) rfl rfl
theorem r66_54 : runs cal 66 54 [v0, v1, vI u, vI w] [] I = runs cal 66 57 [v0, v1, vI u, vI (iadd w (1))] [] I := runs_to (ins_of mI_66 (by rfl)) rfl rfl
theorem r66_57 : runs cal 66 57 [v0, v1, v2, v3] [] I = runs cal 66 12 [v0, v1, v2, v3] [] I := st_goto (ins_of mI_66 (by rfl)) (by decide)
theorem r66_60 : runs cal 66 60 [v0, v1, v2, v3] [] I = some (none, I) := st_ret (q := none) (k := 3) (ins_of mI_66 (by rfl)) rfl (by decide) mR_66 rfl trivial
theorem r67_0 : runs cal 67 0 [vR 21, v1, v2, v3] [] I = runs cal 67 1 [vR 21, v1, v2, v3] [vR 21] I := runs_to (ins_of mI_67 (by rfl)) rfl rfl
theorem r67_1 : runs cal 67 1 [v0, vI w, v2, v3] [vR 21] I = runs cal 67 2 [v0, vI w, v2, v3] [vI w, vR 21] I := runs_to (ins_of mI_67 (by rfl)) rfl rfl
theorem r67_2 : runs cal 67 2 [v0, v1, v2, v3] [vI x0, vR 21] I = (cal 68 [vR 21, vI x0] I).bind (fun q => runs cal 67 5 [v0, v1, v2, v3] (pushR q.1 []) q.2) := st_call (st := false) (ins_of mI_67 (by rfl)) mC_67 mr_5_75 (by decide) mS_68 mN_68 rfl (Nat.le_of_ble_eq_true rfl) rfl rfl (Or.inr ⟨_, _, rfl, rcv mC_68 rfl wid_67 (by decide +kernel)⟩) (Or.inl (wid_67.trans wid_68.symm))
theorem r67_5 : runs cal 67 5 [vR 21, v1, v2, v3] [] I = runs cal 67 6 [vR 21, v1, v2, v3] [vR 21] I := runs_to (ins_of mI_67 (by rfl)) rfl rfl
theorem r67_6 : runs cal 67 6 [v0, v1, v2, v3] [vR 21] I = (cal 72 [vR 21] I).bind (fun q => runs cal 67 9 [v0, v1, v2, v3] (pushR q.1 []) q.2) := st_call (st := false) (ins_of mI_67 (by rfl)) mC_67 mr_5_49 (by decide) mS_72 mN_72 rfl (Nat.le_of_ble_eq_true rfl) rfl rfl (Or.inr ⟨_, _, rfl, rcv mC_72 rfl wid_67 (by decide +kernel)⟩) (Or.inl (wid_67.trans wid_72.symm))
theorem r67_9 : runs cal 67 9 [v0, vI u, v2, v3] [vI x0] I = runs cal 67 10 [v0, vI u, vI x0, v3] [] I := runs_to (ins_of mI_67 (by rfl)) rfl rfl
theorem r67_10 : runs cal 67 10 [v0, v1, v2, v3] [] I = runs cal 67 11 [v0, v1, v2, v3] [vI (0)] I := runs_to (ins_of mI_67 (by rfl)) rfl rfl
theorem r67_11 : runs cal 67 11 [v0, v1, vI u, v3] [vI x0] I = runs cal 67 12 [v0, v1, vI u, vI x0] [] I := runs_to (ins_of mI_67 (by rfl)) rfl rfl
theorem r67_12 : runs cal 67 12 [v0, v1, v2, vI w] [] I = runs cal 67 13 [v0, v1, v2, vI w] [vI w] I := runs_to (ins_of mI_67 (by rfl)) rfl rfl
theorem r67_13 : runs cal 67 13 [v0, v1, v2, v3] [vI x0] I = runs cal 67 15 [v0, v1, v2, v3] [vI (40), vI x0] I := runs_to (ins_of mI_67 (by rfl)) rfl rfl
theorem r67_15 : runs cal 67 15 [v0, v1, v2, v3] [vI x0, vI x1] I = if x1 < x0 then runs cal 67 18 [v0, v1, v2, v3] [] I else runs cal 67 60 [v0, v1, v2, v3] [] I := st_cmp_ge (ins_of mI_67 (by rfl)) (by decide)
theorem r67_18 : runs cal 67 18 [v0, v1, vI w, v3] [] I = runs cal 67 19 [v0, v1, vI w, v3] [vI w] I := runs_to (ins_of mI_67 (by rfl)) rfl rfl
theorem r67_19 : runs cal 67 19 [v0, v1, v2, v3] [vI x0] I = runs cal 67 21 [v0, v1, v2, v3] [vI (42), vI x0] I := runs_to (ins_of mI_67 (by rfl)) rfl rfl
theorem r67_21 : runs cal 67 21 [v0, v1, v2, v3] [vI x0, vI x1] I = if x1 = x0 then runs cal 67 30 [v0, v1, v2, v3] [] I else runs cal 67 24 [v0, v1, v2, v3] [] I := st_cmp_eq (ins_of mI_67 (by rfl)) (by decide)
theorem r67_24 : runs cal 67 24 [v0, v1, vI w, v3] [] I = runs cal 67 25 [v0, v1, vI w, v3] [vI w] I := runs_to (ins_of mI_67 (by rfl)) rfl rfl
theorem r67_25 : runs cal 67 25 [v0, v1, v2, v3] [vI x0] I = runs cal 67 27 [v0, v1, v2, v3] [vI (47), vI x0] I := runs_to (ins_of mI_67 (by rfl)) rfl rfl
theorem r67_27 : runs cal 67 27 [v0, v1, v2, v3] [vI x0, vI x1] I = if x1 = x0 then runs cal 67 30 [v0, v1, v2, v3] [] I else runs cal 67 60 [v0, v1, v2, v3] [] I := st_cmp_ne (ins_of mI_67 (by rfl)) (by decide)
theorem r67_30 : runs cal 67 30 [vR 21, v1, v2, v3] [] I = runs cal 67 31 [vR 21, v1, v2, v3] [vR 21] I := runs_to (ins_of mI_67 (by rfl)) rfl rfl
theorem r67_31 : runs cal 67 31 [v0, v1, vI w, v3] [vR 21] I = runs cal 67 32 [v0, v1, vI w, v3] [vI w, vR 21] I := runs_to (ins_of mI_67 (by rfl)) rfl rfl
theorem r67_32 : runs cal 67 32 [v0, v1, v2, v3] [vI x0, vR 21] I = (cal 73 [vR 21, vI x0] I).bind (fun q => runs cal 67 35 [v0, v1, v2, v3] (pushR q.1 []) q.2) := st_call (st := false) (ins_of mI_67 (by rfl)) mC_67 mr_5_59 (by decide) mS_73 mN_73 rfl (Nat.le_of_ble_eq_true rfl) rfl rfl (Or.inr ⟨_, _, rfl, rcv mC_73 rfl wid_67 (by decide +kernel)⟩) (Or.inl (wid_67.trans wid_73.symm))
theorem r67_35 : runs cal 67 35 [v0, v1, v2, v3] [vI x0] I = if x0 = 0 then runs cal 67 60 [v0, v1, v2, v3] [] I else runs cal 67 38 [v0, v1, v2, v3] [] I := st_if_eq (ins_of mI_67 (by rfl)) (by decide)
theorem r67_38 : runs cal 67 38 [vR 21, v1, v2, v3] [] I = runs cal 67 39 [vR 21, v1, v2, v3] [vR 21] I := runs_to (ins_of mI_67 (by rfl)) rfl rfl
theorem r67_39 : runs cal 67 39 [v0, vI w, v2, v3] [vR 21] I = runs cal 67 40 [v0, vI w, v2, v3] [vI w, vR 21] I := runs_to (ins_of mI_67 (by rfl)) rfl rfl
theorem r67_40 : runs cal 67 40 [v0, v1, v2, v3] [vI x0, vR 21] I = (cal 68 [vR 21, vI x0] I).bind (fun q => runs cal 67 43 [v0, v1, v2, v3] (pushR q.1 []) q.2) := st_call (st := false) (ins_of mI_67 (by rfl)) mC_67 mr_5_75 (by decide) mS_68 mN_68 rfl (Nat.le_of_ble_eq_true rfl) rfl rfl (Or.inr ⟨_, _, rfl, rcv mC_68 rfl wid_67 (by decide +kernel)⟩) (Or.inl (wid_67.trans wid_68.symm))
theorem r67_43 : runs cal 67 43 [vR 21, v1, v2, v3] [] I = runs cal 67 44 [vR 21, v1, v2, v3] [vR 21] I := runs_to (ins_of mI_67 (by rfl)) rfl rfl
theorem r67_44 : runs cal 67 44 [v0, v1, vI w, v3] [vR 21] I = runs cal 67 45 [v0, v1, vI w, v3] [vI w, vR 21] I := runs_to (ins_of mI_67 (by rfl)) rfl rfl
theorem r67_45 : runs cal 67 45 [v0, v1, v2, v3] [vI x0, vR 21] I = runs cal 67 46 [v0, v1, v2, v3] [vI (ineg x0), vR 21] I := runs_to (ins_of mI_67 (by rfl)) rfl rfl
theorem r67_46 : runs cal 67 46 [v0, v1, v2, v3] [vI x0, vR 21] I = (cal 75 [vR 21, vI x0] I).bind (fun q => runs cal 67 49 [v0, v1, v2, v3] (pushR q.1 []) q.2) := st_call (st := false) (ins_of mI_67 (by rfl)) mC_67 mr_5_63 (by decide) mS_75 mN_75 rfl (Nat.le_of_ble_eq_true rfl) rfl rfl (Or.inr ⟨_, _, rfl, rcv mC_75 rfl wid_67 (by decide +kernel)⟩) (Or.inl (wid_67.trans wid_75.symm))
theorem r67_49 : runs cal 67 49 [vR 21, v1, v2, v3] [] I = runs cal 67 50 [vR 21, v1, v2, v3] [vR 21] I := runs_to (ins_of mI_67 (by rfl)) rfl rfl
theorem r67_50 : runs cal 67 50 [v0, v1, v2, v3] [vR 21] I = (cal 72 [vR 21] I).bind (fun q => runs cal 67 53 [v0, v1, v2, v3] (pushR q.1 []) q.2) := st_call (st := false) (ins_of mI_67 (by rfl)) mC_67 mr_5_49 (by decide) mS_72 mN_72 rfl (Nat.le_of_ble_eq_true rfl) rfl rfl (Or.inr ⟨_, _, rfl, rcv mC_72 rfl wid_67 (by decide +kernel)⟩) (Or.inl (wid_67.trans wid_72.symm))
theorem r67_53 : runs cal 67 53 [v0, vI u, v2, v3] [vI x0] I = runs cal 67 54 [v0, vI u, vI x0, v3] [] I := runs_to (ins_of mI_67 (by rfl)) rfl rfl
theorem r67_54 : runs cal 67 54 [v0, v1, vI u, vI w] [] I = runs cal 67 57 [v0, v1, vI u, vI (iadd w (1))] [] I := runs_to (ins_of mI_67 (by rfl)) rfl rfl
theorem r67_57 : runs cal 67 57 [v0, v1, v2, v3] [] I = runs cal 67 12 [v0, v1, v2, v3] [] I := st_goto (ins_of mI_67 (by rfl)) (by decide)
theorem r67_60 : runs cal 67 60 [v0, v1, v2, v3] [] I = some (none, I) := st_ret (q := none) (k := 3) (ins_of mI_67 (by rfl)) rfl (by decide) mR_67 rfl trivial
theorem r68_0 : runs cal 68 0 [vR 21, v1, v2, v3, v4, v5] [] I = runs cal 68 1 [vR 21, v1, v2, v3, v4, v5] [vR 21] I := runs_to (ins_of mI_68 (by rfl)) rfl rfl
theorem r68_1 : runs cal 68 1 [v0, v1, v2, v3, v4, v5] [vR 21] I = runs cal 68 4 [v0, v1, v2, v3, v4, v5] [vI (I 21 7)] I := st_getI (ins_of mI_68 (by rfl)) mC_68 (by decide) fr_5_36 cT_21 (wdc wid_68 wd_21) (Or.inl rfl)
theorem r68_4 : runs cal 68 4 [v0, vI u, v2, v3, v4, v5] [vI x0] I = runs cal 68 5 [v0, vI u, vI x0, v3, v4, v5] [] I := runs_to (ins_of mI_68 (by rfl)) rfl rfl
theorem r68_5 : runs cal 68 5 [v0, v1, v2, v3, v4, v5] [] I = runs cal 68 6 [v0, v1, v2, v3, v4, v5] [vI (0)] I := runs_to (ins_of mI_68 (by rfl)) rfl rfl
theorem r68_6 : runs cal 68 6 [v0, v1, vI u, v3, v4, v5] [vI x0] I = runs cal 68 7 [v0, v1, vI u, vI x0, v4, v5] [] I := runs_to (ins_of mI_68 (by rfl)) rfl rfl
theorem r68_7 : runs cal 68 7 [v0, v1, v2, vI w, v4, v5] [] I = runs cal 68 8 [v0, v1, v2, vI w, v4, v5] [vI w] I := runs_to (ins_of mI_68 (by rfl)) rfl rfl
theorem r68_8 : runs cal 68 8 [v0, v1, v2, v3, v4, v5] [vI x0] I = runs cal 68 10 [v0, v1, v2, v3, v4, v5] [vI (40), vI x0] I := runs_to (ins_of mI_68 (by rfl)) rfl rfl
theorem r68_10 : runs cal 68 10 [v0, v1, v2, v3, v4, v5] [vI x0, vI x1] I = if x1 < x0 then runs cal 68 13 [v0, v1, v2, v3, v4, v5] [] I else runs cal 68 37 [v0, v1, v2, v3, v4, v5] [] I := st_cmp_ge (ins_of mI_68 (by rfl)) (by decide)
theorem r68_13 : runs cal 68 13 [vR 21, v1, v2, v3, v4, v5] [] I = runs cal 68 14 [vR 21, v1, v2, v3, v4, v5] [vR 21] I := runs_to (ins_of mI_68 (by rfl)) rfl rfl
theorem r68_14 : runs cal 68 14 [v0, v1, v2, v3, v4, v5] [vR 21] I = runs cal 68 16 [v0, v1, v2, v3, v4, v5] [vI (33), vR 21] I := runs_to (ins_of mI_68 (by rfl)) rfl rfl
theorem r68_16 : runs cal 68 16 [v0, v1, v2, v3, v4, v5] [vI x0, vR 21] I = (cal 73 [vR 21, vI x0] I).bind (fun q => runs cal 68 19 [v0, v1, v2, v3, v4, v5] (pushR q.1 []) q.2) := st_call (st := false) (ins_of mI_68 (by rfl)) mC_68 mr_5_59 (by decide) mS_73 mN_73 rfl (Nat.le_of_ble_eq_true rfl) rfl rfl (Or.inr ⟨_, _, rfl, rcv mC_73 rfl wid_68 (by decide +kernel)⟩) (Or.inl (wid_68.trans wid_73.symm))
theorem r68_19 : runs cal 68 19 [v0, v1, v2, v3, v4, v5] [vI x0] I = if x0 = 0 then runs cal 68 22 [v0, v1, v2, v3, v4, v5] [] I else runs cal 68 31 [v0, v1, v2, v3, v4, v5] [] I := st_if_ne (ins_of mI_68 (by rfl)) (by decide)
theorem r68_22 : runs cal 68 22 [vR 21, v1, v2, v3, v4, v5] [] I = runs cal 68 23 [vR 21, v1, v2, v3, v4, v5] [vR 21] I := runs_to (ins_of mI_68 (by rfl)) rfl rfl
theorem r68_23 : runs cal 68 23 [v0, v1, v2, v3, v4, v5] [vR 21] I = runs cal 68 25 [v0, v1, v2, v3, v4, v5] [vI (45), vR 21] I := runs_to (ins_of mI_68 (by rfl)) rfl rfl
theorem r68_25 : runs cal 68 25 [v0, v1, v2, v3, v4, v5] [vI x0, vR 21] I = (cal 73 [vR 21, vI x0] I).bind (fun q => runs cal 68 28 [v0, v1, v2, v3, v4, v5] (pushR q.1 []) q.2) := st_call (st := false) (ins_of mI_68 (by rfl)) mC_68 mr_5_59 (by decide) mS_73 mN_73 rfl (Nat.le_of_ble_eq_true rfl) rfl rfl (Or.inr ⟨_, _, rfl, rcv mC_73 rfl wid_68 (by decide +kernel)⟩) (Or.inl (wid_68.trans wid_73.symm))
theorem r68_28 : runs cal 68 28 [v0, v1, v2, v3, v4, v5] [vI x0] I = if x0 = 0 then runs cal 68 37 [v0, v1, v2, v3, v4, v5] [] I else runs cal 68 31 [v0, v1, v2, v3, v4, v5] [] I := st_if_eq (ins_of mI_68 (by rfl)) (by decide)
theorem r68_31 : runs cal 68 31 [v0, v1, vI u, vI w, v4, v5] [] I = runs cal 68 34 [v0, v1, vI u, vI (iadd w (1)), v4, v5] [] I := runs_to (ins_of mI_68 (by rfl)) rfl rfl
theorem r68_34 : runs cal 68 34 [v0, v1, v2, v3, v4, v5] [] I = runs cal 68 7 [v0, v1, v2, v3, v4, v5] [] I := st_goto (ins_of mI_68 (by rfl)) (by decide)
theorem r68_37 : runs cal 68 37 [vR 21, v1, v2, v3, v4, v5] [] I = runs cal 68 38 [vR 21, v1, v2, v3, v4, v5] [vR 21] I := runs_to (ins_of mI_68 (by rfl)) rfl rfl
theorem r68_38 : runs cal 68 38 [v0, v1, v2, v3, v4, v5] [vR 21] I = runs cal 68 41 [v0, v1, v2, v3, v4, v5] [vI (I 21 7)] I := st_getI (ins_of mI_68 (by rfl)) mC_68 (by decide) fr_5_36 cT_21 (wdc wid_68 wd_21) (Or.inl rfl)
theorem r68_41 : runs cal 68 41 [v0, v1, vI u, v3, v4, v5] [vI x0] I = runs cal 68 42 [v0, v1, vI u, vI x0, v4, v5] [] I := runs_to (ins_of mI_68 (by rfl)) rfl rfl
theorem r68_42 : runs cal 68 42 [vR 21, v1, v2, v3, v4, v5] [] I = runs cal 68 43 [vR 21, v1, v2, v3, v4, v5] [vR 21] I := runs_to (ins_of mI_68 (by rfl)) rfl rfl
theorem r68_43 : runs cal 68 43 [v0, vI w, v2, v3, v4, v5] [vR 21] I = runs cal 68 44 [v0, vI w, v2, v3, v4, v5] [vI w, vR 21] I := runs_to (ins_of mI_68 (by rfl)) rfl rfl
theorem r68_44 : runs cal 68 44 [v0, v1, v2, v3, v4, v5] [vI x0, vR 21] I = (cal 69 [vR 21, vI x0] I).bind (fun q => runs cal 68 47 [v0, v1, v2, v3, v4, v5] (pushR q.1 []) q.2) := st_call (st := false) (ins_of mI_68 (by rfl)) mC_68 mr_5_78 (by decide) mS_69 mN_69 rfl (Nat.le_of_ble_eq_true rfl) rfl rfl (Or.inr ⟨_, _, rfl, rcv mC_69 rfl wid_68 (by decide +kernel)⟩) (Or.inl (wid_68.trans wid_69.symm))
theorem r68_47 : runs cal 68 47 [v0, v1, v2, vI w, v4, v5] [] I = runs cal 68 48 [v0, v1, v2, vI w, v4, v5] [vI w] I := runs_to (ins_of mI_68 (by rfl)) rfl rfl
theorem r68_48 : runs cal 68 48 [v0, v1, v2, v3, v4, v5] [vI x0] I = runs cal 68 49 [v0, v1, v2, v3, v4, v5] [vI (1), vI x0] I := runs_to (ins_of mI_68 (by rfl)) rfl rfl
theorem r68_49 : runs cal 68 49 [v0, v1, v2, v3, v4, v5] [vI x0, vI x1] I = runs cal 68 50 [v0, v1, v2, v3, v4, v5] [vI (isub x1 x0)] I := runs_to (ins_of mI_68 (by rfl)) rfl rfl
theorem r68_50 : runs cal 68 50 [v0, v1, v2, vI u, v4, v5] [vI x0] I = runs cal 68 52 [v0, v1, v2, vI u, vI x0, v5] [] I := runs_to (ins_of mI_68 (by rfl)) rfl rfl
theorem r68_52 : runs cal 68 52 [v0, v1, v2, v3, vI w, v5] [] I = runs cal 68 54 [v0, v1, v2, v3, vI w, v5] [vI w] I := runs_to (ins_of mI_68 (by rfl)) rfl rfl
theorem r68_54 : runs cal 68 54 [v0, v1, vI w, v3, v4, v5] [vI x0] I = runs cal 68 55 [v0, v1, vI w, v3, v4, v5] [vI w, vI x0] I := runs_to (ins_of mI_68 (by rfl)) rfl rfl
theorem r68_55 : runs cal 68 55 [v0, v1, v2, v3, v4, v5] [vI x0, vI x1] I = if x1 < x0 then runs cal 68 104 [v0, v1, v2, v3, v4, v5] [] I else runs cal 68 58 [v0, v1, v2, v3, v4, v5] [] I := st_cmp_lt (ins_of mI_68 (by rfl)) (by decide)
theorem r68_58 : runs cal 68 58 [vR 21, v1, v2, v3, v4, v5] [] I = runs cal 68 59 [vR 21, v1, v2, v3, v4, v5] [vR 21] I := runs_to (ins_of mI_68 (by rfl)) rfl rfl
theorem r68_59 : runs cal 68 59 [v0, v1, v2, v3, vI w, v5] [vR 21] I = runs cal 68 61 [v0, v1, v2, v3, vI w, v5] [vI w, vR 21] I := runs_to (ins_of mI_68 (by rfl)) rfl rfl
theorem r68_61 : runs cal 68 61 [v0, v1, v2, v3, v4, v5] [vI x0, vR 21] I = (cal 71 [vR 21, vI x0] I).bind (fun q => runs cal 68 64 [v0, v1, v2, v3, v4, v5] (pushR q.1 []) q.2) := st_call (st := false) (ins_of mI_68 (by rfl)) mC_68 mr_5_81 (by decide) mS_71 mN_71 rfl (Nat.le_of_ble_eq_true rfl) rfl rfl (Or.inr ⟨_, _, rfl, rcv mC_71 rfl wid_68 (by decide +kernel)⟩) (Or.inl (wid_68.trans wid_71.symm))
theorem r68_64 : runs cal 68 64 [v0, v1, v2, v3, vI u, v5] [vI x0] I = runs cal 68 66 [v0, v1, v2, v3, vI u, vI x0] [] I := runs_to (ins_of mI_68 (by rfl)) rfl rfl
theorem r68_66 : runs cal 68 66 [v0, v1, v2, v3, v4, vI w] [] I = runs cal 68 68 [v0, v1, v2, v3, v4, vI w] [vI w] I := runs_to (ins_of mI_68 (by rfl)) rfl rfl
theorem r68_68 : runs cal 68 68 [v0, v1, v2, v3, v4, v5] [vI x0] I = runs cal 68 70 [v0, v1, v2, v3, v4, v5] [vI (33), vI x0] I := runs_to (ins_of mI_68 (by rfl)) rfl rfl
theorem r68_70 : runs cal 68 70 [v0, v1, v2, v3, v4, v5] [vI x0, vI x1] I = if x1 = x0 then runs cal 68 80 [v0, v1, v2, v3, v4, v5] [] I else runs cal 68 73 [v0, v1, v2, v3, v4, v5] [] I := st_cmp_eq (ins_of mI_68 (by rfl)) (by decide)
theorem r68_73 : runs cal 68 73 [v0, v1, v2, v3, v4, vI w] [] I = runs cal 68 75 [v0, v1, v2, v3, v4, vI w] [vI w] I := runs_to (ins_of mI_68 (by rfl)) rfl rfl
theorem r68_75 : runs cal 68 75 [v0, v1, v2, v3, v4, v5] [vI x0] I = runs cal 68 77 [v0, v1, v2, v3, v4, v5] [vI (45), vI x0] I := runs_to (ins_of mI_68 (by rfl)) rfl rfl
theorem r68_77 : runs cal 68 77 [v0, v1, v2, v3, v4, v5] [vI x0, vI x1] I = if x1 = x0 then runs cal 68 80 [v0, v1, v2, v3, v4, v5] [] I else runs cal 68 98 [v0, v1, v2, v3, v4, v5] [] I := st_cmp_ne (ins_of mI_68 (by rfl)) (by decide)
theorem r68_80 : runs cal 68 80 [vR 21, v1, v2, v3, v4, v5] [] I = runs cal 68 81 [vR 21, v1, v2, v3, v4, v5] [vR 21] I := runs_to (ins_of mI_68 (by rfl)) rfl rfl
theorem r68_81 : runs cal 68 81 [v0, v1, v2, v3, v4, vI w] [vR 21] I = runs cal 68 83 [v0, v1, v2, v3, v4, vI w] [vI w, vR 21] I := runs_to (ins_of mI_68 (by rfl)) rfl rfl
theorem r68_83 : runs cal 68 83 [v0, v1, v2, v3, v4, v5] [vI x0, vR 21] I = runs cal 68 85 [v0, v1, v2, v3, v4, v5] [vI (33), vI x0, vR 21] I := runs_to (ins_of mI_68 (by rfl)) rfl rfl
theorem r68_85 : runs cal 68 85 [v0, v1, v2, v3, v4, v5] [vI x0, vI x1, vR 21] I = if x1 = x0 then runs cal 68 88 [v0, v1, v2, v3, v4, v5] [vR 21] I else runs cal 68 93 [v0, v1, v2, v3, v4, v5] [vR 21] I := st_cmp_ne (ins_of mI_68 (by rfl)) (by decide)
theorem r68_88 : runs cal 68 88 [v0, v1, v2, v3, v4, v5] [vR 21] I = runs cal 68 90 [v0, v1, v2, v3, v4, v5] [vI (-33), vR 21] I := runs_to (ins_of mI_68 (by rfl)) rfl rfl
theorem r68_90 : runs cal 68 90 [v0, v1, v2, v3, v4, v5] [vI x0, vR 21] I = runs cal 68 95 [v0, v1, v2, v3, v4, v5] [vI x0, vR 21] I := st_goto (ins_of mI_68 (by rfl)) (by decide)
theorem r68_93 : runs cal 68 93 [v0, v1, v2, v3, v4, v5] [vR 21] I = runs cal 68 95 [v0, v1, v2, v3, v4, v5] [vI (-126), vR 21] I := runs_to (ins_of mI_68 (by rfl)) rfl rfl
theorem r68_95 : runs cal 68 95 [v0, v1, v2, v3, v4, v5] [vI x0, vR 21] I = (cal 75 [vR 21, vI x0] I).bind (fun q => runs cal 68 98 [v0, v1, v2, v3, v4, v5] (pushR q.1 []) q.2) := st_call (st := false) (ins_of mI_68 (by rfl)) mC_68 mr_5_63 (by decide) mS_75 mN_75 rfl (Nat.le_of_ble_eq_true rfl) rfl rfl (Or.inr ⟨_, _, rfl, rcv mC_75 rfl wid_68 (by decide +kernel)⟩) (Or.inl (wid_68.trans wid_75.symm))
theorem r68_98 : runs cal 68 98 [v0, v1, v2, vI u, vI w, v5] [] I = runs cal 68 101 [v0, v1, v2, vI u, vI (iadd w (-1)), v5] [] I := runs_to (ins_of mI_68 (by rfl)) rfl rfl
theorem r68_101 : runs cal 68 101 [v0, v1, v2, v3, v4, v5] [] I = runs cal 68 52 [v0, v1, v2, v3, v4, v5] [] I := st_goto (ins_of mI_68 (by rfl)) (by decide)
theorem r68_104 : runs cal 68 104 [v0, v1, v2, v3, v4, v5] [] I = some (none, I) := st_ret (q := none) (k := 3) (ins_of mI_68 (by rfl)) rfl (by decide) mR_68 rfl trivial
theorem r69_0 : runs cal 69 0 [vR 21, v1, v2] [] I = runs cal 69 1 [vR 21, v1, v2] [vR 21] I := runs_to (ins_of mI_69 (by rfl)) rfl rfl
theorem r69_1 : runs cal 69 1 [v0, v1, v2] [vR 21] I = (cal 72 [vR 21] I).bind (fun q => runs cal 69 4 [v0, v1, v2] (pushR q.1 []) q.2) := st_call (st := false) (ins_of mI_69 (by rfl)) mC_69 mr_5_49 (by decide) mS_72 mN_72 rfl (Nat.le_of_ble_eq_true rfl) rfl rfl (Or.inr ⟨_, _, rfl, rcv mC_72 rfl wid_69 (by decide +kernel)⟩) (Or.inl (wid_69.trans wid_72.symm))
theorem r69_4 : runs cal 69 4 [v0, vI u, v2] [vI x0] I = runs cal 69 5 [v0, vI u, vI x0] [] I := runs_to (ins_of mI_69 (by rfl)) rfl rfl
theorem r69_5 : runs cal 69 5 [vR 21, v1, v2] [] I = runs cal 69 6 [vR 21, v1, v2] [vR 21] I := runs_to (ins_of mI_69 (by rfl)) rfl rfl
theorem r69_6 : runs cal 69 6 [v0, v1, vI w] [vR 21] I = runs cal 69 7 [v0, v1, vI w] [vI w, vR 21] I := runs_to (ins_of mI_69 (by rfl)) rfl rfl
theorem r69_7 : runs cal 69 7 [v0, v1, v2] [vI x0, vR 21] I = (cal 76 [vR 21, vI x0] I).bind (fun q => runs cal 69 10 [v0, v1, v2] (pushR q.1 []) q.2) := st_call (st := false) (ins_of mI_69 (by rfl)) mC_69 mr_5_85 (by decide) mS_76 mN_76 rfl (Nat.le_of_ble_eq_true rfl) rfl rfl (Or.inr ⟨_, _, rfl, rcv mC_76 rfl wid_69 (by decide +kernel)⟩) (Or.inl (wid_69.trans wid_76.symm))
theorem r69_10 : runs cal 69 10 [v0, v1, v2] [vI x0] I = if x0 = 0 then runs cal 69 20 [v0, v1, v2] [] I else runs cal 69 13 [v0, v1, v2] [] I := st_if_eq (ins_of mI_69 (by rfl)) (by decide)
theorem r69_13 : runs cal 69 13 [vR 21, v1, v2] [] I = runs cal 69 14 [vR 21, v1, v2] [vR 21] I := runs_to (ins_of mI_69 (by rfl)) rfl rfl
theorem r69_14 : runs cal 69 14 [v0, v1, v2] [vR 21] I = (cal 70 [vR 21] I).bind (fun q => runs cal 69 17 [v0, v1, v2] (pushR q.1 []) q.2) := st_call (st := false) (ins_of mI_69 (by rfl)) mC_69 mr_5_88 (by decide) mS_70 mN_70 rfl (Nat.le_of_ble_eq_true rfl) rfl rfl (Or.inr ⟨_, _, rfl, rcv mC_70 rfl wid_69 (by decide +kernel)⟩) (Or.inl (wid_69.trans wid_70.symm))
theorem r69_17 : runs cal 69 17 [v0, v1, v2] [] I = runs cal 69 101 [v0, v1, v2] [] I := st_goto (ins_of mI_69 (by rfl)) (by decide)
theorem r69_20 : runs cal 69 20 [vR 21, v1, v2] [] I = runs cal 69 21 [vR 21, v1, v2] [vR 21] I := runs_to (ins_of mI_69 (by rfl)) rfl rfl
theorem r69_21 : runs cal 69 21 [v0, v1, vI w] [vR 21] I = runs cal 69 22 [v0, v1, vI w] [vI w, vR 21] I := runs_to (ins_of mI_69 (by rfl)) rfl rfl
theorem r69_22 : runs cal 69 22 [v0, v1, v2] [vI x0, vR 21] I = (cal 77 [vR 21, vI x0] I).bind (fun q => runs cal 69 25 [v0, v1, v2] (pushR q.1 []) q.2) := st_call (st := false) (ins_of mI_69 (by rfl)) mC_69 mr_5_91 (by decide) mS_77 mN_77 rfl (Nat.le_of_ble_eq_true rfl) rfl rfl (Or.inr ⟨_, _, rfl, rcv mC_77 rfl wid_69 (by decide +kernel)⟩) (Or.inl (wid_69.trans wid_77.symm))
theorem r69_25 : runs cal 69 25 [v0, v1, v2] [vI x0] I = if x0 = 0 then runs cal 69 43 [v0, v1, v2] [] I else runs cal 69 28 [v0, v1, v2] [] I := st_if_eq (ins_of mI_69 (by rfl)) (by decide)
theorem r69_28 : runs cal 69 28 [vR 21, v1, v2] [] I = runs cal 69 29 [vR 21, v1, v2] [vR 21] I := runs_to (ins_of mI_69 (by rfl)) rfl rfl
theorem r69_29 : runs cal 69 29 [v0, v1, vI w] [vR 21] I = runs cal 69 30 [v0, v1, vI w] [vI w, vR 21] I := runs_to (ins_of mI_69 (by rfl)) rfl rfl
theorem r69_30 : runs cal 69 30 [v0, v1, v2] [vI x0, vR 21] I = (cal 73 [vR 21, vI x0] I).bind (fun q => runs cal 69 33 [v0, v1, v2] (pushR q.1 []) q.2) := st_call (st := false) (ins_of mI_69 (by rfl)) mC_69 mr_5_59 (by decide) mS_73 mN_73 rfl (Nat.le_of_ble_eq_true rfl) rfl rfl (Or.inr ⟨_, _, rfl, rcv mC_73 rfl wid_69 (by decide +kernel)⟩) (Or.inl (wid_69.trans wid_73.symm))
theorem r69_33 : runs cal 69 33 [v0, v1, v2] [vI x0] I = runs cal 69 34 [v0, v1, v2] [] I := runs_to (ins_of mI_69 (by rfl)) rfl rfl
theorem r69_34 : runs cal 69 34 [vR 21, v1, v2] [] I = runs cal 69 35 [vR 21, v1, v2] [vR 21] I := runs_to (ins_of mI_69 (by rfl)) rfl rfl
theorem r69_35 : runs cal 69 35 [v0, v1, vI w] [vR 21] I = runs cal 69 36 [v0, v1, vI w] [vI w, vR 21] I := runs_to (ins_of mI_69 (by rfl)) rfl rfl
theorem r69_36 : runs cal 69 36 [v0, v1, v2] [vI x0, vR 21] I = runs cal 69 37 [v0, v1, v2] [vI (ineg x0), vR 21] I := runs_to (ins_of mI_69 (by rfl)) rfl rfl
theorem r69_37 : runs cal 69 37 [v0, v1, v2] [vI x0, vR 21] I = (cal 75 [vR 21, vI x0] I).bind (fun q => runs cal 69 40 [v0, v1, v2] (pushR q.1 []) q.2) := st_call (st := false) (ins_of mI_69 (by rfl)) mC_69 mr_5_63 (by decide) mS_75 mN_75 rfl (Nat.le_of_ble_eq_true rfl) rfl rfl (Or.inr ⟨_, _, rfl, rcv mC_75 rfl wid_69 (by decide +kernel)⟩) (Or.inl (wid_69.trans wid_75.symm))
theorem r69_40 : runs cal 69 40 [v0, v1, v2] [] I = runs cal 69 101 [v0, v1, v2] [] I := st_goto (ins_of mI_69 (by rfl)) (by decide)
theorem r69_43 : runs cal 69 43 [v0, v1, vI w] [] I = runs cal 69 44 [v0, v1, vI w] [vI w] I := runs_to (ins_of mI_69 (by rfl)) rfl rfl
theorem r69_44 : runs cal 69 44 [v0, v1, v2] [vI x0] I = runs cal 69 46 [v0, v1, v2] [vI (40), vI x0] I := runs_to (ins_of mI_69 (by rfl)) rfl rfl
theorem r69_46 : runs cal 69 46 [v0, v1, v2] [vI x0, vI x1] I = if x1 = x0 then runs cal 69 49 [v0, v1, v2] [] I else runs cal 69 63 [v0, v1, v2] [] I := st_cmp_ne (ins_of mI_69 (by rfl)) (by decide)
theorem r69_49 : runs cal 69 49 [v0, vI w, v2] [] I = runs cal 69 50 [v0, vI w, v2] [vI w] I := runs_to (ins_of mI_69 (by rfl)) rfl rfl
theorem r69_50 : runs cal 69 50 [v0, v1, v2] [vI x0] I = runs cal 69 52 [v0, v1, v2] [vI (8), vI x0] I := runs_to (ins_of mI_69 (by rfl)) rfl rfl
theorem r69_52 : runs cal 69 52 [v0, v1, v2] [vI x0, vI x1] I = if x1 < x0 then runs cal 69 63 [v0, v1, v2] [] I else runs cal 69 55 [v0, v1, v2] [] I := st_cmp_lt (ins_of mI_69 (by rfl)) (by decide)
theorem r69_55 : runs cal 69 55 [vR 21, v1, v2] [] I = runs cal 69 56 [vR 21, v1, v2] [vR 21] I := runs_to (ins_of mI_69 (by rfl)) rfl rfl
theorem r69_56 : runs cal 69 56 [v0, v1, v2] [vR 21] I = runs cal 69 57 [v0, v1, v2] [vI (3), vR 21] I := runs_to (ins_of mI_69 (by rfl)) rfl rfl
theorem r69_57 : runs cal 69 57 [v0, v1, v2] [vI x0, vR 21] I = (cal 74 [vR 21, vI x0] I).bind (fun q => runs cal 69 60 [v0, v1, v2] (pushR q.1 []) q.2) := st_call (st := false) (ins_of mI_69 (by rfl)) mC_69 mr_5_53 (by decide) mS_74 mN_74 rfl (Nat.le_of_ble_eq_true rfl) rfl rfl (Or.inr ⟨_, _, rfl, rcv mC_74 rfl wid_69 (by decide +kernel)⟩) (Or.inl (wid_69.trans wid_74.symm))
theorem r69_60 : runs cal 69 60 [v0, v1, v2] [] I = runs cal 69 101 [v0, v1, v2] [] I := st_goto (ins_of mI_69 (by rfl)) (by decide)
theorem r69_63 : runs cal 69 63 [vR 21, v1, v2] [] I = runs cal 69 64 [vR 21, v1, v2] [vR 21] I := runs_to (ins_of mI_69 (by rfl)) rfl rfl
theorem r69_64 : runs cal 69 64 [v0, v1, v2] [vR 21] I = runs cal 69 66 [v0, v1, v2] [vI (40), vR 21] I := runs_to (ins_of mI_69 (by rfl)) rfl rfl
theorem r69_66 : runs cal 69 66 [v0, v1, v2] [vI x0, vR 21] I = (cal 73 [vR 21, vI x0] I).bind (fun q => runs cal 69 69 [v0, v1, v2] (pushR q.1 []) q.2) := st_call (st := false) (ins_of mI_69 (by rfl)) mC_69 mr_5_59 (by decide) mS_73 mN_73 rfl (Nat.le_of_ble_eq_true rfl) rfl rfl (Or.inr ⟨_, _, rfl, rcv mC_73 rfl wid_69 (by decide +kernel)⟩) (Or.inl (wid_69.trans wid_73.symm))
theorem r69_69 : runs cal 69 69 [v0, v1, v2] [vI x0] I = if x0 = 0 then runs cal 69 96 [v0, v1, v2] [] I else runs cal 69 72 [v0, v1, v2] [] I := st_if_eq (ins_of mI_69 (by rfl)) (by decide)
theorem r69_72 : runs cal 69 72 [vR 21, v1, v2] [] I = runs cal 69 73 [vR 21, v1, v2] [vR 21] I := runs_to (ins_of mI_69 (by rfl)) rfl rfl
theorem r69_73 : runs cal 69 73 [v0, vI w, v2] [vR 21] I = runs cal 69 74 [v0, vI w, v2] [vI w, vR 21] I := runs_to (ins_of mI_69 (by rfl)) rfl rfl
theorem r69_74 : runs cal 69 74 [v0, v1, v2] [vI x0, vR 21] I = runs cal 69 75 [v0, v1, v2] [vI (1), vI x0, vR 21] I := runs_to (ins_of mI_69 (by rfl)) rfl rfl
theorem r69_75 : runs cal 69 75 [v0, v1, v2] [vI x0, vI x1, vR 21] I = runs cal 69 76 [v0, v1, v2] [vI (iadd x1 x0), vR 21] I := runs_to (ins_of mI_69 (by rfl)) rfl rfl
theorem r69_76 : runs cal 69 76 [v0, v1, v2] [vI x0, vR 21] I = (cal 63 [vR 21, vI x0] I).bind (fun q => runs cal 69 79 [v0, v1, v2] (pushR q.1 []) q.2) := st_call (st := false) (ins_of mI_69 (by rfl)) mC_69 mr_5_45 (by decide) mS_63 mN_63 rfl (Nat.le_of_ble_eq_true rfl) rfl rfl (Or.inr ⟨_, _, rfl, rcv mC_63 rfl wid_69 (by decide +kernel)⟩) (Or.inl (wid_69.trans wid_63.symm))
theorem r69_79 : runs cal 69 79 [vR 21, v1, v2] [] I = runs cal 69 80 [vR 21, v1, v2] [vR 21] I := runs_to (ins_of mI_69 (by rfl)) rfl rfl
theorem r69_80 : runs cal 69 80 [v0, v1, v2] [vR 21] I = runs cal 69 82 [v0, v1, v2] [vI (41), vR 21] I := runs_to (ins_of mI_69 (by rfl)) rfl rfl
theorem r69_82 : runs cal 69 82 [v0, v1, v2] [vI x0, vR 21] I = (cal 73 [vR 21, vI x0] I).bind (fun q => runs cal 69 85 [v0, v1, v2] (pushR q.1 []) q.2) := st_call (st := false) (ins_of mI_69 (by rfl)) mC_69 mr_5_59 (by decide) mS_73 mN_73 rfl (Nat.le_of_ble_eq_true rfl) rfl rfl (Or.inr ⟨_, _, rfl, rcv mC_73 rfl wid_69 (by decide +kernel)⟩) (Or.inl (wid_69.trans wid_73.symm))
theorem r69_85 : runs cal 69 85 [v0, v1, v2] [vI x0] I = if x0 = 0 then runs cal 69 88 [v0, v1, v2] [] I else runs cal 69 101 [v0, v1, v2] [] I := st_if_ne (ins_of mI_69 (by rfl)) (by decide)
theorem r69_88 : runs cal 69 88 [vR 21, v1, v2] [] I = runs cal 69 89 [vR 21, v1, v2] [vR 21] I := runs_to (ins_of mI_69 (by rfl)) rfl rfl
theorem r69_89 : runs cal 69 89 [v0, v1, v2] [vR 21] I = runs cal 69 90 [v0, v1, v2] [vI (1), vR 21] I := runs_to (ins_of mI_69 (by rfl)) rfl rfl
theorem r69_90 : runs cal 69 90 [v0, v1, v2] [vI x0, vR 21] I = (cal 74 [vR 21, vI x0] I).bind (fun q => runs cal 69 93 [v0, v1, v2] (pushR q.1 []) q.2) := st_call (st := false) (ins_of mI_69 (by rfl)) mC_69 mr_5_53 (by decide) mS_74 mN_74 rfl (Nat.le_of_ble_eq_true rfl) rfl rfl (Or.inr ⟨_, _, rfl, rcv mC_74 rfl wid_69 (by decide +kernel)⟩) (Or.inl (wid_69.trans wid_74.symm))
theorem r69_93 : runs cal 69 93 [v0, v1, v2] [] I = runs cal 69 101 [v0, v1, v2] [] I := st_goto (ins_of mI_69 (by rfl)) (by decide)
theorem r69_96 : runs cal 69 96 [vR 21, v1, v2] [] I = runs cal 69 97 [vR 21, v1, v2] [vR 21] I := runs_to (ins_of mI_69 (by rfl)) rfl rfl
theorem r69_97 : runs cal 69 97 [v0, v1, v2] [vR 21] I = runs cal 69 98 [v0, v1, v2] [vI (1), vR 21] I := runs_to (ins_of mI_69 (by rfl)) rfl rfl
theorem r69_98 : runs cal 69 98 [v0, v1, v2] [vI x0, vR 21] I = (cal 74 [vR 21, vI x0] I).bind (fun q => runs cal 69 101 [v0, v1, v2] (pushR q.1 []) q.2) := st_call (st := false) (ins_of mI_69 (by rfl)) mC_69 mr_5_53 (by decide) mS_74 mN_74 rfl (Nat.le_of_ble_eq_true rfl) rfl rfl (Or.inr ⟨_, _, rfl, rcv mC_74 rfl wid_69 (by decide +kernel)⟩) (Or.inl (wid_69.trans wid_74.symm))
theorem r69_101 : runs cal 69 101 [v0, v1, v2] [] I = some (none, I) := st_ret (q := none) (k := 3) (ins_of mI_69 (by rfl)) rfl (by decide) mR_69 rfl trivial
theorem r70_0 : runs cal 70 0 [vR 21, v1, v2, v3] [] I = runs cal 70 1 [vR 21, v1, v2, v3] [vR 21] I := runs_to (ins_of mI_70 (by rfl)) rfl rfl
theorem r70_1 : runs cal 70 1 [v0, v1, v2, v3] [vR 21] I = runs cal 70 4 [v0, v1, v2, v3] [vI (I 21 7)] I := st_getI (ins_of mI_70 (by rfl)) mC_70 (by decide) fr_5_36 cT_21 (wdc wid_70 wd_21) (Or.inl rfl)
theorem r70_4 : runs cal 70 4 [vR b0, v1, v2, v3] [vI x0] I = runs cal 70 5 [vR b0, vI x0, v2, v3] [] I := runs_to (ins_of mI_70 (by rfl)) rfl rfl
theorem r70_5 : runs cal 70 5 [v0, v1, v2, v3] [] I = runs cal 70 6 [v0, v1, v2, v3] [vI (0)] I := runs_to (ins_of mI_70 (by rfl)) rfl rfl
theorem r70_6 : runs cal 70 6 [v0, vI u, v2, v3] [vI x0] I = runs cal 70 7 [v0, vI u, vI x0, v3] [] I := runs_to (ins_of mI_70 (by rfl)) rfl rfl
theorem r70_7 : runs cal 70 7 [v0, v1, v2, v3] [] I = runs cal 70 8 [v0, v1, v2, v3] [vI (0)] I := runs_to (ins_of mI_70 (by rfl)) rfl rfl
theorem r70_8 : runs cal 70 8 [v0, v1, vI u, v3] [vI x0] I = runs cal 70 9 [v0, v1, vI u, vI x0] [] I := runs_to (ins_of mI_70 (by rfl)) rfl rfl
theorem r70_9 : runs cal 70 9 [v0, v1, v2, vI w] [] I = runs cal 70 10 [v0, v1, v2, vI w] [vI w] I := runs_to (ins_of mI_70 (by rfl)) rfl rfl
theorem r70_10 : runs cal 70 10 [v0, v1, v2, v3] [vI x0] I = runs cal 70 12 [v0, v1, v2, v3] [vI (6), vI x0] I := runs_to (ins_of mI_70 (by rfl)) rfl rfl
theorem r70_12 : runs cal 70 12 [v0, v1, v2, v3] [vI x0, vI x1] I = if x1 < x0 then runs cal 70 15 [v0, v1, v2, v3] [] I else runs cal 70 63 [v0, v1, v2, v3] [] I := st_cmp_ge (ins_of mI_70 (by rfl)) (by decide)
theorem r70_15 : runs cal 70 15 [vR 21, v1, v2, v3] [] I = runs cal 70 16 [vR 21, v1, v2, v3] [vR 21] I := runs_to (ins_of mI_70 (by rfl)) rfl rfl
theorem r70_16 : runs cal 70 16 [vR 21, v1, v2, v3] [vR 21] I = runs cal 70 17 [vR 21, v1, v2, v3] [vR 21, vR 21] I := runs_to (ins_of mI_70 (by rfl)) rfl rfl
theorem r70_17 : runs cal 70 17 [vR 21, v1, v2, v3] [vR 21, vR 21] I = runs cal 70 18 [vR 21, v1, v2, v3] [vR 21, vR 21, vR 21] I := runs_to (ins_of mI_70 (by rfl)) rfl rfl
theorem r70_18 : runs cal 70 18 [v0, v1, v2, v3] [vR 21, vR 21, vR 21] I = runs cal 70 21 [v0, v1, v2, v3] [vI (I 21 7), vR 21, vR 21] I := st_getI (ins_of mI_70 (by rfl)) mC_70 (by decide) fr_5_36 cT_21 (wdc wid_70 wd_21) (Or.inl rfl)
theorem r70_21 : runs cal 70 21 [v0, v1, v2, v3] [vI x0, vR 21, vR 21] I = (cal 71 [vR 21, vI x0] I).bind (fun q => runs cal 70 24 [v0, v1, v2, v3] (pushR q.1 [vR 21]) q.2) := st_call (st := false) (ins_of mI_70 (by rfl)) mC_70 mr_5_81 (by decide) mS_71 mN_71 rfl (Nat.le_of_ble_eq_true rfl) rfl rfl (Or.inr ⟨_, _, rfl, rcv mC_71 rfl wid_70 (by decide +kernel)⟩) (Or.inl (wid_70.trans wid_71.symm))
theorem r70_24 : runs cal 70 24 [v0, v1, v2, v3] [vI x0, vR 21] I = (cal 76 [vR 21, vI x0] I).bind (fun q => runs cal 70 27 [v0, v1, v2, v3] (pushR q.1 []) q.2) := st_call (st := false) (ins_of mI_70 (by rfl)) mC_70 mr_5_85 (by decide) mS_76 mN_76 rfl (Nat.le_of_ble_eq_true rfl) rfl rfl (Or.inr ⟨_, _, rfl, rcv mC_76 rfl wid_70 (by decide +kernel)⟩) (Or.inl (wid_70.trans wid_76.symm))
theorem r70_27 : runs cal 70 27 [v0, v1, v2, v3] [vI x0] I = if x0 = 0 then runs cal 70 63 [v0, v1, v2, v3] [] I else runs cal 70 30 [v0, v1, v2, v3] [] I := st_if_eq (ins_of mI_70 (by rfl)) (by decide)
theorem r70_30 : runs cal 70 30 [v0, v1, v2, v3] [] I = runs cal 70 32 [v0, v1, v2, v3] [vI (10)] I := runs_to (ins_of mI_70 (by rfl)) rfl rfl
theorem r70_32 : runs cal 70 32 [v0, v1, vI w, v3] [vI x0] I = runs cal 70 33 [v0, v1, vI w, v3] [vI w, vI x0] I := runs_to (ins_of mI_70 (by rfl)) rfl rfl
theorem r70_33 : runs cal 70 33 [v0, v1, v2, v3] [vI x0, vI x1] I = runs cal 70 34 [v0, v1, v2, v3] [vI (imul x1 x0)] I := runs_to (ins_of mI_70 (by rfl)) rfl rfl
theorem r70_34 : runs cal 70 34 [vR 21, v1, v2, v3] [vI x0] I = runs cal 70 35 [vR 21, v1, v2, v3] [vR 21, vI x0] I := runs_to (ins_of mI_70 (by rfl)) rfl rfl
theorem r70_35 : runs cal 70 35 [vR 21, v1, v2, v3] [vR 21, vI x1] I = runs cal 70 36 [vR 21, v1, v2, v3] [vR 21, vR 21, vI x1] I := runs_to (ins_of mI_70 (by rfl)) rfl rfl
theorem r70_36 : runs cal 70 36 [v0, v1, v2, v3] [vR 21, vR 21, vI x2] I = runs cal 70 39 [v0, v1, v2, v3] [vI (I 21 7), vR 21, vI x2] I := st_getI (ins_of mI_70 (by rfl)) mC_70 (by decide) fr_5_36 cT_21 (wdc wid_70 wd_21) (Or.inl rfl)
theorem r70_39 : runs cal 70 39 [v0, v1, v2, v3] [vI x0, vR 21, vI x2] I = (cal 71 [vR 21, vI x0] I).bind (fun q => runs cal 70 42 [v0, v1, v2, v3] (pushR q.1 [vI x2]) q.2) := st_call (st := false) (ins_of mI_70 (by rfl)) mC_70 mr_5_81 (by decide) mS_71 mN_71 rfl (Nat.le_of_ble_eq_true rfl) rfl rfl (Or.inr ⟨_, _, rfl, rcv mC_71 rfl wid_70 (by decide +kernel)⟩) (Or.inl (wid_70.trans wid_71.symm))
theorem r70_42 : runs cal 70 42 [v0, v1, v2, v3] [vI x0, vI x1] I = runs cal 70 43 [v0, v1, v2, v3] [vI (iadd x1 x0)] I := runs_to (ins_of mI_70 (by rfl)) rfl rfl
theorem r70_43 : runs cal 70 43 [v0, v1, v2, v3] [vI x0] I = runs cal 70 45 [v0, v1, v2, v3] [vI (48), vI x0] I := runs_to (ins_of mI_70 (by rfl)) rfl rfl
theorem r70_45 : runs cal 70 45 [v0, v1, v2, v3] [vI x0, vI x1] I = runs cal 70 46 [v0, v1, v2, v3] [vI (isub x1 x0)] I := runs_to (ins_of mI_70 (by rfl)) rfl rfl
theorem r70_46 : runs cal 70 46 [v0, vI u, v2, v3] [vI x0] I = runs cal 70 47 [v0, vI u, vI x0, v3] [] I := runs_to (ins_of mI_70 (by rfl)) rfl rfl
theorem r70_47 : runs cal 70 47 [vR 21, v1, v2, v3] [] I = runs cal 70 48 [vR 21, v1, v2, v3] [vR 21] I := runs_to (ins_of mI_70 (by rfl)) rfl rfl
theorem r70_48 : runs cal 70 48 [v0, v1, v2, v3] [vR 21] I = runs cal 70 49 [v0, v1, v2, v3] [vR 21, vR 21] I := runs_to (ins_of mI_70 (by rfl)) rfl rfl
theorem r70_49 : runs cal 70 49 [v0, v1, v2, v3] [vR 21, vR 21] I = runs cal 70 52 [v0, v1, v2, v3] [vI (I 21 7), vR 21] I := st_getI (ins_of mI_70 (by rfl)) mC_70 (by decide) fr_5_36 cT_21 (wdc wid_70 wd_21) (Or.inl rfl)
theorem r70_52 : runs cal 70 52 [v0, v1, v2, v3] [vI x0, vR 21] I = runs cal 70 53 [v0, v1, v2, v3] [vI (1), vI x0, vR 21] I := runs_to (ins_of mI_70 (by rfl)) rfl rfl
theorem r70_53 : runs cal 70 53 [v0, v1, v2, v3] [vI x0, vI x1, vR 21] I = runs cal 70 54 [v0, v1, v2, v3] [vI (iadd x1 x0), vR 21] I := runs_to (ins_of mI_70 (by rfl)) rfl rfl
theorem r70_54 : runs cal 70 54 [v0, v1, v2, v3] [vI x0, vR 21] I = runs cal 70 57 [v0, v1, v2, v3] [] (mset I 21 7 x0) := st_putI (ins_of mI_70 (by rfl)) mC_70 fr_5_36 cT_21 (wdc wid_70 wd_21) rfl
theorem r70_57 : runs cal 70 57 [v0, v1, vI u, vI w] [] I = runs cal 70 60 [v0, v1, vI u, vI (iadd w (1))] [] I := runs_to (ins_of mI_70 (by rfl)) rfl rfl
theorem r70_60 : runs cal 70 60 [v0, v1, v2, v3] [] I = runs cal 70 9 [v0, v1, v2, v3] [] I := st_goto (ins_of mI_70 (by rfl)) (by decide)
theorem r70_63 : runs cal 70 63 [vR 21, v1, v2, v3] [] I = runs cal 70 64 [vR 21, v1, v2, v3] [vR 21] I := runs_to (ins_of mI_70 (by rfl)) rfl rfl
theorem r70_64 : runs cal 70 64 [vR 21, v1, v2, v3] [vR 21] I = runs cal 70 65 [vR 21, v1, v2, v3] [vR 21, vR 21] I := runs_to (ins_of mI_70 (by rfl)) rfl rfl
theorem r70_65 : runs cal 70 65 [vR 21, v1, v2, v3] [vR 21, vR 21] I = runs cal 70 66 [vR 21, v1, v2, v3] [vR 21, vR 21, vR 21] I := runs_to (ins_of mI_70 (by rfl)) rfl rfl
theorem r70_66 : runs cal 70 66 [v0, v1, v2, v3] [vR 21, vR 21, vR 21] I = runs cal 70 69 [v0, v1, v2, v3] [vI (I 21 7), vR 21, vR 21] I := st_getI (ins_of mI_70 (by rfl)) mC_70 (by decide) fr_5_36 cT_21 (wdc wid_70 wd_21) (Or.inl rfl)
theorem r70_69 : runs cal 70 69 [v0, v1, v2, v3] [vI x0, vR 21, vR 21] I = (cal 71 [vR 21, vI x0] I).bind (fun q => runs cal 70 72 [v0, v1, v2, v3] (pushR q.1 [vR 21]) q.2) := st_call (st := false) (ins_of mI_70 (by rfl)) mC_70 mr_5_81 (by decide) mS_71 mN_71 rfl (Nat.le_of_ble_eq_true rfl) rfl rfl (Or.inr ⟨_, _, rfl, rcv mC_71 rfl wid_70 (by decide +kernel)⟩) (Or.inl (wid_70.trans wid_71.symm))
theorem r70_72 : runs cal 70 72 [v0, v1, v2, v3] [vI x0, vR 21] I = (cal 76 [vR 21, vI x0] I).bind (fun q => runs cal 70 75 [v0, v1, v2, v3] (pushR q.1 []) q.2) := st_call (st := false) (ins_of mI_70 (by rfl)) mC_70 mr_5_85 (by decide) mS_76 mN_76 rfl (Nat.le_of_ble_eq_true rfl) rfl rfl (Or.inr ⟨_, _, rfl, rcv mC_76 rfl wid_70 (by decide +kernel)⟩) (Or.inl (wid_70.trans wid_76.symm))
theorem r70_75 : runs cal 70 75 [v0, v1, v2, v3] [vI x0] I = if x0 = 0 then runs cal 70 88 [v0, v1, v2, v3] [] I else runs cal 70 78 [v0, v1, v2, v3] [] I := st_if_eq (ins_of mI_70 (by rfl)) (by decide)
theorem r70_78 : runs cal 70 78 [vR 21, v1, v2, v3] [] I = runs cal 70 79 [vR 21, v1, v2, v3] [vR 21] I := runs_to (ins_of mI_70 (by rfl)) rfl rfl
theorem r70_79 : runs cal 70 79 [v0, vI w, v2, v3] [vR 21] I = runs cal 70 80 [v0, vI w, v2, v3] [vI w, vR 21] I := runs_to (ins_of mI_70 (by rfl)) rfl rfl
theorem r70_80 : runs cal 70 80 [v0, v1, v2, v3] [vI x0, vR 21] I = runs cal 70 83 [v0, v1, v2, v3] [] (mset I 21 7 x0) := st_putI (ins_of mI_70 (by rfl)) mC_70 fr_5_36 cT_21 (wdc wid_70 wd_21) rfl
theorem r70_83 : runs cal 70 83 [vR 21, v1, v2, v3] [] I = runs cal 70 84 [vR 21, v1, v2, v3] [vR 21] I := runs_to (ins_of mI_70 (by rfl)) rfl rfl
theorem r70_84 : runs cal 70 84 [v0, v1, v2, v3] [vR 21] I = runs cal 70 85 [v0, v1, v2, v3] [vI (2), vR 21] I := runs_to (ins_of mI_70 (by rfl)) rfl rfl
theorem r70_85 : runs cal 70 85 [v0, v1, v2, v3] [vI x0, vR 21] I = (cal 74 [vR 21, vI x0] I).bind (fun q => runs cal 70 88 [v0, v1, v2, v3] (pushR q.1 []) q.2) := st_call (st := false) (ins_of mI_70 (by rfl)) mC_70 mr_5_53 (by decide) mS_74 mN_74 rfl (Nat.le_of_ble_eq_true rfl) rfl rfl (Or.inr ⟨_, _, rfl, rcv mC_74 rfl wid_70 (by decide +kernel)⟩) (Or.inl (wid_70.trans wid_74.symm))
theorem r70_88 : runs cal 70 88 [vR 21, v1, v2, v3] [] I = runs cal 70 89 [vR 21, v1, v2, v3] [vR 21] I := runs_to (ins_of mI_70 (by rfl)) rfl rfl
theorem r70_89 : runs cal 70 89 [v0, v1, vI w, v3] [vR 21] I = runs cal 70 90 [v0, v1, vI w, v3] [vI w, vR 21] I := runs_to (ins_of mI_70 (by rfl)) rfl rfl
theorem r70_90 : runs cal 70 90 [v0, v1, v2, v3] [vI x0, vR 21] I = (cal 75 [vR 21, vI x0] I).bind (fun q => runs cal 70 93 [v0, v1, v2, v3] (pushR q.1 []) q.2) := st_call (st := false) (ins_of mI_70 (by rfl)) mC_70 mr_5_63 (by decide) mS_75 mN_75 rfl (Nat.le_of_ble_eq_true rfl) rfl rfl (Or.inr ⟨_, _, rfl, rcv mC_75 rfl wid_70 (by decide +kernel)⟩) (Or.inl (wid_70.trans wid_75.symm))
theorem r70_93 : runs cal 70 93 [v0, v1, v2, v3] [] I = some (none, I) := st_ret (q := none) (k := 3) (ins_of mI_70 (by rfl)) rfl (by decide) mR_70 rfl trivial
theorem r71_0 : runs cal 71 0 [v0, vI w] [] I = runs cal 71 1 [v0, vI w] [vI w] I := runs_to (ins_of mI_71 (by rfl)) rfl rfl
theorem r71_1 : runs cal 71 1 [v0, v1] [vI x0] I = if x0 < 0 then runs cal 71 27 [v0, v1] [] I else runs cal 71 4 [v0, v1] [] I := st_if_lt (ins_of mI_71 (by rfl)) (by decide)
theorem r71_4 : runs cal 71 4 [v0, vI w] [] I = runs cal 71 5 [v0, vI w] [vI w] I := runs_to (ins_of mI_71 (by rfl)) rfl rfl
theorem r71_5 : runs cal 71 5 [vR 21, v1] [vI x0] I = runs cal 71 6 [vR 21, v1] [vR 21, vI x0] I := runs_to (ins_of mI_71 (by rfl)) rfl rfl
theorem r71_6 : runs cal 71 6 [v0, v1] [vR 21, vI x1] I = runs cal 71 9 [v0, v1] [vI (I 21 1), vI x1] I := st_getI (ins_of mI_71 (by rfl)) mC_71 (by decide) fr_5_22 cT_21 (wdc wid_71 wd_21) (Or.inl rfl)
theorem r71_9 : runs cal 71 9 [v0, v1] [vI x0, vI x1] I = if x1 < x0 then runs cal 71 12 [v0, v1] [] I else runs cal 71 27 [v0, v1] [] I := st_cmp_ge (ins_of mI_71 (by rfl)) (by decide)
theorem r71_12 : runs cal 71 12 [v0, vI w] [] I = runs cal 71 13 [v0, vI w] [vI w] I := runs_to (ins_of mI_71 (by rfl)) rfl rfl
theorem r71_13 : runs cal 71 13 [v0, v1] [vI x0] I = runs cal 71 15 [v0, v1] [vI (40), vI x0] I := runs_to (ins_of mI_71 (by rfl)) rfl rfl
theorem r71_15 : runs cal 71 15 [v0, v1] [vI x0, vI x1] I = if x1 < x0 then runs cal 71 18 [v0, v1] [] I else runs cal 71 27 [v0, v1] [] I := st_cmp_ge (ins_of mI_71 (by rfl)) (by decide)
theorem r71_18 : runs cal 71 18 [vR 21, v1] [] I = runs cal 71 19 [vR 21, v1] [vR 21] I := runs_to (ins_of mI_71 (by rfl)) rfl rfl
theorem r71_19 : runs cal 71 19 [v0, v1] [vR 21] I = runs cal 71 22 [v0, v1] [vR 22] I := st_getR (ins_of mI_71 (by rfl)) mC_71 (by decide) fr_5_11 cT_21 (wdc wid_71 wd_21) rfl rfl
theorem r71_22 : runs cal 71 22 [v0, vI w] [vR 22] I = runs cal 71 23 [v0, vI w] [vI w, vR 22] I := runs_to (ins_of mI_71 (by rfl)) rfl rfl
theorem r71_23 : runs cal 71 23 [v0, v1] [vI x0, vR 22] I = if 0 ≤ x0 ∧ x0 < 40 then runs cal 71 24 [v0, v1] [vI (I 22 x0)] I else none := st_iald (ins_of mI_71 (by rfl)) cT_22 (wdc wid_71 wd_22)
theorem r71_24 : runs cal 71 24 [v0, v1] [vI x0] I = runs cal 71 28 [v0, v1] [vI x0] I := st_goto (ins_of mI_71 (by rfl)) (by decide)
theorem r71_27 : runs cal 71 27 [v0, v1] [] I = runs cal 71 28 [v0, v1] [vI (-1)] I := runs_to (ins_of mI_71 (by rfl)) rfl rfl
theorem r71_28 : runs cal 71 28 [v0, v1] [vI x0] I = some (some (vI x0), I) := st_ret (q := some (vI x0)) (k := 0) (ins_of mI_71 (by rfl)) rfl (by decide) mR_71 rfl trivial
theorem r72_0 : runs cal 72 0 [vR 21] [] I = runs cal 72 1 [vR 21] [vR 21] I := runs_to (ins_of mI_72 (by rfl)) rfl rfl
theorem r72_1 : runs cal 72 1 [v0] [vR 21] I = runs cal 72 4 [v0] [vI (I 21 7)] I := st_getI (ins_of mI_72 (by rfl)) mC_72 (by decide) fr_5_36 cT_21 (wdc wid_72 wd_21) (Or.inl rfl)
theorem r72_4 : runs cal 72 4 [vR 21] [vI x0] I = runs cal 72 5 [vR 21] [vR 21, vI x0] I := runs_to (ins_of mI_72 (by rfl)) rfl rfl
theorem r72_5 : runs cal 72 5 [v0] [vR 21, vI x1] I = runs cal 72 8 [v0] [vI (I 21 1), vI x1] I := st_getI (ins_of mI_72 (by rfl)) mC_72 (by decide) fr_5_22 cT_21 (wdc wid_72 wd_21) (Or.inl rfl)
theorem r72_8 : runs cal 72 8 [v0] [vI x0, vI x1] I = if x1 < x0 then runs cal 72 11 [v0] [] I else runs cal 72 45 [v0] [] I := st_cmp_ge (ins_of mI_72 (by rfl)) (by decide)
theorem r72_11 : runs cal 72 11 [vR 21] [] I = runs cal 72 12 [vR 21] [vR 21] I := runs_to (ins_of mI_72 (by rfl)) rfl rfl
theorem r72_12 : runs cal 72 12 [vR 21] [vR 21] I = runs cal 72 13 [vR 21] [vR 21, vR 21] I := runs_to (ins_of mI_72 (by rfl)) rfl rfl
theorem r72_13 : runs cal 72 13 [v0] [vR 21, vR 21] I = runs cal 72 16 [v0] [vI (I 21 7), vR 21] I := st_getI (ins_of mI_72 (by rfl)) mC_72 (by decide) fr_5_36 cT_21 (wdc wid_72 wd_21) (Or.inl rfl)
theorem r72_16 : runs cal 72 16 [v0] [vI x0, vR 21] I = (cal 71 [vR 21, vI x0] I).bind (fun q => runs cal 72 19 [v0] (pushR q.1 []) q.2) := st_call (st := false) (ins_of mI_72 (by rfl)) mC_72 mr_5_81 (by decide) mS_71 mN_71 rfl (Nat.le_of_ble_eq_true rfl) rfl rfl (Or.inr ⟨_, _, rfl, rcv mC_71 rfl wid_72 (by decide +kernel)⟩) (Or.inl (wid_72.trans wid_71.symm))
theorem r72_19 : runs cal 72 19 [v0] [vI x0] I = runs cal 72 21 [v0] [vI (32), vI x0] I := runs_to (ins_of mI_72 (by rfl)) rfl rfl
theorem r72_21 : runs cal 72 21 [v0] [vI x0, vI x1] I = if x1 = x0 then runs cal 72 24 [v0] [] I else runs cal 72 45 [v0] [] I := st_cmp_ne (ins_of mI_72 (by rfl)) (by decide)
theorem r72_24 : runs cal 72 24 [vR 21] [] I = runs cal 72 25 [vR 21] [vR 21] I := runs_to (ins_of mI_72 (by rfl)) rfl rfl
theorem r72_25 : runs cal 72 25 [v0] [vR 21] I = runs cal 72 28 [v0] [vI (I 21 8)] I := st_getI (ins_of mI_72 (by rfl)) mC_72 (by decide) fr_5_42 cT_21 (wdc wid_72 wd_21) (Or.inl rfl)
theorem r72_28 : runs cal 72 28 [v0] [vI x0] I = runs cal 72 29 [v0] [vI (-1), vI x0] I := runs_to (ins_of mI_72 (by rfl)) rfl rfl
theorem r72_29 : runs cal 72 29 [v0] [vI x0, vI x1] I = if x1 = x0 then runs cal 72 32 [v0] [] I else runs cal 72 45 [v0] [] I := st_cmp_ne (ins_of mI_72 (by rfl)) (by decide)
theorem r72_32 : runs cal 72 32 [vR 21] [] I = runs cal 72 33 [vR 21] [vR 21] I := runs_to (ins_of mI_72 (by rfl)) rfl rfl
theorem r72_33 : runs cal 72 33 [v0] [vR 21] I = runs cal 72 34 [v0] [vR 21, vR 21] I := runs_to (ins_of mI_72 (by rfl)) rfl rfl
theorem r72_34 : runs cal 72 34 [v0] [vR 21, vR 21] I = runs cal 72 37 [v0] [vI (I 21 7), vR 21] I := st_getI (ins_of mI_72 (by rfl)) mC_72 (by decide) fr_5_36 cT_21 (wdc wid_72 wd_21) (Or.inl rfl)
theorem r72_37 : runs cal 72 37 [v0] [vI x0, vR 21] I = runs cal 72 38 [v0] [vI (1), vI x0, vR 21] I := runs_to (ins_of mI_72 (by rfl)) rfl rfl
theorem r72_38 : runs cal 72 38 [v0] [vI x0, vI x1, vR 21] I = runs cal 72 39 [v0] [vI (iadd x1 x0), vR 21] I := runs_to (ins_of mI_72 (by rfl)) rfl rfl
theorem r72_39 : runs cal 72 39 [v0] [vI x0, vR 21] I = runs cal 72 42 [v0] [] (mset I 21 7 x0) := st_putI (ins_of mI_72 (by rfl)) mC_72 fr_5_36 cT_21 (wdc wid_72 wd_21) rfl
theorem r72_42 : runs cal 72 42 [v0] [] I = runs cal 72 0 [v0] [] I := st_goto (ins_of mI_72 (by rfl)) (by decide)
theorem r72_45 : runs cal 72 45 [vR 21] [] I = runs cal 72 46 [vR 21] [vR 21] I := runs_to (ins_of mI_72 (by rfl)) rfl rfl
theorem r72_46 : runs cal 72 46 [v0] [vR 21] I = runs cal 72 49 [v0] [vI (I 21 8)] I := st_getI (ins_of mI_72 (by rfl)) mC_72 (by decide) fr_5_42 cT_21 (wdc wid_72 wd_21) (Or.inl rfl)
theorem r72_49 : runs cal 72 49 [v0] [vI x0] I = runs cal 72 50 [v0] [vI (-1), vI x0] I := runs_to (ins_of mI_72 (by rfl)) rfl rfl
theorem r72_50 : runs cal 72 50 [v0] [vI x0, vI x1] I = if x1 = x0 then runs cal 72 53 [v0] [] I else runs cal 72 64 [v0] [] I := st_cmp_ne (ins_of mI_72 (by rfl)) (by decide)
theorem r72_53 : runs cal 72 53 [vR 21] [] I = runs cal 72 54 [vR 21] [vR 21] I := runs_to (ins_of mI_72 (by rfl)) rfl rfl
theorem r72_54 : runs cal 72 54 [vR 21] [vR 21] I = runs cal 72 55 [vR 21] [vR 21, vR 21] I := runs_to (ins_of mI_72 (by rfl)) rfl rfl
theorem r72_55 : runs cal 72 55 [v0] [vR 21, vR 21] I = runs cal 72 58 [v0] [vI (I 21 7), vR 21] I := st_getI (ins_of mI_72 (by rfl)) mC_72 (by decide) fr_5_36 cT_21 (wdc wid_72 wd_21) (Or.inl rfl)
theorem r72_58 : runs cal 72 58 [v0] [vI x0, vR 21] I = (cal 71 [vR 21, vI x0] I).bind (fun q => runs cal 72 61 [v0] (pushR q.1 []) q.2) := st_call (st := false) (ins_of mI_72 (by rfl)) mC_72 mr_5_81 (by decide) mS_71 mN_71 rfl (Nat.le_of_ble_eq_true rfl) rfl rfl (Or.inr ⟨_, _, rfl, rcv mC_71 rfl wid_72 (by decide +kernel)⟩) (Or.inl (wid_72.trans wid_71.symm))
theorem r72_61 : runs cal 72 61 [v0] [vI x0] I = runs cal 72 65 [v0] [vI x0] I := st_goto (ins_of mI_72 (by rfl)) (by decide)
theorem r72_64 : runs cal 72 64 [v0] [] I = runs cal 72 65 [v0] [vI (-1)] I := runs_to (ins_of mI_72 (by rfl)) rfl rfl
theorem r72_65 : runs cal 72 65 [v0] [vI x0] I = some (some (vI x0), I) := st_ret (q := some (vI x0)) (k := 0) (ins_of mI_72 (by rfl)) rfl (by decide) mR_72 rfl trivial
theorem r73_0 : runs cal 73 0 [vR 21, v1] [] I = runs cal 73 1 [vR 21, v1] [vR 21] I := runs_to (ins_of mI_73 (by rfl)) rfl rfl
theorem r73_1 : runs cal 73 1 [v0, v1] [vR 21] I = (cal 72 [vR 21] I).bind (fun q => runs cal 73 4 [v0, v1] (pushR q.1 []) q.2) := st_call (st := false) (ins_of mI_73 (by rfl)) mC_73 mr_5_49 (by decide) mS_72 mN_72 rfl (Nat.le_of_ble_eq_true rfl) rfl rfl (Or.inr ⟨_, _, rfl, rcv mC_72 rfl wid_73 (by decide +kernel)⟩) (Or.inl (wid_73.trans wid_72.symm))
theorem r73_4 : runs cal 73 4 [v0, vI w] [vI x0] I = runs cal 73 5 [v0, vI w] [vI w, vI x0] I := runs_to (ins_of mI_73 (by rfl)) rfl rfl
theorem r73_5 : runs cal 73 5 [v0, v1] [vI x0, vI x1] I = if x1 = x0 then runs cal 73 10 [v0, v1] [] I else runs cal 73 8 [v0, v1] [] I := st_cmp_eq (ins_of mI_73 (by rfl)) (by decide)
theorem r73_8 : runs cal 73 8 [v0, v1] [] I = runs cal 73 9 [v0, v1] [vI (0)] I := runs_to (ins_of mI_73 (by rfl)) rfl rfl
theorem r73_9 : runs cal 73 9 [v0, v1] [vI x0] I = if x0 = 0 ∨ x0 = 1 then some (some (vI x0), I) else none := st_retZ (ins_of mI_73 (by rfl)) mR_73 (Or.inl rfl)
theorem r73_10 : runs cal 73 10 [vR 21, v1] [] I = runs cal 73 11 [vR 21, v1] [vR 21] I := runs_to (ins_of mI_73 (by rfl)) rfl rfl
theorem r73_11 : runs cal 73 11 [v0, v1] [vR 21] I = runs cal 73 12 [v0, v1] [vR 21, vR 21] I := runs_to (ins_of mI_73 (by rfl)) rfl rfl
theorem r73_12 : runs cal 73 12 [v0, v1] [vR 21, vR 21] I = runs cal 73 15 [v0, v1] [vI (I 21 7), vR 21] I := st_getI (ins_of mI_73 (by rfl)) mC_73 (by decide) fr_5_36 cT_21 (wdc wid_73 wd_21) (Or.inl rfl)
theorem r73_15 : runs cal 73 15 [v0, v1] [vI x0, vR 21] I = runs cal 73 16 [v0, v1] [vI (1), vI x0, vR 21] I := runs_to (ins_of mI_73 (by rfl)) rfl rfl
theorem r73_16 : runs cal 73 16 [v0, v1] [vI x0, vI x1, vR 21] I = runs cal 73 17 [v0, v1] [vI (iadd x1 x0), vR 21] I := runs_to (ins_of mI_73 (by rfl)) rfl rfl
theorem r73_17 : runs cal 73 17 [v0, v1] [vI x0, vR 21] I = runs cal 73 20 [v0, v1] [] (mset I 21 7 x0) := st_putI (ins_of mI_73 (by rfl)) mC_73 fr_5_36 cT_21 (wdc wid_73 wd_21) rfl
theorem r73_20 : runs cal 73 20 [v0, v1] [] I = runs cal 73 21 [v0, v1] [vI (1)] I := runs_to (ins_of mI_73 (by rfl)) rfl rfl
theorem r73_21 : runs cal 73 21 [v0, v1] [vI x0] I = if x0 = 0 ∨ x0 = 1 then some (some (vI x0), I) else none := st_retZ (ins_of mI_73 (by rfl)) mR_73 (Or.inl rfl)
theorem r74_0 : runs cal 74 0 [vR 21, v1] [] I = runs cal 74 1 [vR 21, v1] [vR 21] I := runs_to (ins_of mI_74 (by rfl)) rfl rfl
theorem r74_1 : runs cal 74 1 [v0, v1] [vR 21] I = runs cal 74 4 [v0, v1] [vI (I 21 8)] I := st_getI (ins_of mI_74 (by rfl)) mC_74 (by decide) fr_5_42 cT_21 (wdc wid_74 wd_21) (Or.inl rfl)
theorem r74_4 : runs cal 74 4 [v0, v1] [vI x0] I = runs cal 74 5 [v0, v1] [vI (-1), vI x0] I := runs_to (ins_of mI_74 (by rfl)) rfl rfl
theorem r74_5 : runs cal 74 5 [v0, v1] [vI x0, vI x1] I = if x1 = x0 then runs cal 74 8 [v0, v1] [] I else runs cal 74 21 [v0, v1] [] I := st_cmp_ne (ins_of mI_74 (by rfl)) (by decide)
theorem r74_8 : runs cal 74 8 [vR 21, v1] [] I = runs cal 74 9 [vR 21, v1] [vR 21] I := runs_to (ins_of mI_74 (by rfl)) rfl rfl
theorem r74_9 : runs cal 74 9 [v0, v1] [vR 21] I = runs cal 74 11 [v0, v1] [vI (10), vR 21] I := runs_to (ins_of mI_74 (by rfl)) rfl rfl
theorem r74_11 : runs cal 74 11 [vR 21, v1] [vI x0, vR 21] I = runs cal 74 12 [vR 21, v1] [vR 21, vI x0, vR 21] I := runs_to (ins_of mI_74 (by rfl)) rfl rfl
theorem r74_12 : runs cal 74 12 [v0, v1] [vR 21, vI x1, vR 21] I = runs cal 74 15 [v0, v1] [vI (I 21 7), vI x1, vR 21] I := st_getI (ins_of mI_74 (by rfl)) mC_74 (by decide) fr_5_36 cT_21 (wdc wid_74 wd_21) (Or.inl rfl)
theorem r74_15 : runs cal 74 15 [v0, v1] [vI x0, vI x1, vR 21] I = runs cal 74 16 [v0, v1] [vI (imul x1 x0), vR 21] I := runs_to (ins_of mI_74 (by rfl)) rfl rfl
theorem r74_16 : runs cal 74 16 [v0, vI w] [vI x0, vR 21] I = runs cal 74 17 [v0, vI w] [vI w, vI x0, vR 21] I := runs_to (ins_of mI_74 (by rfl)) rfl rfl
theorem r74_17 : runs cal 74 17 [v0, v1] [vI x0, vI x1, vR 21] I = runs cal 74 18 [v0, v1] [vI (iadd x1 x0), vR 21] I := runs_to (ins_of mI_74 (by rfl)) rfl rfl
theorem r74_18 : runs cal 74 18 [v0, v1] [vI x0, vR 21] I = runs cal 74 21 [v0, v1] [] (mset I 21 8 x0) := st_putI (ins_of mI_74 (by rfl)) mC_74 fr_5_42 cT_21 (wdc wid_74 wd_21) rfl
theorem r74_21 : runs cal 74 21 [v0, v1] [] I = some (none, I) := st_ret (q := none) (k := 3) (ins_of mI_74 (by rfl)) rfl (by decide) mR_74 rfl trivial
theorem r75_0 : runs cal 75 0 [vR 21, v1] [] I = runs cal 75 1 [vR 21, v1] [vR 21] I := runs_to (ins_of mI_75 (by rfl)) rfl rfl
theorem r75_1 : runs cal 75 1 [v0, v1] [vR 21] I = runs cal 75 4 [v0, v1] [vI (I 21 3)] I := st_getI (ins_of mI_75 (by rfl)) mC_75 (by decide) fr_5_39 cT_21 (wdc wid_75 wd_21) (Or.inl rfl)
theorem r75_4 : runs cal 75 4 [v0, v1] [vI x0] I = runs cal 75 6 [v0, v1] [vI (40), vI x0] I := runs_to (ins_of mI_75 (by rfl)) rfl rfl
theorem r75_6 : runs cal 75 6 [v0, v1] [vI x0, vI x1] I = if x1 < x0 then runs cal 75 9 [v0, v1] [] I else runs cal 75 29 [v0, v1] [] I := st_cmp_ge (ins_of mI_75 (by rfl)) (by decide)
theorem r75_9 : runs cal 75 9 [vR 21, v1] [] I = runs cal 75 10 [vR 21, v1] [vR 21] I := runs_to (ins_of mI_75 (by rfl)) rfl rfl
theorem r75_10 : runs cal 75 10 [v0, v1] [vR 21] I = runs cal 75 13 [v0, v1] [vR 23] I := st_getR (ins_of mI_75 (by rfl)) mC_75 (by decide) fr_5_15 cT_21 (wdc wid_75 wd_21) rfl rfl
theorem r75_13 : runs cal 75 13 [vR 21, v1] [vR 23] I = runs cal 75 14 [vR 21, v1] [vR 21, vR 23] I := runs_to (ins_of mI_75 (by rfl)) rfl rfl
theorem r75_14 : runs cal 75 14 [v0, v1] [vR 21, vR 23] I = runs cal 75 17 [v0, v1] [vI (I 21 3), vR 23] I := st_getI (ins_of mI_75 (by rfl)) mC_75 (by decide) fr_5_39 cT_21 (wdc wid_75 wd_21) (Or.inl rfl)
theorem r75_17 : runs cal 75 17 [v0, vI w] [vI x0, vR 23] I = runs cal 75 18 [v0, vI w] [vI w, vI x0, vR 23] I := runs_to (ins_of mI_75 (by rfl)) rfl rfl
theorem r75_18 : runs cal 75 18 [v0, v1] [vI x0, vI x1, vR 23] I = if 0 ≤ x1 ∧ x1 < 40 then runs cal 75 19 [v0, v1] [] (mset I 23 x1 x0) else none := st_iast (ins_of mI_75 (by rfl)) cT_23 (wdc wid_75 wd_23)
theorem r75_19 : runs cal 75 19 [vR 21, v1] [] I = runs cal 75 20 [vR 21, v1] [vR 21] I := runs_to (ins_of mI_75 (by rfl)) rfl rfl
theorem r75_20 : runs cal 75 20 [v0, v1] [vR 21] I = runs cal 75 21 [v0, v1] [vR 21, vR 21] I := runs_to (ins_of mI_75 (by rfl)) rfl rfl
theorem r75_21 : runs cal 75 21 [v0, v1] [vR 21, vR 21] I = runs cal 75 24 [v0, v1] [vI (I 21 3), vR 21] I := st_getI (ins_of mI_75 (by rfl)) mC_75 (by decide) fr_5_39 cT_21 (wdc wid_75 wd_21) (Or.inl rfl)
theorem r75_24 : runs cal 75 24 [v0, v1] [vI x0, vR 21] I = runs cal 75 25 [v0, v1] [vI (1), vI x0, vR 21] I := runs_to (ins_of mI_75 (by rfl)) rfl rfl
theorem r75_25 : runs cal 75 25 [v0, v1] [vI x0, vI x1, vR 21] I = runs cal 75 26 [v0, v1] [vI (iadd x1 x0), vR 21] I := runs_to (ins_of mI_75 (by rfl)) rfl rfl
theorem r75_26 : runs cal 75 26 [v0, v1] [vI x0, vR 21] I = runs cal 75 29 [v0, v1] [] (mset I 21 3 x0) := st_putI (ins_of mI_75 (by rfl)) mC_75 fr_5_39 cT_21 (wdc wid_75 wd_21) rfl
theorem r75_29 : runs cal 75 29 [v0, v1] [] I = some (none, I) := st_ret (q := none) (k := 3) (ins_of mI_75 (by rfl)) rfl (by decide) mR_75 rfl trivial
theorem r76_0 : runs cal 76 0 [v0, vI w] [] I = runs cal 76 1 [v0, vI w] [vI w] I := runs_to (ins_of mI_76 (by rfl)) rfl rfl
theorem r76_1 : runs cal 76 1 [v0, v1] [vI x0] I = runs cal 76 3 [v0, v1] [vI (48), vI x0] I := runs_to (ins_of mI_76 (by rfl)) rfl rfl
theorem r76_3 : runs cal 76 3 [v0, v1] [vI x0, vI x1] I = if x1 < x0 then runs cal 76 16 [v0, v1] [] I else runs cal 76 6 [v0, v1] [] I := st_cmp_lt (ins_of mI_76 (by rfl)) (by decide)
theorem r76_6 : runs cal 76 6 [v0, vI w] [] I = runs cal 76 7 [v0, vI w] [vI w] I := runs_to (ins_of mI_76 (by rfl)) rfl rfl
theorem r76_7 : runs cal 76 7 [v0, v1] [vI x0] I = runs cal 76 9 [v0, v1] [vI (57), vI x0] I := runs_to (ins_of mI_76 (by rfl)) rfl rfl
theorem r76_9 : runs cal 76 9 [v0, v1] [vI x0, vI x1] I = if x0 < x1 then runs cal 76 16 [v0, v1] [] I else runs cal 76 12 [v0, v1] [] I := st_cmp_gt (ins_of mI_76 (by rfl)) (by decide)
theorem r76_12 : runs cal 76 12 [v0, v1] [] I = runs cal 76 13 [v0, v1] [vI (1)] I := runs_to (ins_of mI_76 (by rfl)) rfl rfl
theorem r76_13 : runs cal 76 13 [v0, v1] [vI x0] I = runs cal 76 17 [v0, v1] [vI x0] I := st_goto (ins_of mI_76 (by rfl)) (by decide)
theorem r76_16 : runs cal 76 16 [v0, v1] [] I = runs cal 76 17 [v0, v1] [vI (0)] I := runs_to (ins_of mI_76 (by rfl)) rfl rfl
theorem r76_17 : runs cal 76 17 [v0, v1] [vI x0] I = if x0 = 0 ∨ x0 = 1 then some (some (vI x0), I) else none := st_retZ (ins_of mI_76 (by rfl)) mR_76 (Or.inl rfl)
theorem r77_0 : runs cal 77 0 [v0, vI w] [] I = runs cal 77 1 [v0, vI w] [vI w] I := runs_to (ins_of mI_77 (by rfl)) rfl rfl
theorem r77_1 : runs cal 77 1 [v0, v1] [vI x0] I = runs cal 77 3 [v0, v1] [vI (97), vI x0] I := runs_to (ins_of mI_77 (by rfl)) rfl rfl
theorem r77_3 : runs cal 77 3 [v0, v1] [vI x0, vI x1] I = if x1 = x0 then runs cal 77 36 [v0, v1] [] I else runs cal 77 6 [v0, v1] [] I := st_cmp_eq (ins_of mI_77 (by rfl)) (by decide)
theorem r77_6 : runs cal 77 6 [v0, vI w] [] I = runs cal 77 7 [v0, vI w] [vI w] I := runs_to (ins_of mI_77 (by rfl)) rfl rfl
theorem r77_7 : runs cal 77 7 [v0, v1] [vI x0] I = runs cal 77 9 [v0, v1] [vI (110), vI x0] I := runs_to (ins_of mI_77 (by rfl)) rfl rfl
theorem r77_9 : runs cal 77 9 [v0, v1] [vI x0, vI x1] I = if x1 = x0 then runs cal 77 36 [v0, v1] [] I else runs cal 77 12 [v0, v1] [] I := st_cmp_eq (ins_of mI_77 (by rfl)) (by decide)
theorem r77_12 : runs cal 77 12 [v0, vI w] [] I = runs cal 77 13 [v0, vI w] [vI w] I := runs_to (ins_of mI_77 (by rfl)) rfl rfl
theorem r77_13 : runs cal 77 13 [v0, v1] [vI x0] I = runs cal 77 15 [v0, v1] [vI (99), vI x0] I := runs_to (ins_of mI_77 (by rfl)) rfl rfl
theorem r77_15 : runs cal 77 15 [v0, v1] [vI x0, vI x1] I = if x1 = x0 then runs cal 77 36 [v0, v1] [] I else runs cal 77 18 [v0, v1] [] I := st_cmp_eq (ins_of mI_77 (by rfl)) (by decide)
theorem r77_18 : runs cal 77 18 [v0, vI w] [] I = runs cal 77 19 [v0, vI w] [vI w] I := runs_to (ins_of mI_77 (by rfl)) rfl rfl
theorem r77_19 : runs cal 77 19 [v0, v1] [vI x0] I = runs cal 77 21 [v0, v1] [vI (98), vI x0] I := runs_to (ins_of mI_77 (by rfl)) rfl rfl
theorem r77_21 : runs cal 77 21 [v0, v1] [vI x0, vI x1] I = if x1 = x0 then runs cal 77 36 [v0, v1] [] I else runs cal 77 24 [v0, v1] [] I := st_cmp_eq (ins_of mI_77 (by rfl)) (by decide)
theorem r77_24 : runs cal 77 24 [v0, vI w] [] I = runs cal 77 25 [v0, vI w] [vI w] I := runs_to (ins_of mI_77 (by rfl)) rfl rfl
theorem r77_25 : runs cal 77 25 [v0, v1] [vI x0] I = runs cal 77 27 [v0, v1] [vI (107), vI x0] I := runs_to (ins_of mI_77 (by rfl)) rfl rfl
theorem r77_27 : runs cal 77 27 [v0, v1] [vI x0, vI x1] I = if x1 = x0 then runs cal 77 36 [v0, v1] [] I else runs cal 77 30 [v0, v1] [] I := st_cmp_eq (ins_of mI_77 (by rfl)) (by decide)
theorem r77_30 : runs cal 77 30 [v0, vI w] [] I = runs cal 77 31 [v0, vI w] [vI w] I := runs_to (ins_of mI_77 (by rfl)) rfl rfl
theorem r77_31 : runs cal 77 31 [v0, v1] [vI x0] I = runs cal 77 33 [v0, v1] [vI (116), vI x0] I := runs_to (ins_of mI_77 (by rfl)) rfl rfl
theorem r77_33 : runs cal 77 33 [v0, v1] [vI x0, vI x1] I = if x1 = x0 then runs cal 77 36 [v0, v1] [] I else runs cal 77 40 [v0, v1] [] I := st_cmp_ne (ins_of mI_77 (by rfl)) (by decide)
theorem r77_36 : runs cal 77 36 [v0, v1] [] I = runs cal 77 37 [v0, v1] [vI (1)] I := runs_to (ins_of mI_77 (by rfl)) rfl rfl
theorem r77_37 : runs cal 77 37 [v0, v1] [vI x0] I = runs cal 77 41 [v0, v1] [vI x0] I := st_goto (ins_of mI_77 (by rfl)) (by decide)
theorem r77_40 : runs cal 77 40 [v0, v1] [] I = runs cal 77 41 [v0, v1] [vI (0)] I := runs_to (ins_of mI_77 (by rfl)) rfl rfl
theorem r77_41 : runs cal 77 41 [v0, v1] [vI x0] I = if x0 = 0 ∨ x0 = 1 then some (some (vI x0), I) else none := st_retZ (ins_of mI_77 (by rfl)) mR_77 (Or.inl rfl)
theorem r78_0 : runs cal 78 0 [vR 21, v1, v2, v3, v4, v5] [] I = runs cal 78 1 [vR 21, v1, v2, v3, v4, v5] [vR 21] I := runs_to (ins_of mI_78 (by rfl)) rfl rfl
theorem r78_1 : runs cal 78 1 [v0, v1, v2, v3, v4, v5] [vR 21] I = runs cal 78 2 [v0, v1, v2, v3, v4, v5] [vI (0), vR 21] I := runs_to (ins_of mI_78 (by rfl)) rfl rfl
theorem r78_2 : runs cal 78 2 [v0, v1, v2, v3, v4, v5] [vI x0, vR 21] I = runs cal 78 5 [v0, v1, v2, v3, v4, v5] [] (mset I 21 5 x0) := st_putI (ins_of mI_78 (by rfl)) mC_78 fr_5_94 cT_21 (wdc wid_78 wd_21) rfl
theorem r78_5 : runs cal 78 5 [v0, v1, v2, v3, v4, v5] [] I = runs cal 78 6 [v0, v1, v2, v3, v4, v5] [vI (0)] I := runs_to (ins_of mI_78 (by rfl)) rfl rfl
theorem r78_6 : runs cal 78 6 [v0, vR b0, v2, v3, v4, v5] [vI x0] I = runs cal 78 7 [v0, vR b0, vI x0, v3, v4, v5] [] I := runs_to (ins_of mI_78 (by rfl)) rfl rfl
theorem r78_7 : runs cal 78 7 [v0, v1, vI w, v3, v4, v5] [] I = runs cal 78 8 [v0, v1, vI w, v3, v4, v5] [vI w] I := runs_to (ins_of mI_78 (by rfl)) rfl rfl
theorem r78_8 : runs cal 78 8 [vR 21, v1, v2, v3, v4, v5] [vI x0] I = runs cal 78 9 [vR 21, v1, v2, v3, v4, v5] [vR 21, vI x0] I := runs_to (ins_of mI_78 (by rfl)) rfl rfl
theorem r78_9 : runs cal 78 9 [v0, v1, v2, v3, v4, v5] [vR 21, vI x1] I = runs cal 78 12 [v0, v1, v2, v3, v4, v5] [vI (I 21 3), vI x1] I := st_getI (ins_of mI_78 (by rfl)) mC_78 (by decide) fr_5_39 cT_21 (wdc wid_78 wd_21) (Or.inl rfl)
theorem r78_12 : runs cal 78 12 [v0, v1, v2, v3, v4, v5] [vI x0, vI x1] I = if x1 < x0 then runs cal 78 15 [v0, v1, v2, v3, v4, v5] [] I else runs cal 78 137 [v0, v1, v2, v3, v4, v5] [] I := st_cmp_ge (ins_of mI_78 (by rfl)) (by decide)
theorem r78_15 : runs cal 78 15 [v0, v1, vI w, v3, v4, v5] [] I = runs cal 78 16 [v0, v1, vI w, v3, v4, v5] [vI w] I := runs_to (ins_of mI_78 (by rfl)) rfl rfl
theorem r78_16 : runs cal 78 16 [v0, v1, v2, v3, v4, v5] [vI x0] I = runs cal 78 18 [v0, v1, v2, v3, v4, v5] [vI (40), vI x0] I := runs_to (ins_of mI_78 (by rfl)) rfl rfl
theorem r78_18 : runs cal 78 18 [v0, v1, v2, v3, v4, v5] [vI x0, vI x1] I = if x1 < x0 then runs cal 78 21 [v0, v1, v2, v3, v4, v5] [] I else runs cal 78 137 [v0, v1, v2, v3, v4, v5] [] I := st_cmp_ge (ins_of mI_78 (by rfl)) (by decide)
theorem r78_21 : runs cal 78 21 [vR 21, v1, v2, v3, v4, v5] [] I = runs cal 78 22 [vR 21, v1, v2, v3, v4, v5] [vR 21] I := runs_to (ins_of mI_78 (by rfl)) rfl rfl
theorem r78_22 : runs cal 78 22 [v0, v1, v2, v3, v4, v5] [vR 21] I = runs cal 78 25 [v0, v1, v2, v3, v4, v5] [vR 23] I := st_getR (ins_of mI_78 (by rfl)) mC_78 (by decide) fr_5_15 cT_21 (wdc wid_78 wd_21) rfl rfl
theorem r78_25 : runs cal 78 25 [v0, v1, vI w, v3, v4, v5] [vR 23] I = runs cal 78 26 [v0, v1, vI w, v3, v4, v5] [vI w, vR 23] I := runs_to (ins_of mI_78 (by rfl)) rfl rfl
theorem r78_26 : runs cal 78 26 [v0, v1, v2, v3, v4, v5] [vI x0, vR 23] I = if 0 ≤ x0 ∧ x0 < 40 then runs cal 78 27 [v0, v1, v2, v3, v4, v5] [vI (I 23 x0)] I else none := st_iald (ins_of mI_78 (by rfl)) cT_23 (wdc wid_78 wd_23)
theorem r78_27 : runs cal 78 27 [v0, v1, vI u, v3, v4, v5] [vI x0] I = runs cal 78 28 [v0, v1, vI u, vI x0, v4, v5] [] I := runs_to (ins_of mI_78 (by rfl)) rfl rfl
theorem r78_28 : runs cal 78 28 [v0, v1, v2, vI w, v4, v5] [] I = runs cal 78 29 [v0, v1, v2, vI w, v4, v5] [vI w] I := runs_to (ins_of mI_78 (by rfl)) rfl rfl
theorem r78_29 : runs cal 78 29 [v0, v1, v2, v3, v4, v5] [vI x0] I = if x0 < 0 then runs cal 78 41 [v0, v1, v2, v3, v4, v5] [] I else runs cal 78 32 [v0, v1, v2, v3, v4, v5] [] I := st_if_lt (ins_of mI_78 (by rfl)) (by decide)
theorem r78_32 : runs cal 78 32 [vR 21, v1, v2, v3, v4, v5] [] I = runs cal 78 33 [vR 21, v1, v2, v3, v4, v5] [vR 21] I := runs_to (ins_of mI_78 (by rfl)) rfl rfl
theorem r78_33 : runs cal 78 33 [v0, v1, v2, vI w, v4, v5] [vR 21] I = runs cal 78 34 [v0, v1, v2, vI w, v4, v5] [vI w, vR 21] I := runs_to (ins_of mI_78 (by rfl)) rfl rfl
theorem r78_34 : runs cal 78 34 [v0, v1, v2, v3, v4, v5] [vI x0, vR 21] I = runs cal 78 35 [v0, v1, v2, v3, v4, v5] [vL x0, vR 21] I := runs_to (ins_of mI_78 (by rfl)) rfl rfl
theorem r78_35 : runs cal 78 35 [v0, v1, v2, v3, v4, v5] [vL x0, vR 21] I = (cal 79 [vR 21, vL x0] I).bind (fun q => runs cal 78 38 [v0, v1, v2, v3, v4, v5] (pushR q.1 []) q.2) := st_call (st := false) (ins_of mI_78 (by rfl)) mC_78 mr_5_97 (by decide) mS_79 mN_79 rfl (Nat.le_of_ble_eq_true rfl) rfl rfl (Or.inr ⟨_, _, rfl, rcv mC_79 rfl wid_78 (by decide +kernel)⟩) (Or.inl (wid_78.trans wid_79.symm))
theorem r78_38 : runs cal 78 38 [v0, v1, v2, v3, v4, v5] [] I = runs cal 78 131 [v0, v1, v2, v3, v4, v5] [] I := st_goto (ins_of mI_78 (by rfl)) (by decide)
theorem r78_41 : runs cal 78 41 [vR 21, v1, v2, v3, v4, v5] [] I = runs cal 78 42 [vR 21, v1, v2, v3, v4, v5] [vR 21] I := runs_to (ins_of mI_78 (by rfl)) rfl rfl
theorem r78_42 : runs cal 78 42 [v0, v1, v2, vI w, v4, v5] [vR 21] I = runs cal 78 43 [v0, v1, v2, vI w, v4, v5] [vI w, vR 21] I := runs_to (ins_of mI_78 (by rfl)) rfl rfl
theorem r78_43 : runs cal 78 43 [v0, v1, v2, v3, v4, v5] [vI x0, vR 21] I = runs cal 78 44 [v0, v1, v2, v3, v4, v5] [vI (ineg x0), vR 21] I := runs_to (ins_of mI_78 (by rfl)) rfl rfl
theorem r78_44 : runs cal 78 44 [v0, v1, v2, v3, v4, v5] [vI x0, vR 21] I = (cal 77 [vR 21, vI x0] I).bind (fun q => runs cal 78 47 [v0, v1, v2, v3, v4, v5] (pushR q.1 []) q.2) := st_call (st := false) (ins_of mI_78 (by rfl)) mC_78 mr_5_91 (by decide) mS_77 mN_77 rfl (Nat.le_of_ble_eq_true rfl) rfl rfl (Or.inr ⟨_, _, rfl, rcv mC_77 rfl wid_78 (by decide +kernel)⟩) (Or.inl (wid_78.trans wid_77.symm))
theorem r78_47 : runs cal 78 47 [v0, v1, v2, v3, v4, v5] [vI x0] I = if x0 = 0 then runs cal 78 64 [v0, v1, v2, v3, v4, v5] [] I else runs cal 78 50 [v0, v1, v2, v3, v4, v5] [] I := st_if_eq (ins_of mI_78 (by rfl)) (by decide)
theorem r78_50 : runs cal 78 50 [vR 21, v1, v2, v3, v4, v5] [] I = runs cal 78 51 [vR 21, v1, v2, v3, v4, v5] [vR 21] I := runs_to (ins_of mI_78 (by rfl)) rfl rfl
theorem r78_51 : runs cal 78 51 [v0, vR 35, v2, v3, v4, v5] [vR 21] I = runs cal 78 52 [v0, vR 35, v2, v3, v4, v5] [vR 35, vR 21] I := runs_to (ins_of mI_78 (by rfl)) rfl rfl
theorem r78_52 : runs cal 78 52 [v0, v1, v2, vI w, v4, v5] [vR 35, vR 21] I = runs cal 78 53 [v0, v1, v2, vI w, v4, v5] [vI w, vR 35, vR 21] I := runs_to (ins_of mI_78 (by rfl)) rfl rfl
theorem r78_53 : runs cal 78 53 [v0, v1, v2, v3, v4, v5] [vI x0, vR 35, vR 21] I = runs cal 78 54 [v0, v1, v2, v3, v4, v5] [vI (ineg x0), vR 35, vR 21] I := runs_to (ins_of mI_78 (by rfl)) rfl rfl
theorem r78_54 : runs cal 78 54 [v0, v1, v2, v3, v4, v5] [vI x0, vR 35, vR 21] I = (cal 95 [vR 35, vI x0] I).bind (fun q => runs cal 78 57 [v0, v1, v2, v3, v4, v5] (pushR q.1 [vR 21]) q.2) := st_call (st := false) (ins_of mI_78 (by rfl)) mC_78 mr_5_101 (by decide) mS_95 mN_95 rfl (Nat.le_of_ble_eq_true rfl) rfl rfl (Or.inr ⟨_, _, rfl, rcv mC_95 rfl wid_78 (by decide +kernel)⟩) (Or.inl (wid_78.trans wid_95.symm))
theorem r78_57 : runs cal 78 57 [v0, v1, v2, v3, v4, v5] [vI x0, vR 21] I = runs cal 78 58 [v0, v1, v2, v3, v4, v5] [vL x0, vR 21] I := runs_to (ins_of mI_78 (by rfl)) rfl rfl
theorem r78_58 : runs cal 78 58 [v0, v1, v2, v3, v4, v5] [vL x0, vR 21] I = (cal 79 [vR 21, vL x0] I).bind (fun q => runs cal 78 61 [v0, v1, v2, v3, v4, v5] (pushR q.1 []) q.2) := st_call (st := false) (ins_of mI_78 (by rfl)) mC_78 mr_5_97 (by decide) mS_79 mN_79 rfl (Nat.le_of_ble_eq_true rfl) rfl rfl (Or.inr ⟨_, _, rfl, rcv mC_79 rfl wid_78 (by decide +kernel)⟩) (Or.inl (wid_78.trans wid_79.symm))
theorem r78_61 : runs cal 78 61 [v0, v1, v2, v3, v4, v5] [] I = runs cal 78 131 [v0, v1, v2, v3, v4, v5] [] I := st_goto (ins_of mI_78 (by rfl)) (by decide)
theorem r78_64 : runs cal 78 64 [v0, v1, v2, vI w, v4, v5] [] I = runs cal 78 65 [v0, v1, v2, vI w, v4, v5] [vI w] I := runs_to (ins_of mI_78 (by rfl)) rfl rfl
theorem r78_65 : runs cal 78 65 [v0, v1, v2, v3, v4, v5] [vI x0] I = runs cal 78 67 [v0, v1, v2, v3, v4, v5] [vI (-33), vI x0] I := runs_to (ins_of mI_78 (by rfl)) rfl rfl
theorem r78_67 : runs cal 78 67 [v0, v1, v2, v3, v4, v5] [vI x0, vI x1] I = if x1 = x0 then runs cal 78 70 [v0, v1, v2, v3, v4, v5] [] I else runs cal 78 91 [v0, v1, v2, v3, v4, v5] [] I := st_cmp_ne (ins_of mI_78 (by rfl)) (by decide)
theorem r78_70 : runs cal 78 70 [vR 21, v1, v2, v3, v4, v5] [] I = runs cal 78 71 [vR 21, v1, v2, v3, v4, v5] [vR 21] I := runs_to (ins_of mI_78 (by rfl)) rfl rfl
theorem r78_71 : runs cal 78 71 [vR 21, v1, v2, v3, v4, v5] [vR 21] I = runs cal 78 72 [vR 21, v1, v2, v3, v4, v5] [vR 21, vR 21] I := runs_to (ins_of mI_78 (by rfl)) rfl rfl
theorem r78_72 : runs cal 78 72 [v0, v1, v2, v3, v4, v5] [vR 21, vR 21] I = (cal 80 [vR 21] I).bind (fun q => runs cal 78 75 [v0, v1, v2, v3, v4, v5] (pushR q.1 [vR 21]) q.2) := st_call (st := false) (ins_of mI_78 (by rfl)) mC_78 mr_5_106 (by decide) mS_80 mN_80 rfl (Nat.le_of_ble_eq_true rfl) rfl rfl (Or.inr ⟨_, _, rfl, rcv mC_80 rfl wid_78 (by decide +kernel)⟩) (Or.inl (wid_78.trans wid_80.symm))
theorem r78_75 : runs cal 78 75 [v0, v1, v2, v3, v4, v5] [vL x0, vR 21] I = runs cal 78 76 [v0, v1, v2, v3, v4, v5] [vL 0, vL x0, vR 21] I := runs_to (ins_of mI_78 (by rfl)) rfl rfl
theorem r78_76 : runs cal 78 76 [v0, v1, v2, v3, v4, v5] [vL x0, vL x1, vR 21] I = if x1 = x0 then runs cal 78 80 [v0, v1, v2, v3, v4, v5] [vR 21] I else runs cal 78 84 [v0, v1, v2, v3, v4, v5] [vR 21] I := st_lc_ne (ins_of mI_78 (by rfl)) (ins_of mI_78 (by rfl)) (by decide)
theorem r78_77 : runs cal 78 77 [v0, v1, v2, v3, v4, v5] [vI x0, vR 21] I = if x0 = 0 then runs cal 78 80 [v0, v1, v2, v3, v4, v5] [vR 21] I else runs cal 78 84 [v0, v1, v2, v3, v4, v5] [vR 21] I := st_if_ne (ins_of mI_78 (by rfl)) (by decide)
theorem r78_80 : runs cal 78 80 [v0, v1, v2, v3, v4, v5] [vR 21] I = runs cal 78 81 [v0, v1, v2, v3, v4, v5] [vL 1, vR 21] I := runs_to (ins_of mI_78 (by rfl)) rfl rfl
theorem r78_81 : runs cal 78 81 [v0, v1, v2, v3, v4, v5] [vL x0, vR 21] I = runs cal 78 85 [v0, v1, v2, v3, v4, v5] [vL x0, vR 21] I := st_goto (ins_of mI_78 (by rfl)) (by decide)
theorem r78_84 : runs cal 78 84 [v0, v1, v2, v3, v4, v5] [vR 21] I = runs cal 78 85 [v0, v1, v2, v3, v4, v5] [vL 0, vR 21] I := runs_to (ins_of mI_78 (by rfl)) rfl rfl
theorem r78_85 : runs cal 78 85 [v0, v1, v2, v3, v4, v5] [vL x0, vR 21] I = (cal 79 [vR 21, vL x0] I).bind (fun q => runs cal 78 88 [v0, v1, v2, v3, v4, v5] (pushR q.1 []) q.2) := st_call (st := false) (ins_of mI_78 (by rfl)) mC_78 mr_5_97 (by decide) mS_79 mN_79 rfl (Nat.le_of_ble_eq_true rfl) rfl rfl (Or.inr ⟨_, _, rfl, rcv mC_79 rfl wid_78 (by decide +kernel)⟩) (Or.inl (wid_78.trans wid_79.symm))
theorem r78_88 : runs cal 78 88 [v0, v1, v2, v3, v4, v5] [] I = runs cal 78 131 [v0, v1, v2, v3, v4, v5] [] I := st_goto (ins_of mI_78 (by rfl)) (by decide)
theorem r78_91 : runs cal 78 91 [v0, v1, v2, vI w, v4, v5] [] I = runs cal 78 92 [v0, v1, v2, vI w, v4, v5] [vI w] I := runs_to (ins_of mI_78 (by rfl)) rfl rfl
theorem r78_92 : runs cal 78 92 [v0, v1, v2, v3, v4, v5] [vI x0] I = runs cal 78 94 [v0, v1, v2, v3, v4, v5] [vI (-126), vI x0] I := runs_to (ins_of mI_78 (by rfl)) rfl rfl
theorem r78_94 : runs cal 78 94 [v0, v1, v2, v3, v4, v5] [vI x0, vI x1] I = if x1 = x0 then runs cal 78 97 [v0, v1, v2, v3, v4, v5] [] I else runs cal 78 109 [v0, v1, v2, v3, v4, v5] [] I := st_cmp_ne (ins_of mI_78 (by rfl)) (by decide)
theorem r78_97 : runs cal 78 97 [vR 21, v1, v2, v3, v4, v5] [] I = runs cal 78 98 [vR 21, v1, v2, v3, v4, v5] [vR 21] I := runs_to (ins_of mI_78 (by rfl)) rfl rfl
theorem r78_98 : runs cal 78 98 [vR 21, v1, v2, v3, v4, v5] [vR 21] I = runs cal 78 99 [vR 21, v1, v2, v3, v4, v5] [vR 21, vR 21] I := runs_to (ins_of mI_78 (by rfl)) rfl rfl
theorem r78_99 : runs cal 78 99 [v0, v1, v2, v3, v4, v5] [vR 21, vR 21] I = (cal 80 [vR 21] I).bind (fun q => runs cal 78 102 [v0, v1, v2, v3, v4, v5] (pushR q.1 [vR 21]) q.2) := st_call (st := false) (ins_of mI_78 (by rfl)) mC_78 mr_5_106 (by decide) mS_80 mN_80 rfl (Nat.le_of_ble_eq_true rfl) rfl rfl (Or.inr ⟨_, _, rfl, rcv mC_80 rfl wid_78 (by decide +kernel)⟩) (Or.inl (wid_78.trans wid_80.symm))
theorem r78_102 : runs cal 78 102 [v0, v1, v2, v3, v4, v5] [vL x0, vR 21] I = runs cal 78 103 [v0, v1, v2, v3, v4, v5] [vL (lneg x0), vR 21] I := runs_to (ins_of mI_78 (by rfl)) rfl rfl
theorem r78_103 : runs cal 78 103 [v0, v1, v2, v3, v4, v5] [vL x0, vR 21] I = (cal 79 [vR 21, vL x0] I).bind (fun q => runs cal 78 106 [v0, v1, v2, v3, v4, v5] (pushR q.1 []) q.2) := st_call (st := false) (ins_of mI_78 (by rfl)) mC_78 mr_5_97 (by decide) mS_79 mN_79 rfl (Nat.le_of_ble_eq_true rfl) rfl rfl (Or.inr ⟨_, _, rfl, rcv mC_79 rfl wid_78 (by decide +kernel)⟩) (Or.inl (wid_78.trans wid_79.symm))
theorem r78_106 : runs cal 78 106 [v0, v1, v2, v3, v4, v5] [] I = runs cal 78 131 [v0, v1, v2, v3, v4, v5] [] I := st_goto (ins_of mI_78 (by rfl)) (by decide)
theorem r78_109 : runs cal 78 109 [vR 21, v1, v2, v3, v4, v5] [] I = runs cal 78 110 [vR 21, v1, v2, v3, v4, v5] [vR 21] I := runs_to (ins_of mI_78 (by rfl)) rfl rfl
theorem r78_110 : runs cal 78 110 [v0, v1, v2, v3, v4, v5] [vR 21] I = (cal 80 [vR 21] I).bind (fun q => runs cal 78 113 [v0, v1, v2, v3, v4, v5] (pushR q.1 []) q.2) := st_call (st := false) (ins_of mI_78 (by rfl)) mC_78 mr_5_106 (by decide) mS_80 mN_80 rfl (Nat.le_of_ble_eq_true rfl) rfl rfl (Or.inr ⟨_, _, rfl, rcv mC_80 rfl wid_78 (by decide +kernel)⟩) (Or.inl (wid_78.trans wid_80.symm))
theorem r78_113 : runs cal 78 113 [v0, v1, v2, vI u, v4, v5] [vL x0] I = runs cal 78 115 [v0, v1, v2, vI u, vL x0, vR 0] [] I := runs_to (ins_of mI_78 (by rfl)) rfl rfl
theorem r78_115 : runs cal 78 115 [vR 21, v1, v2, v3, v4, v5] [] I = runs cal 78 116 [vR 21, v1, v2, v3, v4, v5] [vR 21] I := runs_to (ins_of mI_78 (by rfl)) rfl rfl
theorem r78_116 : runs cal 78 116 [vR 21, v1, v2, v3, v4, v5] [vR 21] I = runs cal 78 117 [vR 21, v1, v2, v3, v4, v5] [vR 21, vR 21] I := runs_to (ins_of mI_78 (by rfl)) rfl rfl
theorem r78_117 : runs cal 78 117 [v0, v1, v2, vI w, v4, v5] [vR 21, vR 21] I = runs cal 78 118 [v0, v1, v2, vI w, v4, v5] [vI w, vR 21, vR 21] I := runs_to (ins_of mI_78 (by rfl)) rfl rfl
theorem r78_118 : runs cal 78 118 [v0, v1, v2, v3, v4, v5] [vI x0, vR 21, vR 21] I = runs cal 78 119 [v0, v1, v2, v3, v4, v5] [vI (ineg x0), vR 21, vR 21] I := runs_to (ins_of mI_78 (by rfl)) rfl rfl
theorem r78_119 : runs cal 78 119 [vR 21, v1, v2, v3, v4, v5] [vI x0, vR 21, vR 21] I = runs cal 78 120 [vR 21, v1, v2, v3, v4, v5] [vR 21, vI x0, vR 21, vR 21] I := runs_to (ins_of mI_78 (by rfl)) rfl rfl
theorem r78_120 : runs cal 78 120 [v0, v1, v2, v3, v4, v5] [vR 21, vI x1, vR 21, vR 21] I = (cal 80 [vR 21] I).bind (fun q => runs cal 78 123 [v0, v1, v2, v3, v4, v5] (pushR q.1 [vI x1, vR 21, vR 21]) q.2) := st_call (st := false) (ins_of mI_78 (by rfl)) mC_78 mr_5_106 (by decide) mS_80 mN_80 rfl (Nat.le_of_ble_eq_true rfl) rfl rfl (Or.inr ⟨_, _, rfl, rcv mC_80 rfl wid_78 (by decide +kernel)⟩) (Or.inl (wid_78.trans wid_80.symm))
theorem r78_123 : runs cal 78 123 [v0, v1, v2, v3, vL w, v5] [vL x0, vI x1, vR 21, vR 21] I = runs cal 78 125 [v0, v1, v2, v3, vL w, v5] [vL w, vL x0, vI x1, vR 21, vR 21] I := runs_to (ins_of mI_78 (by rfl)) rfl rfl
theorem r78_125 : runs cal 78 125 [v0, v1, v2, v3, v4, v5] [vL x0, vL x1, vI x2, vR 21, vR 21] I = (cal 81 [vR 21, vI x2, vL x1, vL x0] I).bind (fun q => runs cal 78 128 [v0, v1, v2, v3, v4, v5] (pushR q.1 [vR 21]) q.2) := st_call (st := false) (ins_of mI_78 (by rfl)) mC_78 mr_5_110 (by decide) mS_81 mN_81 rfl (Nat.le_of_ble_eq_true rfl) rfl rfl (Or.inr ⟨_, _, rfl, rcv mC_81 rfl wid_78 (by decide +kernel)⟩) (Or.inl (wid_78.trans wid_81.symm))
theorem r78_128 : runs cal 78 128 [v0, v1, v2, v3, v4, v5] [vL x0, vR 21] I = (cal 79 [vR 21, vL x0] I).bind (fun q => runs cal 78 131 [v0, v1, v2, v3, v4, v5] (pushR q.1 []) q.2) := st_call (st := false) (ins_of mI_78 (by rfl)) mC_78 mr_5_97 (by decide) mS_79 mN_79 rfl (Nat.le_of_ble_eq_true rfl) rfl rfl (Or.inr ⟨_, _, rfl, rcv mC_79 rfl wid_78 (by decide +kernel)⟩) (Or.inl (wid_78.trans wid_79.symm))
theorem r78_131 : runs cal 78 131 [v0, vR b0, vI w, v3, v4, v5] [] I = runs cal 78 134 [v0, vR b0, vI (iadd w (1)), v3, v4, v5] [] I := runs_to (ins_of mI_78 (by rfl)) rfl rfl
theorem r78_134 : runs cal 78 134 [v0, v1, v2, v3, v4, v5] [] I = runs cal 78 7 [v0, v1, v2, v3, v4, v5] [] I := st_goto (ins_of mI_78 (by rfl)) (by decide)
theorem r78_137 : runs cal 78 137 [vR 21, v1, v2, v3, v4, v5] [] I = runs cal 78 138 [vR 21, v1, v2, v3, v4, v5] [vR 21] I := runs_to (ins_of mI_78 (by rfl)) rfl rfl
theorem r78_138 : runs cal 78 138 [v0, v1, v2, v3, v4, v5] [vR 21] I = (cal 80 [vR 21] I).bind (fun q => runs cal 78 141 [v0, v1, v2, v3, v4, v5] (pushR q.1 []) q.2) := st_call (st := false) (ins_of mI_78 (by rfl)) mC_78 mr_5_106 (by decide) mS_80 mN_80 rfl (Nat.le_of_ble_eq_true rfl) rfl rfl (Or.inr ⟨_, _, rfl, rcv mC_80 rfl wid_78 (by decide +kernel)⟩) (Or.inl (wid_78.trans wid_80.symm))
theorem r78_141 : runs cal 78 141 [v0, v1, v2, v3, v4, v5] [vL x0] I = some (some (vL x0), I) := st_ret (q := some (vL x0)) (k := 1) (ins_of mI_78 (by rfl)) rfl (by decide) mR_78 rfl trivial
theorem r79_0 : runs cal 79 0 [vR 21, v1, v2] [] I = runs cal 79 1 [vR 21, v1, v2] [vR 21] I := runs_to (ins_of mI_79 (by rfl)) rfl rfl
theorem r79_1 : runs cal 79 1 [v0, v1, v2] [vR 21] I = runs cal 79 4 [v0, v1, v2] [vI (I 21 5)] I := st_getI (ins_of mI_79 (by rfl)) mC_79 (by decide) fr_5_94 cT_21 (wdc wid_79 wd_21) (Or.inl rfl)
theorem r79_4 : runs cal 79 4 [v0, v1, v2] [vI x0] I = runs cal 79 6 [v0, v1, v2] [vI (40), vI x0] I := runs_to (ins_of mI_79 (by rfl)) rfl rfl
theorem r79_6 : runs cal 79 6 [v0, v1, v2] [vI x0, vI x1] I = if x1 < x0 then runs cal 79 9 [v0, v1, v2] [] I else runs cal 79 29 [v0, v1, v2] [] I := st_cmp_ge (ins_of mI_79 (by rfl)) (by decide)
theorem r79_9 : runs cal 79 9 [vR 21, v1, v2] [] I = runs cal 79 10 [vR 21, v1, v2] [vR 21] I := runs_to (ins_of mI_79 (by rfl)) rfl rfl
theorem r79_10 : runs cal 79 10 [v0, v1, v2] [vR 21] I = runs cal 79 13 [v0, v1, v2] [vR 24] I := st_getR (ins_of mI_79 (by rfl)) mC_79 (by decide) fr_5_18 cT_21 (wdc wid_79 wd_21) rfl rfl
theorem r79_13 : runs cal 79 13 [vR 21, v1, v2] [vR 24] I = runs cal 79 14 [vR 21, v1, v2] [vR 21, vR 24] I := runs_to (ins_of mI_79 (by rfl)) rfl rfl
theorem r79_14 : runs cal 79 14 [v0, v1, v2] [vR 21, vR 24] I = runs cal 79 17 [v0, v1, v2] [vI (I 21 5), vR 24] I := st_getI (ins_of mI_79 (by rfl)) mC_79 (by decide) fr_5_94 cT_21 (wdc wid_79 wd_21) (Or.inl rfl)
theorem r79_17 : runs cal 79 17 [v0, vL w, v2] [vI x0, vR 24] I = runs cal 79 18 [v0, vL w, v2] [vL w, vI x0, vR 24] I := runs_to (ins_of mI_79 (by rfl)) rfl rfl
theorem r79_18 : runs cal 79 18 [v0, v1, v2] [vL x0, vI x1, vR 24] I = if 0 ≤ x1 ∧ x1 < 40 then runs cal 79 19 [v0, v1, v2] [] (mset I 24 x1 x0) else none := st_last (ins_of mI_79 (by rfl)) cT_24 (wdc wid_79 wd_24)
theorem r79_19 : runs cal 79 19 [vR 21, v1, v2] [] I = runs cal 79 20 [vR 21, v1, v2] [vR 21] I := runs_to (ins_of mI_79 (by rfl)) rfl rfl
theorem r79_20 : runs cal 79 20 [v0, v1, v2] [vR 21] I = runs cal 79 21 [v0, v1, v2] [vR 21, vR 21] I := runs_to (ins_of mI_79 (by rfl)) rfl rfl
theorem r79_21 : runs cal 79 21 [v0, v1, v2] [vR 21, vR 21] I = runs cal 79 24 [v0, v1, v2] [vI (I 21 5), vR 21] I := st_getI (ins_of mI_79 (by rfl)) mC_79 (by decide) fr_5_94 cT_21 (wdc wid_79 wd_21) (Or.inl rfl)
theorem r79_24 : runs cal 79 24 [v0, v1, v2] [vI x0, vR 21] I = runs cal 79 25 [v0, v1, v2] [vI (1), vI x0, vR 21] I := runs_to (ins_of mI_79 (by rfl)) rfl rfl
theorem r79_25 : runs cal 79 25 [v0, v1, v2] [vI x0, vI x1, vR 21] I = runs cal 79 26 [v0, v1, v2] [vI (iadd x1 x0), vR 21] I := runs_to (ins_of mI_79 (by rfl)) rfl rfl
theorem r79_26 : runs cal 79 26 [v0, v1, v2] [vI x0, vR 21] I = runs cal 79 29 [v0, v1, v2] [] (mset I 21 5 x0) := st_putI (ins_of mI_79 (by rfl)) mC_79 fr_5_94 cT_21 (wdc wid_79 wd_21) rfl
theorem r79_29 : runs cal 79 29 [v0, v1, v2] [] I = some (none, I) := st_ret (q := none) (k := 3) (ins_of mI_79 (by rfl)) rfl (by decide) mR_79 rfl trivial
theorem r80_0 : runs cal 80 0 [vR 21] [] I = runs cal 80 1 [vR 21] [vR 21] I := runs_to (ins_of mI_80 (by rfl)) rfl rfl
theorem r80_1 : runs cal 80 1 [v0] [vR 21] I = runs cal 80 4 [v0] [vI (I 21 5)] I := st_getI (ins_of mI_80 (by rfl)) mC_80 (by decide) fr_5_94 cT_21 (wdc wid_80 wd_21) (Or.inl rfl)
theorem r80_4 : runs cal 80 4 [v0] [vI x0] I = runs cal 80 5 [v0] [vI (1), vI x0] I := runs_to (ins_of mI_80 (by rfl)) rfl rfl
theorem r80_5 : runs cal 80 5 [v0] [vI x0, vI x1] I = if x1 < x0 then runs cal 80 17 [v0] [] I else runs cal 80 8 [v0] [] I := st_cmp_lt (ins_of mI_80 (by rfl)) (by decide)
theorem r80_8 : runs cal 80 8 [vR 21] [] I = runs cal 80 9 [vR 21] [vR 21] I := runs_to (ins_of mI_80 (by rfl)) rfl rfl
theorem r80_9 : runs cal 80 9 [v0] [vR 21] I = runs cal 80 12 [v0] [vI (I 21 5)] I := st_getI (ins_of mI_80 (by rfl)) mC_80 (by decide) fr_5_94 cT_21 (wdc wid_80 wd_21) (Or.inl rfl)
theorem r80_12 : runs cal 80 12 [v0] [vI x0] I = runs cal 80 14 [v0] [vI (40), vI x0] I := runs_to (ins_of mI_80 (by rfl)) rfl rfl
theorem r80_14 : runs cal 80 14 [v0] [vI x0, vI x1] I = if x0 < x1 then runs cal 80 17 [v0] [] I else runs cal 80 19 [v0] [] I := st_cmp_le (ins_of mI_80 (by rfl)) (by decide)
theorem r80_17 : runs cal 80 17 [v0] [] I = runs cal 80 18 [v0] [vL 0] I := runs_to (ins_of mI_80 (by rfl)) rfl rfl
theorem r80_18 : runs cal 80 18 [v0] [vL x0] I = some (some (vL x0), I) := st_ret (q := some (vL x0)) (k := 1) (ins_of mI_80 (by rfl)) rfl (by decide) mR_80 rfl trivial
theorem r80_19 : runs cal 80 19 [vR 21] [] I = runs cal 80 20 [vR 21] [vR 21] I := runs_to (ins_of mI_80 (by rfl)) rfl rfl
theorem r80_20 : runs cal 80 20 [v0] [vR 21] I = runs cal 80 21 [v0] [vR 21, vR 21] I := runs_to (ins_of mI_80 (by rfl)) rfl rfl
theorem r80_21 : runs cal 80 21 [v0] [vR 21, vR 21] I = runs cal 80 24 [v0] [vI (I 21 5), vR 21] I := st_getI (ins_of mI_80 (by rfl)) mC_80 (by decide) fr_5_94 cT_21 (wdc wid_80 wd_21) (Or.inl rfl)
theorem r80_24 : runs cal 80 24 [v0] [vI x0, vR 21] I = runs cal 80 25 [v0] [vI (1), vI x0, vR 21] I := runs_to (ins_of mI_80 (by rfl)) rfl rfl
theorem r80_25 : runs cal 80 25 [v0] [vI x0, vI x1, vR 21] I = runs cal 80 26 [v0] [vI (isub x1 x0), vR 21] I := runs_to (ins_of mI_80 (by rfl)) rfl rfl
theorem r80_26 : runs cal 80 26 [v0] [vI x0, vR 21] I = runs cal 80 29 [v0] [] (mset I 21 5 x0) := st_putI (ins_of mI_80 (by rfl)) mC_80 fr_5_94 cT_21 (wdc wid_80 wd_21) rfl
theorem r80_29 : runs cal 80 29 [vR 21] [] I = runs cal 80 30 [vR 21] [vR 21] I := runs_to (ins_of mI_80 (by rfl)) rfl rfl
theorem r80_30 : runs cal 80 30 [v0] [vR 21] I = runs cal 80 33 [v0] [vR 24] I := st_getR (ins_of mI_80 (by rfl)) mC_80 (by decide) fr_5_18 cT_21 (wdc wid_80 wd_21) rfl rfl
theorem r80_33 : runs cal 80 33 [vR 21] [vR 24] I = runs cal 80 34 [vR 21] [vR 21, vR 24] I := runs_to (ins_of mI_80 (by rfl)) rfl rfl
theorem r80_34 : runs cal 80 34 [v0] [vR 21, vR 24] I = runs cal 80 37 [v0] [vI (I 21 5), vR 24] I := st_getI (ins_of mI_80 (by rfl)) mC_80 (by decide) fr_5_94 cT_21 (wdc wid_80 wd_21) (Or.inl rfl)
theorem r80_37 : runs cal 80 37 [v0] [vI x0, vR 24] I = if 0 ≤ x0 ∧ x0 < 40 then runs cal 80 38 [v0] [vL (I 24 x0)] I else none := st_lald (ins_of mI_80 (by rfl)) cT_24 (wdc wid_80 wd_24)
theorem r80_38 : runs cal 80 38 [v0] [vL x0] I = some (some (vL x0), I) := st_ret (q := some (vL x0)) (k := 1) (ins_of mI_80 (by rfl)) rfl (by decide) mR_80 rfl trivial
theorem r81_0 : runs cal 81 0 [v0, vI w, v2, v3, v4, v5] [] I = runs cal 81 1 [v0, vI w, v2, v3, v4, v5] [vI w] I := runs_to (ins_of mI_81 (by rfl)) rfl rfl
theorem r81_1 : runs cal 81 1 [v0, v1, v2, v3, v4, v5] [vI (38)] I = runs cal 81 95 [v0, v1, v2, v3, v4, v5] [] I := st_sw (off := 94) (ins_of mI_81 (by rfl)) rfl rfl (by decide)
theorem r81_1a : runs cal 81 1 [v0, v1, v2, v3, v4, v5] [vI (42)] I = runs cal 81 163 [v0, v1, v2, v3, v4, v5] [] I := st_sw (off := 162) (ins_of mI_81 (by rfl)) rfl rfl (by decide)
theorem r81_1b : runs cal 81 1 [v0, v1, v2, v3, v4, v5] [vI (43)] I = runs cal 81 153 [v0, v1, v2, v3, v4, v5] [] I := st_sw (off := 152) (ins_of mI_81 (by rfl)) rfl rfl (by decide)
theorem r81_1c : runs cal 81 1 [v0, v1, v2, v3, v4, v5] [vI (45)] I = runs cal 81 158 [v0, v1, v2, v3, v4, v5] [] I := st_sw (off := 157) (ins_of mI_81 (by rfl)) rfl rfl (by decide)
theorem r81_1d : runs cal 81 1 [v0, v1, v2, v3, v4, v5] [vI (60)] I = runs cal 81 114 [v0, v1, v2, v3, v4, v5] [] I := st_sw (off := 113) (ins_of mI_81 (by rfl)) rfl rfl (by decide)
theorem r81_1e : runs cal 81 1 [v0, v1, v2, v3, v4, v5] [vI (61)] I = runs cal 81 140 [v0, v1, v2, v3, v4, v5] [] I := st_sw (off := 139) (ins_of mI_81 (by rfl)) rfl rfl (by decide)
theorem r81_1f : runs cal 81 1 [v0, v1, v2, v3, v4, v5] [vI (62)] I = runs cal 81 127 [v0, v1, v2, v3, v4, v5] [] I := st_sw (off := 126) (ins_of mI_81 (by rfl)) rfl rfl (by decide)
theorem r81_1g : runs cal 81 1 [v0, v1, v2, v3, v4, v5] [vI (124)] I = runs cal 81 76 [v0, v1, v2, v3, v4, v5] [] I := st_sw (off := 75) (ins_of mI_81 (by rfl)) rfl rfl (by decide)
theorem r81_1h (hd : ¬ x0 = 38 ∧ ¬ x0 = 42 ∧ ¬ x0 = 43 ∧ ¬ x0 = 45 ∧ ¬ x0 = 60 ∧ ¬ x0 = 61 ∧ ¬ x0 = 62 ∧ ¬ x0 = 124) : runs cal 81 1 [v0, v1, v2, v3, v4, v5] [vI x0] I = runs cal 81 168 [v0, v1, v2, v3, v4, v5] [] I := st_lswD (ins_of mI_81 (by rfl)) (by decide) (by simp; omega) (by decide)
theorem r81_76 : runs cal 81 76 [v0, v1, vL w, v3, v4, v5] [] I = runs cal 81 77 [v0, v1, vL w, v3, v4, v5] [vL w] I := runs_to (ins_of mI_81 (by rfl)) rfl rfl
theorem r81_77 : runs cal 81 77 [v0, v1, v2, v3, v4, v5] [vL x0] I = runs cal 81 78 [v0, v1, v2, v3, v4, v5] [vL 0, vL x0] I := runs_to (ins_of mI_81 (by rfl)) rfl rfl
theorem r81_78 : runs cal 81 78 [v0, v1, v2, v3, v4, v5] [vL x0, vL x1] I = if x1 = x0 then runs cal 81 82 [v0, v1, v2, v3, v4, v5] [] I else runs cal 81 89 [v0, v1, v2, v3, v4, v5] [] I := st_lc_ne (ins_of mI_81 (by rfl)) (ins_of mI_81 (by rfl)) (by decide)
theorem r81_79 : runs cal 81 79 [v0, v1, v2, v3, v4, v5] [vI x0] I = if x0 = 0 then runs cal 81 82 [v0, v1, v2, v3, v4, v5] [] I else runs cal 81 89 [v0, v1, v2, v3, v4, v5] [] I := st_if_ne (ins_of mI_81 (by rfl)) (by decide)
theorem r81_82 : runs cal 81 82 [v0, v1, v2, v3, vL w, v5] [] I = runs cal 81 84 [v0, v1, v2, v3, vL w, v5] [vL w] I := runs_to (ins_of mI_81 (by rfl)) rfl rfl
theorem r81_84 : runs cal 81 84 [v0, v1, v2, v3, v4, v5] [vL x0] I = runs cal 81 85 [v0, v1, v2, v3, v4, v5] [vL 0, vL x0] I := runs_to (ins_of mI_81 (by rfl)) rfl rfl
theorem r81_85 : runs cal 81 85 [v0, v1, v2, v3, v4, v5] [vL x0, vL x1] I = if x1 = x0 then runs cal 81 93 [v0, v1, v2, v3, v4, v5] [] I else runs cal 81 89 [v0, v1, v2, v3, v4, v5] [] I := st_lc_eq (ins_of mI_81 (by rfl)) (ins_of mI_81 (by rfl)) (by decide)
theorem r81_86 : runs cal 81 86 [v0, v1, v2, v3, v4, v5] [vI x0] I = if x0 = 0 then runs cal 81 93 [v0, v1, v2, v3, v4, v5] [] I else runs cal 81 89 [v0, v1, v2, v3, v4, v5] [] I := st_if_eq (ins_of mI_81 (by rfl)) (by decide)
theorem r81_89 : runs cal 81 89 [v0, v1, v2, v3, v4, v5] [] I = runs cal 81 90 [v0, v1, v2, v3, v4, v5] [vL 1] I := runs_to (ins_of mI_81 (by rfl)) rfl rfl
theorem r81_90 : runs cal 81 90 [v0, v1, v2, v3, v4, v5] [vL x0] I = runs cal 81 94 [v0, v1, v2, v3, v4, v5] [vL x0] I := st_goto (ins_of mI_81 (by rfl)) (by decide)
theorem r81_93 : runs cal 81 93 [v0, v1, v2, v3, v4, v5] [] I = runs cal 81 94 [v0, v1, v2, v3, v4, v5] [vL 0] I := runs_to (ins_of mI_81 (by rfl)) rfl rfl
theorem r81_94 : runs cal 81 94 [v0, v1, v2, v3, v4, v5] [vL x0] I = some (some (vL x0), I) := st_ret (q := some (vL x0)) (k := 1) (ins_of mI_81 (by rfl)) rfl (by decide) mR_81 rfl trivial
theorem r81_95 : runs cal 81 95 [v0, v1, vL w, v3, v4, v5] [] I = runs cal 81 96 [v0, v1, vL w, v3, v4, v5] [vL w] I := runs_to (ins_of mI_81 (by rfl)) rfl rfl
theorem r81_96 : runs cal 81 96 [v0, v1, v2, v3, v4, v5] [vL x0] I = runs cal 81 97 [v0, v1, v2, v3, v4, v5] [vL 0, vL x0] I := runs_to (ins_of mI_81 (by rfl)) rfl rfl
theorem r81_97 : runs cal 81 97 [v0, v1, v2, v3, v4, v5] [vL x0, vL x1] I = if x1 = x0 then runs cal 81 112 [v0, v1, v2, v3, v4, v5] [] I else runs cal 81 101 [v0, v1, v2, v3, v4, v5] [] I := st_lc_eq (ins_of mI_81 (by rfl)) (ins_of mI_81 (by rfl)) (by decide)
theorem r81_98 : runs cal 81 98 [v0, v1, v2, v3, v4, v5] [vI x0] I = if x0 = 0 then runs cal 81 112 [v0, v1, v2, v3, v4, v5] [] I else runs cal 81 101 [v0, v1, v2, v3, v4, v5] [] I := st_if_eq (ins_of mI_81 (by rfl)) (by decide)
theorem r81_101 : runs cal 81 101 [v0, v1, v2, v3, vL w, v5] [] I = runs cal 81 103 [v0, v1, v2, v3, vL w, v5] [vL w] I := runs_to (ins_of mI_81 (by rfl)) rfl rfl
theorem r81_103 : runs cal 81 103 [v0, v1, v2, v3, v4, v5] [vL x0] I = runs cal 81 104 [v0, v1, v2, v3, v4, v5] [vL 0, vL x0] I := runs_to (ins_of mI_81 (by rfl)) rfl rfl
theorem r81_104 : runs cal 81 104 [v0, v1, v2, v3, v4, v5] [vL x0, vL x1] I = if x1 = x0 then runs cal 81 112 [v0, v1, v2, v3, v4, v5] [] I else runs cal 81 108 [v0, v1, v2, v3, v4, v5] [] I := st_lc_eq (ins_of mI_81 (by rfl)) (ins_of mI_81 (by rfl)) (by decide)
theorem r81_105 : runs cal 81 105 [v0, v1, v2, v3, v4, v5] [vI x0] I = if x0 = 0 then runs cal 81 112 [v0, v1, v2, v3, v4, v5] [] I else runs cal 81 108 [v0, v1, v2, v3, v4, v5] [] I := st_if_eq (ins_of mI_81 (by rfl)) (by decide)
theorem r81_108 : runs cal 81 108 [v0, v1, v2, v3, v4, v5] [] I = runs cal 81 109 [v0, v1, v2, v3, v4, v5] [vL 1] I := runs_to (ins_of mI_81 (by rfl)) rfl rfl
theorem r81_109 : runs cal 81 109 [v0, v1, v2, v3, v4, v5] [vL x0] I = runs cal 81 113 [v0, v1, v2, v3, v4, v5] [vL x0] I := st_goto (ins_of mI_81 (by rfl)) (by decide)
theorem r81_112 : runs cal 81 112 [v0, v1, v2, v3, v4, v5] [] I = runs cal 81 113 [v0, v1, v2, v3, v4, v5] [vL 0] I := runs_to (ins_of mI_81 (by rfl)) rfl rfl
theorem r81_113 : runs cal 81 113 [v0, v1, v2, v3, v4, v5] [vL x0] I = some (some (vL x0), I) := st_ret (q := some (vL x0)) (k := 1) (ins_of mI_81 (by rfl)) rfl (by decide) mR_81 rfl trivial
theorem r81_114 : runs cal 81 114 [v0, v1, vL w, v3, v4, v5] [] I = runs cal 81 115 [v0, v1, vL w, v3, v4, v5] [vL w] I := runs_to (ins_of mI_81 (by rfl)) rfl rfl
theorem r81_115 : runs cal 81 115 [v0, v1, v2, v3, vL w, v5] [vL x0] I = runs cal 81 117 [v0, v1, v2, v3, vL w, v5] [vL w, vL x0] I := runs_to (ins_of mI_81 (by rfl)) rfl rfl
theorem r81_117 : runs cal 81 117 [v0, v1, v2, v3, v4, v5] [vL x0, vL x1] I = if x1 < x0 then runs cal 81 121 [v0, v1, v2, v3, v4, v5] [] I else runs cal 81 125 [v0, v1, v2, v3, v4, v5] [] I := st_lc_ge (ins_of mI_81 (by rfl)) (ins_of mI_81 (by rfl)) (by decide)
theorem r81_118 : runs cal 81 118 [v0, v1, v2, v3, v4, v5] [vI x0] I = if x0 < 0 then runs cal 81 121 [v0, v1, v2, v3, v4, v5] [] I else runs cal 81 125 [v0, v1, v2, v3, v4, v5] [] I := st_if_ge (ins_of mI_81 (by rfl)) (by decide)
theorem r81_121 : runs cal 81 121 [v0, v1, v2, v3, v4, v5] [] I = runs cal 81 122 [v0, v1, v2, v3, v4, v5] [vL 1] I := runs_to (ins_of mI_81 (by rfl)) rfl rfl
theorem r81_122 : runs cal 81 122 [v0, v1, v2, v3, v4, v5] [vL x0] I = runs cal 81 126 [v0, v1, v2, v3, v4, v5] [vL x0] I := st_goto (ins_of mI_81 (by rfl)) (by decide)
theorem r81_125 : runs cal 81 125 [v0, v1, v2, v3, v4, v5] [] I = runs cal 81 126 [v0, v1, v2, v3, v4, v5] [vL 0] I := runs_to (ins_of mI_81 (by rfl)) rfl rfl
theorem r81_126 : runs cal 81 126 [v0, v1, v2, v3, v4, v5] [vL x0] I = some (some (vL x0), I) := st_ret (q := some (vL x0)) (k := 1) (ins_of mI_81 (by rfl)) rfl (by decide) mR_81 rfl trivial
theorem r81_127 : runs cal 81 127 [v0, v1, vL w, v3, v4, v5] [] I = runs cal 81 128 [v0, v1, vL w, v3, v4, v5] [vL w] I := runs_to (ins_of mI_81 (by rfl)) rfl rfl
theorem r81_128 : runs cal 81 128 [v0, v1, v2, v3, vL w, v5] [vL x0] I = runs cal 81 130 [v0, v1, v2, v3, vL w, v5] [vL w, vL x0] I := runs_to (ins_of mI_81 (by rfl)) rfl rfl
theorem r81_130 : runs cal 81 130 [v0, v1, v2, v3, v4, v5] [vL x0, vL x1] I = if x0 < x1 then runs cal 81 134 [v0, v1, v2, v3, v4, v5] [] I else runs cal 81 138 [v0, v1, v2, v3, v4, v5] [] I := st_lc_le (ins_of mI_81 (by rfl)) (ins_of mI_81 (by rfl)) (by decide)
theorem r81_131 : runs cal 81 131 [v0, v1, v2, v3, v4, v5] [vI x0] I = if 0 < x0 then runs cal 81 134 [v0, v1, v2, v3, v4, v5] [] I else runs cal 81 138 [v0, v1, v2, v3, v4, v5] [] I := st_if_le (ins_of mI_81 (by rfl)) (by decide)
theorem r81_134 : runs cal 81 134 [v0, v1, v2, v3, v4, v5] [] I = runs cal 81 135 [v0, v1, v2, v3, v4, v5] [vL 1] I := runs_to (ins_of mI_81 (by rfl)) rfl rfl
theorem r81_135 : runs cal 81 135 [v0, v1, v2, v3, v4, v5] [vL x0] I = runs cal 81 139 [v0, v1, v2, v3, v4, v5] [vL x0] I := st_goto (ins_of mI_81 (by rfl)) (by decide)
theorem r81_138 : runs cal 81 138 [v0, v1, v2, v3, v4, v5] [] I = runs cal 81 139 [v0, v1, v2, v3, v4, v5] [vL 0] I := runs_to (ins_of mI_81 (by rfl)) rfl rfl
theorem r81_139 : runs cal 81 139 [v0, v1, v2, v3, v4, v5] [vL x0] I = some (some (vL x0), I) := st_ret (q := some (vL x0)) (k := 1) (ins_of mI_81 (by rfl)) rfl (by decide) mR_81 rfl trivial
theorem r81_140 : runs cal 81 140 [v0, v1, vL w, v3, v4, v5] [] I = runs cal 81 141 [v0, v1, vL w, v3, v4, v5] [vL w] I := runs_to (ins_of mI_81 (by rfl)) rfl rfl
theorem r81_141 : runs cal 81 141 [v0, v1, v2, v3, vL w, v5] [vL x0] I = runs cal 81 143 [v0, v1, v2, v3, vL w, v5] [vL w, vL x0] I := runs_to (ins_of mI_81 (by rfl)) rfl rfl
theorem r81_143 : runs cal 81 143 [v0, v1, v2, v3, v4, v5] [vL x0, vL x1] I = if x1 = x0 then runs cal 81 147 [v0, v1, v2, v3, v4, v5] [] I else runs cal 81 151 [v0, v1, v2, v3, v4, v5] [] I := st_lc_ne (ins_of mI_81 (by rfl)) (ins_of mI_81 (by rfl)) (by decide)
theorem r81_144 : runs cal 81 144 [v0, v1, v2, v3, v4, v5] [vI x0] I = if x0 = 0 then runs cal 81 147 [v0, v1, v2, v3, v4, v5] [] I else runs cal 81 151 [v0, v1, v2, v3, v4, v5] [] I := st_if_ne (ins_of mI_81 (by rfl)) (by decide)
theorem r81_147 : runs cal 81 147 [v0, v1, v2, v3, v4, v5] [] I = runs cal 81 148 [v0, v1, v2, v3, v4, v5] [vL 1] I := runs_to (ins_of mI_81 (by rfl)) rfl rfl
theorem r81_148 : runs cal 81 148 [v0, v1, v2, v3, v4, v5] [vL x0] I = runs cal 81 152 [v0, v1, v2, v3, v4, v5] [vL x0] I := st_goto (ins_of mI_81 (by rfl)) (by decide)
theorem r81_151 : runs cal 81 151 [v0, v1, v2, v3, v4, v5] [] I = runs cal 81 152 [v0, v1, v2, v3, v4, v5] [vL 0] I := runs_to (ins_of mI_81 (by rfl)) rfl rfl
theorem r81_152 : runs cal 81 152 [v0, v1, v2, v3, v4, v5] [vL x0] I = some (some (vL x0), I) := st_ret (q := some (vL x0)) (k := 1) (ins_of mI_81 (by rfl)) rfl (by decide) mR_81 rfl trivial
theorem r81_153 : runs cal 81 153 [v0, v1, vL w, v3, v4, v5] [] I = runs cal 81 154 [v0, v1, vL w, v3, v4, v5] [vL w] I := runs_to (ins_of mI_81 (by rfl)) rfl rfl
theorem r81_154 : runs cal 81 154 [v0, v1, v2, v3, vL w, v5] [vL x0] I = runs cal 81 156 [v0, v1, v2, v3, vL w, v5] [vL w, vL x0] I := runs_to (ins_of mI_81 (by rfl)) rfl rfl
theorem r81_156 : runs cal 81 156 [v0, v1, v2, v3, v4, v5] [vL x0, vL x1] I = runs cal 81 157 [v0, v1, v2, v3, v4, v5] [vL (ladd x1 x0)] I := runs_to (ins_of mI_81 (by rfl)) rfl rfl
theorem r81_157 : runs cal 81 157 [v0, v1, v2, v3, v4, v5] [vL x0] I = some (some (vL x0), I) := st_ret (q := some (vL x0)) (k := 1) (ins_of mI_81 (by rfl)) rfl (by decide) mR_81 rfl trivial
theorem r81_158 : runs cal 81 158 [v0, v1, vL w, v3, v4, v5] [] I = runs cal 81 159 [v0, v1, vL w, v3, v4, v5] [vL w] I := runs_to (ins_of mI_81 (by rfl)) rfl rfl
theorem r81_159 : runs cal 81 159 [v0, v1, v2, v3, vL w, v5] [vL x0] I = runs cal 81 161 [v0, v1, v2, v3, vL w, v5] [vL w, vL x0] I := runs_to (ins_of mI_81 (by rfl)) rfl rfl
theorem r81_161 : runs cal 81 161 [v0, v1, v2, v3, v4, v5] [vL x0, vL x1] I = runs cal 81 162 [v0, v1, v2, v3, v4, v5] [vL (lsub x1 x0)] I := runs_to (ins_of mI_81 (by rfl)) rfl rfl
theorem r81_162 : runs cal 81 162 [v0, v1, v2, v3, v4, v5] [vL x0] I = some (some (vL x0), I) := st_ret (q := some (vL x0)) (k := 1) (ins_of mI_81 (by rfl)) rfl (by decide) mR_81 rfl trivial
theorem r81_163 : runs cal 81 163 [v0, v1, vL w, v3, v4, v5] [] I = runs cal 81 164 [v0, v1, vL w, v3, v4, v5] [vL w] I := runs_to (ins_of mI_81 (by rfl)) rfl rfl
theorem r81_164 : runs cal 81 164 [v0, v1, v2, v3, vL w, v5] [vL x0] I = runs cal 81 166 [v0, v1, v2, v3, vL w, v5] [vL w, vL x0] I := runs_to (ins_of mI_81 (by rfl)) rfl rfl
theorem r81_166 : runs cal 81 166 [v0, v1, v2, v3, v4, v5] [vL x0, vL x1] I = runs cal 81 167 [v0, v1, v2, v3, v4, v5] [vL (lmul x1 x0)] I := runs_to (ins_of mI_81 (by rfl)) rfl rfl
theorem r81_167 : runs cal 81 167 [v0, v1, v2, v3, v4, v5] [vL x0] I = some (some (vL x0), I) := st_ret (q := some (vL x0)) (k := 1) (ins_of mI_81 (by rfl)) rfl (by decide) mR_81 rfl trivial
theorem r81_168 : runs cal 81 168 [v0, v1, v2, v3, vL w, v5] [] I = runs cal 81 170 [v0, v1, v2, v3, vL w, v5] [vL w] I := runs_to (ins_of mI_81 (by rfl)) rfl rfl
theorem r81_170 : runs cal 81 170 [v0, v1, v2, v3, v4, v5] [vL x0] I = runs cal 81 171 [v0, v1, v2, v3, v4, v5] [vL 0, vL x0] I := runs_to (ins_of mI_81 (by rfl)) rfl rfl
theorem r81_171 : runs cal 81 171 [v0, v1, v2, v3, v4, v5] [vL x0, vL x1] I = if x1 = x0 then runs cal 81 175 [v0, v1, v2, v3, v4, v5] [] I else runs cal 81 179 [v0, v1, v2, v3, v4, v5] [] I := st_lc_ne (ins_of mI_81 (by rfl)) (ins_of mI_81 (by rfl)) (by decide)
theorem r81_172 : runs cal 81 172 [v0, v1, v2, v3, v4, v5] [vI x0] I = if x0 = 0 then runs cal 81 175 [v0, v1, v2, v3, v4, v5] [] I else runs cal 81 179 [v0, v1, v2, v3, v4, v5] [] I := st_if_ne (ins_of mI_81 (by rfl)) (by decide)
theorem r81_175 : runs cal 81 175 [v0, v1, v2, v3, v4, v5] [] I = runs cal 81 176 [v0, v1, v2, v3, v4, v5] [vL 0] I := runs_to (ins_of mI_81 (by rfl)) rfl rfl
theorem r81_176 : runs cal 81 176 [v0, v1, v2, v3, v4, v5] [vL x0] I = runs cal 81 183 [v0, v1, v2, v3, v4, v5] [vL x0] I := st_goto (ins_of mI_81 (by rfl)) (by decide)
theorem r81_179 : runs cal 81 179 [v0, v1, vL w, v3, v4, v5] [] I = runs cal 81 180 [v0, v1, vL w, v3, v4, v5] [vL w] I := runs_to (ins_of mI_81 (by rfl)) rfl rfl
theorem r81_180 : runs cal 81 180 [v0, v1, v2, v3, vL w, v5] [vL x0] I = runs cal 81 182 [v0, v1, v2, v3, vL w, v5] [vL w, vL x0] I := runs_to (ins_of mI_81 (by rfl)) rfl rfl
theorem r81_182 : runs cal 81 182 [v0, v1, v2, v3, v4, v5] [vL x0, vL x1] I = if x0 = 0 then none else runs cal 81 183 [v0, v1, v2, v3, v4, v5] [vL (ldiv x1 x0)] I := st_nzL (ins_of mI_81 (by rfl)) rfl rfl
theorem r81_183 : runs cal 81 183 [v0, v1, v2, v3, v4, v5] [vL x0] I = some (some (vL x0), I) := st_ret (q := some (vL x0)) (k := 1) (ins_of mI_81 (by rfl)) rfl (by decide) mR_81 rfl trivial
theorem r82_0 : runs cal 82 0 [v0, vL w, v2, v3, v4, v5] [] I = runs cal 82 1 [v0, vL w, v2, v3, v4, v5] [vL w] I := runs_to (ins_of mI_82 (by rfl)) rfl rfl
theorem r82_1 : runs cal 82 1 [v0, v1, v2, v3, v4, v5] [vL x0] I = runs cal 82 2 [v0, v1, kill v2, vL x0, vR 0, v5] [] I := runs_to (ins_of mI_82 (by rfl)) rfl rfl
theorem r82_2 : runs cal 82 2 [v0, v1, v2, v3, v4, v5] [] I = runs cal 82 3 [v0, v1, v2, v3, v4, v5] [vI (0)] I := runs_to (ins_of mI_82 (by rfl)) rfl rfl
theorem r82_3 : runs cal 82 3 [v0, v1, v2, v3, v4, v5] [vI x0] I = runs cal 82 5 [v0, v1, v2, v3, kill v4, vI x0] [] I := runs_to (ins_of mI_82 (by rfl)) rfl rfl
theorem r82_5 : runs cal 82 5 [v0, v1, v2, v3, v4, vI w] [] I = runs cal 82 7 [v0, v1, v2, v3, v4, vI w] [vI w] I := runs_to (ins_of mI_82 (by rfl)) rfl rfl
theorem r82_7 : runs cal 82 7 [vR 21, v1, v2, v3, v4, v5] [vI x0] I = runs cal 82 8 [vR 21, v1, v2, v3, v4, v5] [vR 21, vI x0] I := runs_to (ins_of mI_82 (by rfl)) rfl rfl
theorem r82_8 : runs cal 82 8 [v0, v1, v2, v3, v4, v5] [vR 21, vI x1] I = runs cal 82 11 [v0, v1, v2, v3, v4, v5] [vI (I 21 1), vI x1] I := st_getI (ins_of mI_82 (by rfl)) mC_82 (by decide) fr_5_22 cT_21 (wdc wid_82 wd_21) (Or.inl rfl)
theorem r82_11 : runs cal 82 11 [v0, v1, v2, v3, v4, v5] [vI x0, vI x1] I = if x1 < x0 then runs cal 82 14 [v0, v1, v2, v3, v4, v5] [] I else runs cal 82 34 [v0, v1, v2, v3, v4, v5] [] I := st_cmp_ge (ins_of mI_82 (by rfl)) (by decide)
theorem r82_14 : runs cal 82 14 [v0, v1, v2, v3, v4, v5] [] I = runs cal 82 17 [v0, v1, v2, v3, v4, v5] [vL (31)] I := runs_to (ins_of mI_82 (by rfl)) rfl (by simp only [stepI, ldk2, mC_82]; rfl)
theorem r82_17 : runs cal 82 17 [v0, v1, v2, vL w, v4, v5] [vL x0] I = runs cal 82 18 [v0, v1, v2, vL w, v4, v5] [vL w, vL x0] I := runs_to (ins_of mI_82 (by rfl)) rfl rfl
theorem r82_18 : runs cal 82 18 [v0, v1, v2, v3, v4, v5] [vL x0, vL x1] I = runs cal 82 19 [v0, v1, v2, v3, v4, v5] [vL (lmul x1 x0)] I := runs_to (ins_of mI_82 (by rfl)) rfl rfl
theorem r82_19 : runs cal 82 19 [vR 21, v1, v2, v3, v4, v5] [vL x0] I = runs cal 82 20 [vR 21, v1, v2, v3, v4, v5] [vR 21, vL x0] I := runs_to (ins_of mI_82 (by rfl)) rfl rfl
theorem r82_20 : runs cal 82 20 [v0, v1, v2, v3, v4, vI w] [vR 21, vL x1] I = runs cal 82 22 [v0, v1, v2, v3, v4, vI w] [vI w, vR 21, vL x1] I := runs_to (ins_of mI_82 (by rfl)) rfl rfl
theorem r82_22 : runs cal 82 22 [v0, v1, v2, v3, v4, v5] [vI x0, vR 21, vL x2] I = (cal 71 [vR 21, vI x0] I).bind (fun q => runs cal 82 25 [v0, v1, v2, v3, v4, v5] (pushR q.1 [vL x2]) q.2) := st_call (st := false) (ins_of mI_82 (by rfl)) mC_82 mr_5_81 (by decide) mS_71 mN_71 rfl (Nat.le_of_ble_eq_true rfl) rfl rfl (Or.inr ⟨_, _, rfl, rcv mC_71 rfl wid_82 (by decide +kernel)⟩) (Or.inl (wid_82.trans wid_71.symm))
theorem r82_25 : runs cal 82 25 [v0, v1, v2, v3, v4, v5] [vI x0, vL x1] I = runs cal 82 26 [v0, v1, v2, v3, v4, v5] [vL x0, vL x1] I := runs_to (ins_of mI_82 (by rfl)) rfl rfl
theorem r82_26 : runs cal 82 26 [v0, v1, v2, v3, v4, v5] [vL x0, vL x1] I = runs cal 82 27 [v0, v1, v2, v3, v4, v5] [vL (ladd x1 x0)] I := runs_to (ins_of mI_82 (by rfl)) rfl rfl
theorem r82_27 : runs cal 82 27 [v0, v1, v2, v3, v4, v5] [vL x0] I = runs cal 82 28 [v0, v1, kill v2, vL x0, vR 0, v5] [] I := runs_to (ins_of mI_82 (by rfl)) rfl rfl
theorem r82_28 : runs cal 82 28 [v0, v1, v2, v3, v4, vI w] [] I = runs cal 82 31 [v0, v1, v2, v3, kill v4, vI (iadd w (1))] [] I := runs_to (ins_of mI_82 (by rfl)) rfl rfl
theorem r82_31 : runs cal 82 31 [v0, v1, v2, v3, v4, v5] [] I = runs cal 82 5 [v0, v1, v2, v3, v4, v5] [] I := st_goto (ins_of mI_82 (by rfl)) (by decide)
theorem r82_34 : runs cal 82 34 [v0, v1, v2, vL w, v4, v5] [] I = runs cal 82 35 [v0, v1, v2, vL w, v4, v5] [vL w] I := runs_to (ins_of mI_82 (by rfl)) rfl rfl
theorem r82_35 : runs cal 82 35 [v0, v1, v2, v3, v4, v5] [vL x0] I = some (some (vL x0), I) := st_ret (q := some (vL x0)) (k := 1) (ins_of mI_82 (by rfl)) rfl (by decide) mR_82 rfl trivial
theorem r265_0 : runs cal 265 0 [vL w, v1, v2, v3, v4, v5] [] I = runs cal 265 1 [vL w, v1, v2, v3, v4, v5] [vL w] I := runs_to (ins_of mI_265 (by rfl)) rfl rfl
theorem r265_1 : runs cal 265 1 [v0, v1, vL w, v3, v4, v5] [vL x0] I = runs cal 265 2 [v0, v1, vL w, v3, v4, v5] [vL w, vL x0] I := runs_to (ins_of mI_265 (by rfl)) rfl rfl
theorem r265_2 : runs cal 265 2 [v0, v1, v2, v3, v4, v5] [vL x0, vL x1] I = if x0 = 0 then none else runs cal 265 3 [v0, v1, v2, v3, v4, v5] [vL (lrem x1 x0)] I := st_nzL (ins_of mI_265 (by rfl)) rfl rfl
theorem r265_3 : runs cal 265 3 [v0, v1, v2, v3, v4, v5] [vL x0] I = runs cal 265 5 [v0, v1, v2, kill v3, vL x0, vR 0] [] I := runs_to (ins_of mI_265 (by rfl)) rfl rfl
theorem r265_5 : runs cal 265 5 [vL w, v1, v2, v3, v4, v5] [] I = runs cal 265 6 [vL w, v1, v2, v3, v4, v5] [vL w] I := runs_to (ins_of mI_265 (by rfl)) rfl rfl
theorem r265_6 : runs cal 265 6 [v0, v1, vL w, v3, v4, v5] [vL x0] I = runs cal 265 7 [v0, v1, vL w, v3, v4, v5] [vL w, vL x0] I := runs_to (ins_of mI_265 (by rfl)) rfl rfl
theorem r265_7 : runs cal 265 7 [v0, v1, v2, v3, v4, v5] [vL x0, vL x1] I = runs cal 265 8 [v0, v1, v2, v3, v4, v5] [vL (lxor x1 x0)] I := runs_to (ins_of mI_265 (by rfl)) rfl rfl
theorem r265_8 : runs cal 265 8 [v0, v1, v2, v3, v4, v5] [vL x0] I = runs cal 265 9 [v0, v1, v2, v3, v4, v5] [vL 0, vL x0] I := runs_to (ins_of mI_265 (by rfl)) rfl rfl
theorem r265_9 : runs cal 265 9 [v0, v1, v2, v3, v4, v5] [vL x0, vL x1] I = if x1 < x0 then runs cal 265 13 [v0, v1, v2, v3, v4, v5] [] I else runs cal 265 25 [v0, v1, v2, v3, v4, v5] [] I := st_lc_ge (ins_of mI_265 (by rfl)) (ins_of mI_265 (by rfl)) (by decide)
theorem r265_10 : runs cal 265 10 [v0, v1, v2, v3, v4, v5] [vI x0] I = if x0 < 0 then runs cal 265 13 [v0, v1, v2, v3, v4, v5] [] I else runs cal 265 25 [v0, v1, v2, v3, v4, v5] [] I := st_if_ge (ins_of mI_265 (by rfl)) (by decide)
theorem r265_13 : runs cal 265 13 [v0, v1, v2, v3, vL w, v5] [] I = runs cal 265 15 [v0, v1, v2, v3, vL w, v5] [vL w] I := runs_to (ins_of mI_265 (by rfl)) rfl rfl
theorem r265_15 : runs cal 265 15 [v0, v1, v2, v3, v4, v5] [vL x0] I = runs cal 265 16 [v0, v1, v2, v3, v4, v5] [vL 0, vL x0] I := runs_to (ins_of mI_265 (by rfl)) rfl rfl
theorem r265_16 : runs cal 265 16 [v0, v1, v2, v3, v4, v5] [vL x0, vL x1] I = if x1 = x0 then runs cal 265 25 [v0, v1, v2, v3, v4, v5] [] I else runs cal 265 20 [v0, v1, v2, v3, v4, v5] [] I := st_lc_eq (ins_of mI_265 (by rfl)) (ins_of mI_265 (by rfl)) (by decide)
theorem r265_17 : runs cal 265 17 [v0, v1, v2, v3, v4, v5] [vI x0] I = if x0 = 0 then runs cal 265 25 [v0, v1, v2, v3, v4, v5] [] I else runs cal 265 20 [v0, v1, v2, v3, v4, v5] [] I := st_if_eq (ins_of mI_265 (by rfl)) (by decide)
theorem r265_20 : runs cal 265 20 [v0, v1, v2, v3, vL w, v5] [] I = runs cal 265 22 [v0, v1, v2, v3, vL w, v5] [vL w] I := runs_to (ins_of mI_265 (by rfl)) rfl rfl
theorem r265_22 : runs cal 265 22 [v0, v1, vL w, v3, v4, v5] [vL x0] I = runs cal 265 23 [v0, v1, vL w, v3, v4, v5] [vL w, vL x0] I := runs_to (ins_of mI_265 (by rfl)) rfl rfl
theorem r265_23 : runs cal 265 23 [v0, v1, v2, v3, v4, v5] [vL x0, vL x1] I = runs cal 265 24 [v0, v1, v2, v3, v4, v5] [vL (ladd x1 x0)] I := runs_to (ins_of mI_265 (by rfl)) rfl rfl
theorem r265_24 : runs cal 265 24 [v0, v1, v2, v3, v4, v5] [vL x0] I = some (some (vL x0), I) := st_ret (q := some (vL x0)) (k := 1) (ins_of mI_265 (by rfl)) rfl (by decide) mR_265 rfl trivial
theorem r265_25 : runs cal 265 25 [v0, v1, v2, v3, vL w, v5] [] I = runs cal 265 27 [v0, v1, v2, v3, vL w, v5] [vL w] I := runs_to (ins_of mI_265 (by rfl)) rfl rfl
theorem r265_27 : runs cal 265 27 [v0, v1, v2, v3, v4, v5] [vL x0] I = some (some (vL x0), I) := st_ret (q := some (vL x0)) (k := 1) (ins_of mI_265 (by rfl)) rfl (by decide) mR_265 rfl trivial
theorem r266_0 : runs cal 266 0 [vR 89] [] I = runs cal 266 1 [vR 89] [vR 89] I := runs_to (ins_of mI_266 (by rfl)) rfl rfl
theorem r266_1 : runs cal 266 1 [v0] [vR 89] I = runs cal 266 4 [v0] [vR 93] I := st_getS1 (ins_of mI_266 (by rfl)) mC_266 cT_89 rfl
theorem r266_4 : runs cal 266 4 [v0] [vR 93] I = runs cal 266 5 [v0] [vI 4] I := st_alen (ins_of mI_266 (by rfl)) (alen_6 cT_93)
theorem r266_5 : runs cal 266 5 [vR 89] [vI x0] I = runs cal 266 6 [vR 89] [vR 89, vI x0] I := runs_to (ins_of mI_266 (by rfl)) rfl rfl
theorem r266_6 : runs cal 266 6 [v0] [vR 89, vI x1] I = (cal 268 [vR 89] I).bind (fun q => runs cal 266 9 [v0] (pushR q.1 [vI x1]) q.2) := st_call (st := false) (ins_of mI_266 (by rfl)) mC_266 mr_12_335 (by decide) mS_268 mN_268 rfl (Nat.le_of_ble_eq_true rfl) rfl rfl (Or.inr ⟨_, _, rfl, rcv mC_268 rfl wid_266 rfl⟩) (Or.inl (wid_266.trans wid_268.symm))
theorem r266_9 : runs cal 266 9 [v0] [vI x0, vI x1] I = runs cal 266 10 [v0] [vI (ishr x1 x0)] I := runs_to (ins_of mI_266 (by rfl)) rfl rfl
theorem r266_10 : runs cal 266 10 [v0] [vI x0] I = some (some (vI x0), I) := st_ret (q := some (vI x0)) (k := 0) (ins_of mI_266 (by rfl)) rfl (by decide) mR_266 rfl trivial
theorem r266_0a : runs cal 266 0 [vR 90] [] I = runs cal 266 1 [vR 90] [vR 90] I := runs_to (ins_of mI_266 (by rfl)) rfl rfl
theorem r266_1a : runs cal 266 1 [v0] [vR 90] I = runs cal 266 4 [v0] [vR 94] I := st_getS1 (ins_of mI_266 (by rfl)) mC_266 cT_90 rfl
theorem r266_4a : runs cal 266 4 [v0] [vR 94] I = runs cal 266 5 [v0] [vI 6] I := st_alen (ins_of mI_266 (by rfl)) (alen_6 cT_94)
theorem r266_5a : runs cal 266 5 [vR 90] [vI x0] I = runs cal 266 6 [vR 90] [vR 90, vI x0] I := runs_to (ins_of mI_266 (by rfl)) rfl rfl
theorem r266_6a : runs cal 266 6 [v0] [vR 90, vI x1] I = (cal 268 [vR 90] I).bind (fun q => runs cal 266 9 [v0] (pushR q.1 [vI x1]) q.2) := st_call (st := false) (ins_of mI_266 (by rfl)) mC_266 mr_12_335 (by decide) mS_268 mN_268 rfl (Nat.le_of_ble_eq_true rfl) rfl rfl (Or.inr ⟨_, _, rfl, rcv mC_268 rfl wid_266 rfl⟩) (Or.inl (wid_266.trans wid_268.symm))
theorem r266_0b : runs cal 266 0 [vR 91] [] I = runs cal 266 1 [vR 91] [vR 91] I := runs_to (ins_of mI_266 (by rfl)) rfl rfl
theorem r266_1b : runs cal 266 1 [v0] [vR 91] I = runs cal 266 4 [v0] [vR 95] I := st_getS1 (ins_of mI_266 (by rfl)) mC_266 cT_91 rfl
theorem r266_4b : runs cal 266 4 [v0] [vR 95] I = runs cal 266 5 [v0] [vI 6] I := st_alen (ins_of mI_266 (by rfl)) (alen_6 cT_95)
theorem r266_5b : runs cal 266 5 [vR 91] [vI x0] I = runs cal 266 6 [vR 91] [vR 91, vI x0] I := runs_to (ins_of mI_266 (by rfl)) rfl rfl
theorem r266_6b : runs cal 266 6 [v0] [vR 91, vI x1] I = (cal 268 [vR 91] I).bind (fun q => runs cal 266 9 [v0] (pushR q.1 [vI x1]) q.2) := st_call (st := false) (ins_of mI_266 (by rfl)) mC_266 mr_12_335 (by decide) mS_268 mN_268 rfl (Nat.le_of_ble_eq_true rfl) rfl rfl (Or.inr ⟨_, _, rfl, rcv mC_268 rfl wid_266 rfl⟩) (Or.inl (wid_266.trans wid_268.symm))
theorem r266_0c : runs cal 266 0 [vR 92] [] I = runs cal 266 1 [vR 92] [vR 92] I := runs_to (ins_of mI_266 (by rfl)) rfl rfl
theorem r266_1c : runs cal 266 1 [v0] [vR 92] I = runs cal 266 4 [v0] [vR 96] I := st_getS1 (ins_of mI_266 (by rfl)) mC_266 cT_92 rfl
theorem r266_4c : runs cal 266 4 [v0] [vR 96] I = runs cal 266 5 [v0] [vI 5] I := st_alen (ins_of mI_266 (by rfl)) (alen_6 cT_96)
theorem r266_5c : runs cal 266 5 [vR 92] [vI x0] I = runs cal 266 6 [vR 92] [vR 92, vI x0] I := runs_to (ins_of mI_266 (by rfl)) rfl rfl
theorem r266_6c : runs cal 266 6 [v0] [vR 92, vI x1] I = (cal 268 [vR 92] I).bind (fun q => runs cal 266 9 [v0] (pushR q.1 [vI x1]) q.2) := st_call (st := false) (ins_of mI_266 (by rfl)) mC_266 mr_12_335 (by decide) mS_268 mN_268 rfl (Nat.le_of_ble_eq_true rfl) rfl rfl (Or.inr ⟨_, _, rfl, rcv mC_268 rfl wid_266 rfl⟩) (Or.inl (wid_266.trans wid_268.symm))
theorem r267_0 : runs cal 267 0 [vR 89, v1] [] I = runs cal 267 1 [vR 89, v1] [vR 89] I := runs_to (ins_of mI_267 (by rfl)) rfl rfl
theorem r267_1 : runs cal 267 1 [v0, v1] [vR 89] I = (cal 269 [vR 89] I).bind (fun q => runs cal 267 4 [v0, v1] (pushR q.1 []) q.2) := st_call (st := false) (ins_of mI_267 (by rfl)) mC_267 mr_12_492 (by decide) mS_269 mN_269 rfl (Nat.le_of_ble_eq_true rfl) rfl rfl (Or.inr ⟨_, _, rfl, rcv mC_269 rfl wid_267 rfl⟩) (Or.inl (wid_267.trans wid_269.symm))
theorem r267_4 : runs cal 267 4 [v0, v1] [vI x0] I = if x0 = 0 then runs cal 267 16 [v0, v1] [] I else runs cal 267 7 [v0, v1] [] I := st_if_eq (ins_of mI_267 (by rfl)) (by decide)
theorem r267_7 : runs cal 267 7 [vR 89, v1] [] I = runs cal 267 8 [vR 89, v1] [vR 89] I := runs_to (ins_of mI_267 (by rfl)) rfl rfl
theorem r267_8 : runs cal 267 8 [v0, v1] [vR 89] I = runs cal 267 11 [v0, v1] [vR 93] I := st_getS1 (ins_of mI_267 (by rfl)) mC_267 cT_89 rfl
theorem r267_11 : runs cal 267 11 [v0, vI w] [vR 93] I = runs cal 267 12 [v0, vI w] [vI w, vR 93] I := runs_to (ins_of mI_267 (by rfl)) rfl rfl
theorem r267_12 : runs cal 267 12 [v0, v1] [vI x0, vR 93] I = (cal 271 [vR 93, vI x0] I).bind (fun q => runs cal 267 15 [v0, v1] (pushR q.1 []) q.2) := st_call (st := true) (ins_of mI_267 (by rfl)) mC_267 mr_12_495 (by decide) mS_271 mN_271 rfl (Nat.le_of_ble_eq_true rfl) rfl rfl (Or.inl rfl) (Or.inl (wid_267.trans wid_271.symm))
theorem r267_15 : runs cal 267 15 [v0, v1] [vI x0] I = if 0 ≤ x0 ∧ x0 < 65536 then some (some (vI x0), I) else none := st_retC (ins_of mI_267 (by rfl)) mR_267
theorem r267_16 : runs cal 267 16 [vR 89, v1] [] I = runs cal 267 17 [vR 89, v1] [vR 89] I := runs_to (ins_of mI_267 (by rfl)) rfl rfl
theorem r267_17 : runs cal 267 17 [v0, v1] [vR 89] I = runs cal 267 20 [v0, v1] [vR 93] I := st_getS1 (ins_of mI_267 (by rfl)) mC_267 cT_89 rfl
theorem r267_20 : runs cal 267 20 [v0, vI w] [vR 93] I = runs cal 267 21 [v0, vI w] [vI w, vR 93] I := runs_to (ins_of mI_267 (by rfl)) rfl rfl
theorem r267_0a : runs cal 267 0 [vR 90, v1] [] I = runs cal 267 1 [vR 90, v1] [vR 90] I := runs_to (ins_of mI_267 (by rfl)) rfl rfl
theorem r267_1a : runs cal 267 1 [v0, v1] [vR 90] I = (cal 269 [vR 90] I).bind (fun q => runs cal 267 4 [v0, v1] (pushR q.1 []) q.2) := st_call (st := false) (ins_of mI_267 (by rfl)) mC_267 mr_12_492 (by decide) mS_269 mN_269 rfl (Nat.le_of_ble_eq_true rfl) rfl rfl (Or.inr ⟨_, _, rfl, rcv mC_269 rfl wid_267 rfl⟩) (Or.inl (wid_267.trans wid_269.symm))
theorem r267_7a : runs cal 267 7 [vR 90, v1] [] I = runs cal 267 8 [vR 90, v1] [vR 90] I := runs_to (ins_of mI_267 (by rfl)) rfl rfl
theorem r267_8a : runs cal 267 8 [v0, v1] [vR 90] I = runs cal 267 11 [v0, v1] [vR 94] I := st_getS1 (ins_of mI_267 (by rfl)) mC_267 cT_90 rfl
theorem r267_11a : runs cal 267 11 [v0, vI w] [vR 94] I = runs cal 267 12 [v0, vI w] [vI w, vR 94] I := runs_to (ins_of mI_267 (by rfl)) rfl rfl
theorem r267_12a : runs cal 267 12 [v0, v1] [vI x0, vR 94] I = (cal 271 [vR 94, vI x0] I).bind (fun q => runs cal 267 15 [v0, v1] (pushR q.1 []) q.2) := st_call (st := true) (ins_of mI_267 (by rfl)) mC_267 mr_12_495 (by decide) mS_271 mN_271 rfl (Nat.le_of_ble_eq_true rfl) rfl rfl (Or.inl rfl) (Or.inl (wid_267.trans wid_271.symm))
theorem r267_16a : runs cal 267 16 [vR 90, v1] [] I = runs cal 267 17 [vR 90, v1] [vR 90] I := runs_to (ins_of mI_267 (by rfl)) rfl rfl
theorem r267_17a : runs cal 267 17 [v0, v1] [vR 90] I = runs cal 267 20 [v0, v1] [vR 94] I := st_getS1 (ins_of mI_267 (by rfl)) mC_267 cT_90 rfl
theorem r267_20a : runs cal 267 20 [v0, vI w] [vR 94] I = runs cal 267 21 [v0, vI w] [vI w, vR 94] I := runs_to (ins_of mI_267 (by rfl)) rfl rfl
theorem r267_0b : runs cal 267 0 [vR 91, v1] [] I = runs cal 267 1 [vR 91, v1] [vR 91] I := runs_to (ins_of mI_267 (by rfl)) rfl rfl
theorem r267_1b : runs cal 267 1 [v0, v1] [vR 91] I = (cal 269 [vR 91] I).bind (fun q => runs cal 267 4 [v0, v1] (pushR q.1 []) q.2) := st_call (st := false) (ins_of mI_267 (by rfl)) mC_267 mr_12_492 (by decide) mS_269 mN_269 rfl (Nat.le_of_ble_eq_true rfl) rfl rfl (Or.inr ⟨_, _, rfl, rcv mC_269 rfl wid_267 rfl⟩) (Or.inl (wid_267.trans wid_269.symm))
theorem r267_7b : runs cal 267 7 [vR 91, v1] [] I = runs cal 267 8 [vR 91, v1] [vR 91] I := runs_to (ins_of mI_267 (by rfl)) rfl rfl
theorem r267_8b : runs cal 267 8 [v0, v1] [vR 91] I = runs cal 267 11 [v0, v1] [vR 95] I := st_getS1 (ins_of mI_267 (by rfl)) mC_267 cT_91 rfl
theorem r267_11b : runs cal 267 11 [v0, vI w] [vR 95] I = runs cal 267 12 [v0, vI w] [vI w, vR 95] I := runs_to (ins_of mI_267 (by rfl)) rfl rfl
theorem r267_12b : runs cal 267 12 [v0, v1] [vI x0, vR 95] I = (cal 271 [vR 95, vI x0] I).bind (fun q => runs cal 267 15 [v0, v1] (pushR q.1 []) q.2) := st_call (st := true) (ins_of mI_267 (by rfl)) mC_267 mr_12_495 (by decide) mS_271 mN_271 rfl (Nat.le_of_ble_eq_true rfl) rfl rfl (Or.inl rfl) (Or.inl (wid_267.trans wid_271.symm))
theorem r267_16b : runs cal 267 16 [vR 91, v1] [] I = runs cal 267 17 [vR 91, v1] [vR 91] I := runs_to (ins_of mI_267 (by rfl)) rfl rfl
theorem r267_17b : runs cal 267 17 [v0, v1] [vR 91] I = runs cal 267 20 [v0, v1] [vR 95] I := st_getS1 (ins_of mI_267 (by rfl)) mC_267 cT_91 rfl
theorem r267_20b : runs cal 267 20 [v0, vI w] [vR 95] I = runs cal 267 21 [v0, vI w] [vI w, vR 95] I := runs_to (ins_of mI_267 (by rfl)) rfl rfl
theorem r267_0c : runs cal 267 0 [vR 92, v1] [] I = runs cal 267 1 [vR 92, v1] [vR 92] I := runs_to (ins_of mI_267 (by rfl)) rfl rfl
theorem r267_1c : runs cal 267 1 [v0, v1] [vR 92] I = (cal 269 [vR 92] I).bind (fun q => runs cal 267 4 [v0, v1] (pushR q.1 []) q.2) := st_call (st := false) (ins_of mI_267 (by rfl)) mC_267 mr_12_492 (by decide) mS_269 mN_269 rfl (Nat.le_of_ble_eq_true rfl) rfl rfl (Or.inr ⟨_, _, rfl, rcv mC_269 rfl wid_267 rfl⟩) (Or.inl (wid_267.trans wid_269.symm))
theorem r267_7c : runs cal 267 7 [vR 92, v1] [] I = runs cal 267 8 [vR 92, v1] [vR 92] I := runs_to (ins_of mI_267 (by rfl)) rfl rfl
theorem r267_8c : runs cal 267 8 [v0, v1] [vR 92] I = runs cal 267 11 [v0, v1] [vR 96] I := st_getS1 (ins_of mI_267 (by rfl)) mC_267 cT_92 rfl
theorem r267_11c : runs cal 267 11 [v0, vI w] [vR 96] I = runs cal 267 12 [v0, vI w] [vI w, vR 96] I := runs_to (ins_of mI_267 (by rfl)) rfl rfl
theorem r267_12c : runs cal 267 12 [v0, v1] [vI x0, vR 96] I = (cal 271 [vR 96, vI x0] I).bind (fun q => runs cal 267 15 [v0, v1] (pushR q.1 []) q.2) := st_call (st := true) (ins_of mI_267 (by rfl)) mC_267 mr_12_495 (by decide) mS_271 mN_271 rfl (Nat.le_of_ble_eq_true rfl) rfl rfl (Or.inl rfl) (Or.inl (wid_267.trans wid_271.symm))
theorem r267_16c : runs cal 267 16 [vR 92, v1] [] I = runs cal 267 17 [vR 92, v1] [vR 92] I := runs_to (ins_of mI_267 (by rfl)) rfl rfl
theorem r267_17c : runs cal 267 17 [v0, v1] [vR 92] I = runs cal 267 20 [v0, v1] [vR 96] I := st_getS1 (ins_of mI_267 (by rfl)) mC_267 cT_92 rfl
theorem r267_20c : runs cal 267 20 [v0, vI w] [vR 96] I = runs cal 267 21 [v0, vI w] [vI w, vR 96] I := runs_to (ins_of mI_267 (by rfl)) rfl rfl
theorem r268_0 : runs cal 268 0 [v0] [] I = runs cal 268 3 [v0] [vI 1] I := runs_to (ins_of mI_268 (by rfl)) rfl (by simp only [stepI, gstV, mC_268]; rfl)
theorem r268_3 : runs cal 268 3 [v0] [vI x0] I = if x0 = 0 then runs cal 268 13 [v0] [] I else runs cal 268 6 [v0] [] I := st_if_eq (ins_of mI_268 (by rfl)) (by decide)
theorem r268_6 : runs cal 268 6 [vR 89] [] I = runs cal 268 7 [vR 89] [vR 89] I := runs_to (ins_of mI_268 (by rfl)) rfl rfl
theorem r268_7 : runs cal 268 7 [v0] [vR 89] I = runs cal 268 10 [v0] [vI 0] I := st_getS2 (ins_of mI_268 (by rfl)) mC_268 cT_89 rfl
theorem r268_10 : runs cal 268 10 [v0] [vI x0] I = runs cal 268 14 [v0] [vI x0] I := st_goto (ins_of mI_268 (by rfl)) (by decide)
theorem r268_13 : runs cal 268 13 [v0] [] I = runs cal 268 14 [v0] [vI (1)] I := runs_to (ins_of mI_268 (by rfl)) rfl rfl
theorem r268_14 : runs cal 268 14 [v0] [vI x0] I = if x0 = 0 ∨ x0 = 1 then some (some (vI x0), I) else none := st_retZ (ins_of mI_268 (by rfl)) mR_268 (Or.inr rfl)
theorem r268_6a : runs cal 268 6 [vR 90] [] I = runs cal 268 7 [vR 90] [vR 90] I := runs_to (ins_of mI_268 (by rfl)) rfl rfl
theorem r268_7a : runs cal 268 7 [v0] [vR 90] I = runs cal 268 10 [v0] [vI 0] I := st_getS2 (ins_of mI_268 (by rfl)) mC_268 cT_90 rfl
theorem r268_6b : runs cal 268 6 [vR 91] [] I = runs cal 268 7 [vR 91] [vR 91] I := runs_to (ins_of mI_268 (by rfl)) rfl rfl
theorem r268_7b : runs cal 268 7 [v0] [vR 91] I = runs cal 268 10 [v0] [vI 0] I := st_getS2 (ins_of mI_268 (by rfl)) mC_268 cT_91 rfl
theorem r268_6c : runs cal 268 6 [vR 92] [] I = runs cal 268 7 [vR 92] [vR 92] I := runs_to (ins_of mI_268 (by rfl)) rfl rfl
theorem r268_7c : runs cal 268 7 [v0] [vR 92] I = runs cal 268 10 [v0] [vI 0] I := st_getS2 (ins_of mI_268 (by rfl)) mC_268 cT_92 rfl
theorem r269_0 : runs cal 269 0 [v0] [] I = runs cal 269 3 [v0] [vI 1] I := runs_to (ins_of mI_269 (by rfl)) rfl (by simp only [stepI, gstV, mC_269]; rfl)
theorem r269_3 : runs cal 269 3 [v0] [vI x0] I = if x0 = 0 then runs cal 269 17 [v0] [] I else runs cal 269 6 [v0] [] I := st_if_eq (ins_of mI_269 (by rfl)) (by decide)
theorem r269_6 : runs cal 269 6 [vR 89] [] I = runs cal 269 7 [vR 89] [vR 89] I := runs_to (ins_of mI_269 (by rfl)) rfl rfl
theorem r269_7 : runs cal 269 7 [v0] [vR 89] I = runs cal 269 10 [v0] [vI 0] I := st_getS2 (ins_of mI_269 (by rfl)) mC_269 cT_89 rfl
theorem r269_10 : runs cal 269 10 [v0] [vI x0] I = if x0 = 0 then runs cal 269 13 [v0] [] I else runs cal 269 17 [v0] [] I := st_if_ne (ins_of mI_269 (by rfl)) (by decide)
theorem r269_13 : runs cal 269 13 [v0] [] I = runs cal 269 14 [v0] [vI (1)] I := runs_to (ins_of mI_269 (by rfl)) rfl rfl
theorem r269_14 : runs cal 269 14 [v0] [vI x0] I = runs cal 269 18 [v0] [vI x0] I := st_goto (ins_of mI_269 (by rfl)) (by decide)
theorem r269_17 : runs cal 269 17 [v0] [] I = runs cal 269 18 [v0] [vI (0)] I := runs_to (ins_of mI_269 (by rfl)) rfl rfl
theorem r269_18 : runs cal 269 18 [v0] [vI x0] I = if x0 = 0 ∨ x0 = 1 then some (some (vI x0), I) else none := st_retZ (ins_of mI_269 (by rfl)) mR_269 (Or.inl rfl)
theorem r269_6a : runs cal 269 6 [vR 90] [] I = runs cal 269 7 [vR 90] [vR 90] I := runs_to (ins_of mI_269 (by rfl)) rfl rfl
theorem r269_7a : runs cal 269 7 [v0] [vR 90] I = runs cal 269 10 [v0] [vI 0] I := st_getS2 (ins_of mI_269 (by rfl)) mC_269 cT_90 rfl
theorem r269_6b : runs cal 269 6 [vR 91] [] I = runs cal 269 7 [vR 91] [vR 91] I := runs_to (ins_of mI_269 (by rfl)) rfl rfl
theorem r269_7b : runs cal 269 7 [v0] [vR 91] I = runs cal 269 10 [v0] [vI 0] I := st_getS2 (ins_of mI_269 (by rfl)) mC_269 cT_91 rfl
theorem r269_6c : runs cal 269 6 [vR 92] [] I = runs cal 269 7 [vR 92] [vR 92] I := runs_to (ins_of mI_269 (by rfl)) rfl rfl
theorem r269_7c : runs cal 269 7 [v0] [vR 92] I = runs cal 269 10 [v0] [vI 0] I := st_getS2 (ins_of mI_269 (by rfl)) mC_269 cT_92 rfl
theorem r270_0 : runs cal 270 0 [vI w, v1] [] I = runs cal 270 1 [vI w, v1] [vI w] I := runs_to (ins_of mI_270 (by rfl)) rfl rfl
theorem r270_1 : runs cal 270 1 [v0, vI w] [vI x0] I = runs cal 270 2 [v0, vI w] [vI w, vI x0] I := runs_to (ins_of mI_270 (by rfl)) rfl rfl
theorem r270_2 : runs cal 270 2 [v0, v1] [vI x0, vI x1] I = runs cal 270 5 [v0, v1] [vR 99, vI x0, vI x1] I := runs_to (ins_of mI_270 (by rfl)) rfl (by simp only [stepI, gstV, mC_270]; rfl)
theorem r270_5 : runs cal 270 5 [v0, v1] [vR 99, vI x1, vI x2] I = (cal 272 [vI x2, vI x1, vR 99] I).bind (fun q => runs cal 270 8 [v0, v1] (pushR q.1 []) q.2) := st_call (st := true) (ins_of mI_270 (by rfl)) mC_270 mr_12_1059 (by decide) mS_272 mN_272 rfl (Nat.le_of_ble_eq_true rfl) rfl rfl (Or.inl rfl) (Or.inl (wid_270.trans wid_272.symm))
theorem r270_8 : runs cal 270 8 [v0, v1] [vI x0] I = runs cal 270 9 [v0, v1] [] I := runs_to (ins_of mI_270 (by rfl)) rfl rfl
theorem r270_9 : runs cal 270 9 [v0, v1] [] I = some (none, I) := st_ret (q := none) (k := 3) (ins_of mI_270 (by rfl)) rfl (by decide) mR_270 rfl trivial
theorem r271_0 : runs cal 271 0 [v0, vI w] [] I = runs cal 271 1 [v0, vI w] [vI w] I := runs_to (ins_of mI_271 (by rfl)) rfl rfl
theorem r271_1 : runs cal 271 1 [vR 93, v1] [vI x0] I = runs cal 271 2 [vR 93, v1] [vR 93, vI x0] I := runs_to (ins_of mI_271 (by rfl)) rfl rfl
theorem r271_2 : runs cal 271 2 [v0, v1] [vR 93, vI x1] I = runs cal 271 3 [v0, v1] [vI 4, vI x1] I := st_alen (ins_of mI_271 (by rfl)) (alen_6 cT_93)
theorem r271_3 : runs cal 271 3 [v0, v1] [vI x0, vI x1] I = (cal 270 [vI x1, vI x0] I).bind (fun q => runs cal 271 6 [v0, v1] (pushR q.1 []) q.2) := st_call (st := true) (ins_of mI_271 (by rfl)) mC_271 mr_13_9 (by decide) mS_270 mN_270 rfl (Nat.le_of_ble_eq_true rfl) rfl rfl (Or.inl rfl) (Or.inl (wid_271.trans wid_270.symm))
theorem r271_6 : runs cal 271 6 [vR 93, v1] [] I = runs cal 271 7 [vR 93, v1] [vR 93] I := runs_to (ins_of mI_271 (by rfl)) rfl rfl
theorem r271_7 : runs cal 271 7 [v0, vI w] [vR 93] I = runs cal 271 8 [v0, vI w] [vI w, vR 93] I := runs_to (ins_of mI_271 (by rfl)) rfl rfl
theorem r271_8 : runs cal 271 8 [v0, v1] [vI x0, vR 93] I = if 0 ≤ x0 ∧ x0 < 4 then runs cal 271 9 [v0, v1] [vI ([108, 97, 115, 116].getD x0.toNat 0)] I else none := st_bald6 (ins_of mI_271 (by rfl)) cT_93 rfl
theorem r271_9 : runs cal 271 9 [v0, v1] [vI x0] I = runs cal 271 12 [v0, v1] [vI (255), vI x0] I := runs_to (ins_of mI_271 (by rfl)) rfl rfl
theorem r271_12 : runs cal 271 12 [v0, v1] [vI x0, vI x1] I = runs cal 271 13 [v0, v1] [vI (iand x1 x0)] I := runs_to (ins_of mI_271 (by rfl)) rfl rfl
theorem r271_13 : runs cal 271 13 [v0, v1] [vI x0] I = runs cal 271 14 [v0, v1] [vI (i2c x0)] I := runs_to (ins_of mI_271 (by rfl)) rfl rfl
theorem r271_14 : runs cal 271 14 [v0, v1] [vI x0] I = if 0 ≤ x0 ∧ x0 < 65536 then some (some (vI x0), I) else none := st_retC (ins_of mI_271 (by rfl)) mR_271
theorem r271_1a : runs cal 271 1 [vR 94, v1] [vI x0] I = runs cal 271 2 [vR 94, v1] [vR 94, vI x0] I := runs_to (ins_of mI_271 (by rfl)) rfl rfl
theorem r271_2a : runs cal 271 2 [v0, v1] [vR 94, vI x1] I = runs cal 271 3 [v0, v1] [vI 6, vI x1] I := st_alen (ins_of mI_271 (by rfl)) (alen_6 cT_94)
theorem r271_6a : runs cal 271 6 [vR 94, v1] [] I = runs cal 271 7 [vR 94, v1] [vR 94] I := runs_to (ins_of mI_271 (by rfl)) rfl rfl
theorem r271_7a : runs cal 271 7 [v0, vI w] [vR 94] I = runs cal 271 8 [v0, vI w] [vI w, vR 94] I := runs_to (ins_of mI_271 (by rfl)) rfl rfl
theorem r271_8a : runs cal 271 8 [v0, v1] [vI x0, vR 94] I = if 0 ≤ x0 ∧ x0 < 6 then runs cal 271 9 [v0, v1] [vI ([105, 115, 108, 97, 110, 100].getD x0.toNat 0)] I else none := st_bald6 (ins_of mI_271 (by rfl)) cT_94 rfl
theorem r271_1b : runs cal 271 1 [vR 95, v1] [vI x0] I = runs cal 271 2 [vR 95, v1] [vR 95, vI x0] I := runs_to (ins_of mI_271 (by rfl)) rfl rfl
theorem r271_2b : runs cal 271 2 [v0, v1] [vR 95, vI x1] I = runs cal 271 3 [v0, v1] [vI 6, vI x1] I := st_alen (ins_of mI_271 (by rfl)) (alen_6 cT_95)
theorem r271_6b : runs cal 271 6 [vR 95, v1] [] I = runs cal 271 7 [vR 95, v1] [vR 95] I := runs_to (ins_of mI_271 (by rfl)) rfl rfl
theorem r271_7b : runs cal 271 7 [v0, vI w] [vR 95] I = runs cal 271 8 [v0, vI w] [vI w, vR 95] I := runs_to (ins_of mI_271 (by rfl)) rfl rfl
theorem r271_8b : runs cal 271 8 [v0, v1] [vI x0, vR 95] I = if 0 ≤ x0 ∧ x0 < 6 then runs cal 271 9 [v0, v1] [vI ([119, 97, 108, 107, 101, 114].getD x0.toNat 0)] I else none := st_bald6 (ins_of mI_271 (by rfl)) cT_95 rfl
theorem r271_1c : runs cal 271 1 [vR 96, v1] [vI x0] I = runs cal 271 2 [vR 96, v1] [vR 96, vI x0] I := runs_to (ins_of mI_271 (by rfl)) rfl rfl
theorem r271_2c : runs cal 271 2 [v0, v1] [vR 96, vI x1] I = runs cal 271 3 [v0, v1] [vI 5, vI x1] I := st_alen (ins_of mI_271 (by rfl)) (alen_6 cT_96)
theorem r271_6c : runs cal 271 6 [vR 96, v1] [] I = runs cal 271 7 [vR 96, v1] [vR 96] I := runs_to (ins_of mI_271 (by rfl)) rfl rfl
theorem r271_7c : runs cal 271 7 [v0, vI w] [vR 96] I = runs cal 271 8 [v0, vI w] [vI w, vR 96] I := runs_to (ins_of mI_271 (by rfl)) rfl rfl
theorem r271_8c : runs cal 271 8 [v0, v1] [vI x0, vR 96] I = if 0 ≤ x0 ∧ x0 < 5 then runs cal 271 9 [v0, v1] [vI ([98, 111, 97, 114, 100].getD x0.toNat 0)] I else none := st_bald6 (ins_of mI_271 (by rfl)) cT_96 rfl
theorem r272_0 : runs cal 272 0 [vI w, v1, v2] [] I = runs cal 272 1 [vI w, v1, v2] [vI w] I := runs_to (ins_of mI_272 (by rfl)) rfl rfl
theorem r272_1 : runs cal 272 1 [v0, v1, v2] [vI x0] I = if x0 < 0 then runs cal 272 9 [v0, v1, v2] [] I else runs cal 272 4 [v0, v1, v2] [] I := st_if_lt (ins_of mI_272 (by rfl)) (by decide)
theorem r272_4 : runs cal 272 4 [vI w, v1, v2] [] I = runs cal 272 5 [vI w, v1, v2] [vI w] I := runs_to (ins_of mI_272 (by rfl)) rfl rfl
theorem r272_5 : runs cal 272 5 [v0, vI w, v2] [vI x0] I = runs cal 272 6 [v0, vI w, v2] [vI w, vI x0] I := runs_to (ins_of mI_272 (by rfl)) rfl rfl
theorem r272_6 : runs cal 272 6 [v0, v1, v2] [vI x0, vI x1] I = if x1 < x0 then runs cal 272 16 [v0, v1, v2] [] I else runs cal 272 9 [v0, v1, v2] [] I := st_cmp_lt (ins_of mI_272 (by rfl)) (by decide)
theorem r272_10 : runs cal 272 10 [vI w, v1, v2] [vR 99] I = runs cal 272 11 [vI w, v1, v2] [vI w, vR 99] I := runs_to (ins_of mI_272 (by rfl)) rfl rfl
theorem r272_11 : runs cal 272 11 [v0, vI w, v2] [vI x0, vR 99] I = runs cal 272 12 [v0, vI w, v2] [vI w, vI x0, vR 99] I := runs_to (ins_of mI_272 (by rfl)) rfl rfl
theorem r272_16 : runs cal 272 16 [vI w, v1, v2] [] I = runs cal 272 17 [vI w, v1, v2] [vI w] I := runs_to (ins_of mI_272 (by rfl)) rfl rfl
theorem r272_17 : runs cal 272 17 [v0, v1, v2] [vI x0] I = some (some (vI x0), I) := st_ret (q := some (vI x0)) (k := 0) (ins_of mI_272 (by rfl)) rfl (by decide) mR_272 rfl trivial
end PRINTED
