section PRINTED
variable {cal : Nat → List AV → MM → Option RES} {I : MM}
variable {v0 v1 v2 v3 v4 v5 v6 v7 v8 v9 v10 v11 v12 v13 v14 v15 v16 v17 v18 v19 v20 v21 v22 v23 v24 v25 v26 v27 v28 v29 v30 v31 v32 v33 v34 v35 v36 v37 v38 v39 v40 v41 v42 v43 v44 v45 v46 v47 v48 v49 v50 v51 v52 v53 v54 v55 v56 v57 v58 v59 : AV} {x0 x1 x2 x3 x4 x5 x6 x7 x8 x9 w u : Int} {a0 a1 a2 a3 a4 a5 a6 b0 : Nat}

theorem r203_0 : runs cal 203 0 [vR 70, v1, v2, v3, v4] [] I = runs cal 203 1 [vR 70, v1, v2, v3, v4] [vR 70] I := runs_to (ins_of mI_203 (by rfl)) rfl rfl
theorem r203_1 : runs cal 203 1 [v0, vI w, v2, v3, v4] [vR 70] I = runs cal 203 2 [v0, vI w, v2, v3, v4] [vI w, vR 70] I := runs_to (ins_of mI_203 (by rfl)) rfl rfl
theorem r203_2 : runs cal 203 2 [v0, v1, v2, v3, v4] [vI x0, vR 70] I = (cal 202 [vR 70, vI x0] I).bind (fun q => runs cal 203 5 [v0, v1, v2, v3, v4] (pushR q.1 []) q.2) := st_call (st := false) (ins_of mI_203 (by rfl)) mC_203 mr_11_257 (by decide) mS_202 mN_202 rfl (Nat.le_of_ble_eq_true rfl) rfl rfl (Or.inr ⟨_, _, rfl, rcv mC_202 rfl wid_203 (by decide +kernel)⟩) (Or.inl (wid_203.trans wid_202.symm))
theorem r203_5 : runs cal 203 5 [v0, v1, v2, v3, v4] [] I = runs cal 203 6 [v0, v1, v2, v3, v4] [vI (0)] I := runs_to (ins_of mI_203 (by rfl)) rfl rfl
theorem r203_6 : runs cal 203 6 [v0, vI u, v2, v3, v4] [vI x0] I = runs cal 203 7 [v0, vI u, vI x0, v3, v4] [] I := runs_to (ins_of mI_203 (by rfl)) rfl rfl
theorem r203_7 : runs cal 203 7 [v0, v1, vI w, v3, v4] [] I = runs cal 203 8 [v0, v1, vI w, v3, v4] [vI w] I := runs_to (ins_of mI_203 (by rfl)) rfl rfl
theorem r203_8 : runs cal 203 8 [vR 70, v1, v2, v3, v4] [vI x0] I = runs cal 203 9 [vR 70, v1, v2, v3, v4] [vR 70, vI x0] I := runs_to (ins_of mI_203 (by rfl)) rfl rfl
theorem r203_9 : runs cal 203 9 [v0, v1, v2, v3, v4] [vR 70, vI x1] I = runs cal 203 12 [v0, v1, v2, v3, v4] [vI (I 70 18), vI x1] I := st_getI (ins_of mI_203 (by rfl)) mC_203 (by decide) fr_11_254 cT_70 (wdc wid_203 wd_70) (Or.inl rfl)
theorem r203_12 : runs cal 203 12 [v0, v1, v2, v3, v4] [vI x0, vI x1] I = if x1 < x0 then runs cal 203 15 [v0, v1, v2, v3, v4] [] I else runs cal 203 107 [v0, v1, v2, v3, v4] [] I := st_cmp_ge (ins_of mI_203 (by rfl)) (by decide)
theorem r203_15 : runs cal 203 15 [vR 70, v1, v2, v3, v4] [] I = runs cal 203 16 [vR 70, v1, v2, v3, v4] [vR 70] I := runs_to (ins_of mI_203 (by rfl)) rfl rfl
theorem r203_16 : runs cal 203 16 [v0, v1, v2, v3, v4] [vR 70] I = runs cal 203 19 [v0, v1, v2, v3, v4] [vR 82] I := st_getR (ins_of mI_203 (by rfl)) mC_203 (by decide) fr_11_46 cT_70 (wdc wid_203 wd_70) rfl rfl
theorem r203_19 : runs cal 203 19 [v0, v1, vI w, v3, v4] [vR 82] I = runs cal 203 20 [v0, v1, vI w, v3, v4] [vI w, vR 82] I := runs_to (ins_of mI_203 (by rfl)) rfl rfl
theorem r203_20 : runs cal 203 20 [v0, v1, v2, v3, v4] [vI x0, vR 82] I = if 0 ≤ x0 ∧ x0 < 73728 then runs cal 203 21 [v0, v1, v2, v3, v4] [vI (I 82 x0)] I else none := st_iald (ins_of mI_203 (by rfl)) cT_82 (wdc wid_203 wd_82)
theorem r203_21 : runs cal 203 21 [v0, v1, vI u, v3, v4] [vI x0] I = runs cal 203 22 [v0, v1, vI u, vI x0, v4] [] I := runs_to (ins_of mI_203 (by rfl)) rfl rfl
theorem r203_22 : runs cal 203 22 [vR 70, v1, v2, v3, v4] [] I = runs cal 203 23 [vR 70, v1, v2, v3, v4] [vR 70] I := runs_to (ins_of mI_203 (by rfl)) rfl rfl
theorem r203_23 : runs cal 203 23 [v0, v1, v2, vI w, v4] [vR 70] I = runs cal 203 24 [v0, v1, v2, vI w, v4] [vI w, vR 70] I := runs_to (ins_of mI_203 (by rfl)) rfl rfl
theorem r203_24 : runs cal 203 24 [v0, v1, v2, v3, v4] [vI x0, vR 70] I = (cal 200 [vR 70, vI x0] I).bind (fun q => runs cal 203 27 [v0, v1, v2, v3, v4] (pushR q.1 []) q.2) := st_call (st := false) (ins_of mI_203 (by rfl)) mC_203 mr_11_260 (by decide) mS_200 mN_200 rfl (Nat.le_of_ble_eq_true rfl) rfl rfl (Or.inr ⟨_, _, rfl, rcv mC_200 rfl wid_203 (by decide +kernel)⟩) (Or.inl (wid_203.trans wid_200.symm))
theorem r203_27 : runs cal 203 27 [vR 70, v1, v2, v3, v4] [] I = runs cal 203 28 [vR 70, v1, v2, v3, v4] [vR 70] I := runs_to (ins_of mI_203 (by rfl)) rfl rfl
theorem r203_28 : runs cal 203 28 [v0, v1, v2, v3, v4] [vR 70] I = (cal 178 [vR 70] I).bind (fun q => runs cal 203 31 [v0, v1, v2, v3, v4] (pushR q.1 []) q.2) := st_call (st := false) (ins_of mI_203 (by rfl)) mC_203 mr_11_248 (by decide) mS_178 mN_178 rfl (Nat.le_of_ble_eq_true rfl) rfl rfl (Or.inr ⟨_, _, rfl, rcv mC_178 rfl wid_203 (by decide +kernel)⟩) (Or.inl (wid_203.trans wid_178.symm))
theorem r203_31 : runs cal 203 31 [v0, v1, v2, v3, v4] [vI x0] I = if x0 = 0 then runs cal 203 41 [v0, v1, v2, v3, v4] [] I else runs cal 203 34 [v0, v1, v2, v3, v4] [] I := st_if_eq (ins_of mI_203 (by rfl)) (by decide)
theorem r203_34 : runs cal 203 34 [vR 70, v1, v2, v3, v4] [] I = runs cal 203 35 [vR 70, v1, v2, v3, v4] [vR 70] I := runs_to (ins_of mI_203 (by rfl)) rfl rfl
theorem r203_35 : runs cal 203 35 [v0, v1, v2, v3, v4] [vR 70] I = runs cal 203 38 [v0, v1, v2, v3, v4] [vR 81] I := st_getR (ins_of mI_203 (by rfl)) mC_203 (by decide) fr_11_43 cT_70 (wdc wid_203 wd_70) rfl rfl
theorem r203_38 : runs cal 203 38 [v0, v1, v2, vI w, v4] [vR 81] I = runs cal 203 39 [v0, v1, v2, vI w, v4] [vI w, vR 81] I := runs_to (ins_of mI_203 (by rfl)) rfl rfl
theorem r203_39 : runs cal 203 39 [v0, v1, v2, v3, v4] [vI x0, vR 81] I = if 0 ≤ x0 ∧ x0 < 73728 then runs cal 203 40 [v0, v1, v2, v3, v4] [vI (I 81 x0)] I else none := st_iald (ins_of mI_203 (by rfl)) cT_81 (wdc wid_203 wd_81)
theorem r203_40 : runs cal 203 40 [v0, v1, v2, v3, v4] [vI x0] I = some (some (vI x0), I) := st_ret (q := some (vI x0)) (k := 0) (ins_of mI_203 (by rfl)) rfl (by decide) mR_203 rfl trivial
theorem r203_41 : runs cal 203 41 [vR 70, v1, v2, v3, v4] [] I = runs cal 203 42 [vR 70, v1, v2, v3, v4] [vR 70] I := runs_to (ins_of mI_203 (by rfl)) rfl rfl
theorem r203_42 : runs cal 203 42 [v0, v1, v2, v3, v4] [vR 70] I = runs cal 203 43 [v0, v1, v2, v3, v4] [vI (-1), vR 70] I := runs_to (ins_of mI_203 (by rfl)) rfl rfl
theorem r203_43 : runs cal 203 43 [v0, v1, v2, v3, v4] [vI x0, vR 70] I = (cal 201 [vR 70, vI x0] I).bind (fun q => runs cal 203 46 [v0, v1, v2, v3, v4] (pushR q.1 []) q.2) := st_call (st := false) (ins_of mI_203 (by rfl)) mC_203 mr_11_263 (by decide) mS_201 mN_201 rfl (Nat.le_of_ble_eq_true rfl) rfl rfl (Or.inr ⟨_, _, rfl, rcv mC_201 rfl wid_203 (by decide +kernel)⟩) (Or.inl (wid_203.trans wid_201.symm))
theorem r203_46 : runs cal 203 46 [v0, v1, v2, vI u, v4] [vI x0] I = runs cal 203 48 [v0, v1, v2, vI u, vI x0] [] I := runs_to (ins_of mI_203 (by rfl)) rfl rfl
theorem r203_48 : runs cal 203 48 [v0, v1, v2, v3, vI w] [] I = runs cal 203 50 [v0, v1, v2, v3, vI w] [vI w] I := runs_to (ins_of mI_203 (by rfl)) rfl rfl
theorem r203_50 : runs cal 203 50 [v0, v1, v2, v3, v4] [vI x0] I = runs cal 203 53 [v0, v1, v2, v3, v4] [vI (1024), vI x0] I := runs_to (ins_of mI_203 (by rfl)) rfl rfl
theorem r203_53 : runs cal 203 53 [v0, v1, v2, v3, v4] [vI x0, vI x1] I = if x1 < x0 then runs cal 203 56 [v0, v1, v2, v3, v4] [] I else runs cal 203 101 [v0, v1, v2, v3, v4] [] I := st_cmp_ge (ins_of mI_203 (by rfl)) (by decide)
theorem r203_56 : runs cal 203 56 [vR 70, v1, v2, v3, v4] [] I = runs cal 203 57 [vR 70, v1, v2, v3, v4] [vR 70] I := runs_to (ins_of mI_203 (by rfl)) rfl rfl
theorem r203_57 : runs cal 203 57 [v0, v1, v2, vI w, v4] [vR 70] I = runs cal 203 58 [v0, v1, v2, vI w, v4] [vI w, vR 70] I := runs_to (ins_of mI_203 (by rfl)) rfl rfl
theorem r203_58 : runs cal 203 58 [v0, v1, v2, v3, v4] [vI x0, vR 70] I = (cal 200 [vR 70, vI x0] I).bind (fun q => runs cal 203 61 [v0, v1, v2, v3, v4] (pushR q.1 []) q.2) := st_call (st := false) (ins_of mI_203 (by rfl)) mC_203 mr_11_260 (by decide) mS_200 mN_200 rfl (Nat.le_of_ble_eq_true rfl) rfl rfl (Or.inr ⟨_, _, rfl, rcv mC_200 rfl wid_203 (by decide +kernel)⟩) (Or.inl (wid_203.trans wid_200.symm))
theorem r203_61 : runs cal 203 61 [vR 70, v1, v2, v3, v4] [] I = runs cal 203 62 [vR 70, v1, v2, v3, v4] [vR 70] I := runs_to (ins_of mI_203 (by rfl)) rfl rfl
theorem r203_62 : runs cal 203 62 [v0, v1, v2, v3, vI w] [vR 70] I = runs cal 203 64 [v0, v1, v2, v3, vI w] [vI w, vR 70] I := runs_to (ins_of mI_203 (by rfl)) rfl rfl
theorem r203_64 : runs cal 203 64 [v0, v1, v2, v3, v4] [vI x0, vR 70] I = (cal 189 [vR 70, vI x0] I).bind (fun q => runs cal 203 67 [v0, v1, v2, v3, v4] (pushR q.1 []) q.2) := st_call (st := false) (ins_of mI_203 (by rfl)) mC_203 mr_11_233 (by decide) mS_189 mN_189 rfl (Nat.le_of_ble_eq_true rfl) rfl rfl (Or.inr ⟨_, _, rfl, rcv mC_189 rfl wid_203 (by decide +kernel)⟩) (Or.inl (wid_203.trans wid_189.symm))
theorem r203_67 : runs cal 203 67 [vR 70, v1, v2, v3, v4] [] I = runs cal 203 68 [vR 70, v1, v2, v3, v4] [vR 70] I := runs_to (ins_of mI_203 (by rfl)) rfl rfl
theorem r203_68 : runs cal 203 68 [v0, v1, v2, v3, v4] [vR 70] I = (cal 192 [vR 70] I).bind (fun q => runs cal 203 71 [v0, v1, v2, v3, v4] (pushR q.1 []) q.2) := st_call (st := false) (ins_of mI_203 (by rfl)) mC_203 mr_11_236 (by decide) mS_192 mN_192 rfl (Nat.le_of_ble_eq_true rfl) rfl rfl (Or.inr ⟨_, _, rfl, rcv mC_192 rfl wid_203 (by decide +kernel)⟩) (Or.inl (wid_203.trans wid_192.symm))
theorem r203_71 : runs cal 203 71 [v0, v1, v2, v3, v4] [vI x0] I = if x0 = 0 then runs cal 203 74 [v0, v1, v2, v3, v4] [] I else runs cal 203 90 [v0, v1, v2, v3, v4] [] I := st_if_ne (ins_of mI_203 (by rfl)) (by decide)
theorem r203_74 : runs cal 203 74 [vR 70, v1, v2, v3, v4] [] I = runs cal 203 75 [vR 70, v1, v2, v3, v4] [vR 70] I := runs_to (ins_of mI_203 (by rfl)) rfl rfl
theorem r203_75 : runs cal 203 75 [vR 70, v1, v2, v3, v4] [vR 70] I = runs cal 203 76 [vR 70, v1, v2, v3, v4] [vR 70, vR 70] I := runs_to (ins_of mI_203 (by rfl)) rfl rfl
theorem r203_76 : runs cal 203 76 [v0, v1, v2, v3, v4] [vR 70, vR 70] I = (cal 199 [vR 70] I).bind (fun q => runs cal 203 79 [v0, v1, v2, v3, v4] (pushR q.1 [vR 70]) q.2) := st_call (st := false) (ins_of mI_203 (by rfl)) mC_203 mr_11_266 (by decide) mS_199 mN_199 rfl (Nat.le_of_ble_eq_true rfl) rfl rfl (Or.inr ⟨_, _, rfl, rcv mC_199 rfl wid_203 (by decide +kernel)⟩) (Or.inl (wid_203.trans wid_199.symm))
theorem r203_79 : runs cal 203 79 [vR 70, v1, v2, v3, v4] [vI x0, vR 70] I = runs cal 203 80 [vR 70, v1, v2, v3, v4] [vR 70, vI x0, vR 70] I := runs_to (ins_of mI_203 (by rfl)) rfl rfl
theorem r203_80 : runs cal 203 80 [v0, v1, v2, v3, v4] [vR 70, vI x1, vR 70] I = runs cal 203 83 [v0, v1, v2, v3, v4] [vR 81, vI x1, vR 70] I := st_getR (ins_of mI_203 (by rfl)) mC_203 (by decide) fr_11_43 cT_70 (wdc wid_203 wd_70) rfl rfl
theorem r203_83 : runs cal 203 83 [v0, v1, v2, vI w, v4] [vR 81, vI x1, vR 70] I = runs cal 203 84 [v0, v1, v2, vI w, v4] [vI w, vR 81, vI x1, vR 70] I := runs_to (ins_of mI_203 (by rfl)) rfl rfl
theorem r203_84 : runs cal 203 84 [v0, v1, v2, v3, v4] [vI x0, vR 81, vI x2, vR 70] I = if 0 ≤ x0 ∧ x0 < 73728 then runs cal 203 85 [v0, v1, v2, v3, v4] [vI (I 81 x0), vI x2, vR 70] I else none := st_iald (ins_of mI_203 (by rfl)) cT_81 (wdc wid_203 wd_81)
theorem r203_85 : runs cal 203 85 [v0, v1, v2, v3, v4] [vI x0, vI x1, vR 70] I = runs cal 203 86 [v0, v1, v2, v3, v4] [vI (1), vI x0, vI x1, vR 70] I := runs_to (ins_of mI_203 (by rfl)) rfl rfl
theorem r203_86 : runs cal 203 86 [v0, v1, v2, v3, v4] [vI x0, vI x1, vI x2, vR 70] I = runs cal 203 87 [v0, v1, v2, v3, v4] [vI (iadd x1 x0), vI x2, vR 70] I := runs_to (ins_of mI_203 (by rfl)) rfl rfl
theorem r203_87 : runs cal 203 87 [v0, v1, v2, v3, v4] [vI x0, vI x1, vR 70] I = (cal 204 [vR 70, vI x1, vI x0] I).bind (fun q => runs cal 203 90 [v0, v1, v2, v3, v4] (pushR q.1 []) q.2) := st_call (st := false) (ins_of mI_203 (by rfl)) mC_203 mr_11_269 (by decide) mS_204 mN_204 rfl (Nat.le_of_ble_eq_true rfl) rfl rfl (Or.inr ⟨_, _, rfl, rcv mC_204 rfl wid_203 (by decide +kernel)⟩) (Or.inl (wid_203.trans wid_204.symm))
theorem r203_90 : runs cal 203 90 [vR 70, v1, v2, v3, v4] [] I = runs cal 203 91 [vR 70, v1, v2, v3, v4] [vR 70] I := runs_to (ins_of mI_203 (by rfl)) rfl rfl
theorem r203_91 : runs cal 203 91 [v0, v1, v2, v3, vI w] [vR 70] I = runs cal 203 93 [v0, v1, v2, v3, vI w] [vI w, vR 70] I := runs_to (ins_of mI_203 (by rfl)) rfl rfl
theorem r203_93 : runs cal 203 93 [v0, v1, v2, v3, v4] [vI x0, vR 70] I = (cal 201 [vR 70, vI x0] I).bind (fun q => runs cal 203 96 [v0, v1, v2, v3, v4] (pushR q.1 []) q.2) := st_call (st := false) (ins_of mI_203 (by rfl)) mC_203 mr_11_263 (by decide) mS_201 mN_201 rfl (Nat.le_of_ble_eq_true rfl) rfl rfl (Or.inr ⟨_, _, rfl, rcv mC_201 rfl wid_203 (by decide +kernel)⟩) (Or.inl (wid_203.trans wid_201.symm))
theorem r203_96 : runs cal 203 96 [v0, v1, v2, vI u, v4] [vI x0] I = runs cal 203 98 [v0, v1, v2, vI u, vI x0] [] I := runs_to (ins_of mI_203 (by rfl)) rfl rfl
theorem r203_98 : runs cal 203 98 [v0, v1, v2, v3, v4] [] I = runs cal 203 48 [v0, v1, v2, v3, v4] [] I := st_goto (ins_of mI_203 (by rfl)) (by decide)
theorem r203_101 : runs cal 203 101 [v0, vI u, vI w, v3, v4] [] I = runs cal 203 104 [v0, vI u, vI (iadd w (1)), v3, v4] [] I := runs_to (ins_of mI_203 (by rfl)) rfl rfl
theorem r203_104 : runs cal 203 104 [v0, v1, v2, v3, v4] [] I = runs cal 203 7 [v0, v1, v2, v3, v4] [] I := st_goto (ins_of mI_203 (by rfl)) (by decide)
theorem r203_107 : runs cal 203 107 [v0, v1, v2, v3, v4] [] I = runs cal 203 108 [v0, v1, v2, v3, v4] [vI (-1)] I := runs_to (ins_of mI_203 (by rfl)) rfl rfl
theorem r203_108 : runs cal 203 108 [v0, v1, v2, v3, v4] [vI x0] I = some (some (vI x0), I) := st_ret (q := some (vI x0)) (k := 0) (ins_of mI_203 (by rfl)) rfl (by decide) mR_203 rfl trivial
theorem r204_0 : runs cal 204 0 [vR 70, v1, v2] [] I = runs cal 204 1 [vR 70, v1, v2] [vR 70] I := runs_to (ins_of mI_204 (by rfl)) rfl rfl
theorem r204_1 : runs cal 204 1 [v0, v1, v2] [vR 70] I = runs cal 204 4 [v0, v1, v2] [vR 81] I := st_getR (ins_of mI_204 (by rfl)) mC_204 (by decide) fr_11_43 cT_70 (wdc wid_204 wd_70) rfl rfl
theorem r204_4 : runs cal 204 4 [v0, vI w, v2] [vR 81] I = runs cal 204 5 [v0, vI w, v2] [vI w, vR 81] I := runs_to (ins_of mI_204 (by rfl)) rfl rfl
theorem r204_5 : runs cal 204 5 [v0, v1, v2] [vI x0, vR 81] I = if 0 ≤ x0 ∧ x0 < 73728 then runs cal 204 6 [v0, v1, v2] [vI (I 81 x0)] I else none := st_iald (ins_of mI_204 (by rfl)) cT_81 (wdc wid_204 wd_81)
theorem r204_6 : runs cal 204 6 [v0, v1, v2] [vI x0] I = runs cal 204 7 [v0, v1, v2] [vI (-1), vI x0] I := runs_to (ins_of mI_204 (by rfl)) rfl rfl
theorem r204_7 : runs cal 204 7 [v0, v1, v2] [vI x0, vI x1] I = if x1 = x0 then runs cal 204 10 [v0, v1, v2] [] I else runs cal 204 37 [v0, v1, v2] [] I := st_cmp_ne (ins_of mI_204 (by rfl)) (by decide)
theorem r204_10 : runs cal 204 10 [vR 70, v1, v2] [] I = runs cal 204 11 [vR 70, v1, v2] [vR 70] I := runs_to (ins_of mI_204 (by rfl)) rfl rfl
theorem r204_11 : runs cal 204 11 [v0, v1, v2] [vR 70] I = runs cal 204 14 [v0, v1, v2] [vR 81] I := st_getR (ins_of mI_204 (by rfl)) mC_204 (by decide) fr_11_43 cT_70 (wdc wid_204 wd_70) rfl rfl
theorem r204_14 : runs cal 204 14 [v0, vI w, v2] [vR 81] I = runs cal 204 15 [v0, vI w, v2] [vI w, vR 81] I := runs_to (ins_of mI_204 (by rfl)) rfl rfl
theorem r204_15 : runs cal 204 15 [v0, v1, vI w] [vI x0, vR 81] I = runs cal 204 16 [v0, v1, vI w] [vI w, vI x0, vR 81] I := runs_to (ins_of mI_204 (by rfl)) rfl rfl
theorem r204_16 : runs cal 204 16 [v0, v1, v2] [vI x0, vI x1, vR 81] I = if 0 ≤ x1 ∧ x1 < 73728 then runs cal 204 17 [v0, v1, v2] [] (mset I 81 x1 x0) else none := st_iast (ins_of mI_204 (by rfl)) cT_81 (wdc wid_204 wd_81)
theorem r204_17 : runs cal 204 17 [vR 70, v1, v2] [] I = runs cal 204 18 [vR 70, v1, v2] [vR 70] I := runs_to (ins_of mI_204 (by rfl)) rfl rfl
theorem r204_18 : runs cal 204 18 [v0, v1, v2] [vR 70] I = runs cal 204 21 [v0, v1, v2] [vR 82] I := st_getR (ins_of mI_204 (by rfl)) mC_204 (by decide) fr_11_46 cT_70 (wdc wid_204 wd_70) rfl rfl
theorem r204_21 : runs cal 204 21 [vR 70, v1, v2] [vR 82] I = runs cal 204 22 [vR 70, v1, v2] [vR 70, vR 82] I := runs_to (ins_of mI_204 (by rfl)) rfl rfl
theorem r204_22 : runs cal 204 22 [v0, v1, v2] [vR 70, vR 82] I = runs cal 204 25 [v0, v1, v2] [vI (I 70 18), vR 82] I := st_getI (ins_of mI_204 (by rfl)) mC_204 (by decide) fr_11_254 cT_70 (wdc wid_204 wd_70) (Or.inl rfl)
theorem r204_25 : runs cal 204 25 [v0, vI w, v2] [vI x0, vR 82] I = runs cal 204 26 [v0, vI w, v2] [vI w, vI x0, vR 82] I := runs_to (ins_of mI_204 (by rfl)) rfl rfl
theorem r204_26 : runs cal 204 26 [v0, v1, v2] [vI x0, vI x1, vR 82] I = if 0 ≤ x1 ∧ x1 < 73728 then runs cal 204 27 [v0, v1, v2] [] (mset I 82 x1 x0) else none := st_iast (ins_of mI_204 (by rfl)) cT_82 (wdc wid_204 wd_82)
theorem r204_27 : runs cal 204 27 [vR 70, v1, v2] [] I = runs cal 204 28 [vR 70, v1, v2] [vR 70] I := runs_to (ins_of mI_204 (by rfl)) rfl rfl
theorem r204_28 : runs cal 204 28 [v0, v1, v2] [vR 70] I = runs cal 204 29 [v0, v1, v2] [vR 70, vR 70] I := runs_to (ins_of mI_204 (by rfl)) rfl rfl
theorem r204_29 : runs cal 204 29 [v0, v1, v2] [vR 70, vR 70] I = runs cal 204 32 [v0, v1, v2] [vI (I 70 18), vR 70] I := st_getI (ins_of mI_204 (by rfl)) mC_204 (by decide) fr_11_254 cT_70 (wdc wid_204 wd_70) (Or.inl rfl)
theorem r204_32 : runs cal 204 32 [v0, v1, v2] [vI x0, vR 70] I = runs cal 204 33 [v0, v1, v2] [vI (1), vI x0, vR 70] I := runs_to (ins_of mI_204 (by rfl)) rfl rfl
theorem r204_33 : runs cal 204 33 [v0, v1, v2] [vI x0, vI x1, vR 70] I = runs cal 204 34 [v0, v1, v2] [vI (iadd x1 x0), vR 70] I := runs_to (ins_of mI_204 (by rfl)) rfl rfl
theorem r204_34 : runs cal 204 34 [v0, v1, v2] [vI x0, vR 70] I = runs cal 204 37 [v0, v1, v2] [] (mset I 70 18 x0) := st_putI (ins_of mI_204 (by rfl)) mC_204 fr_11_254 cT_70 (wdc wid_204 wd_70) rfl
theorem r204_37 : runs cal 204 37 [v0, v1, v2] [] I = some (none, I) := st_ret (q := none) (k := 3) (ins_of mI_204 (by rfl)) rfl (by decide) mR_204 rfl trivial
theorem r205_0 : runs cal 205 0 [vR 70] [] I = runs cal 205 1 [vR 70] [vR 70] I := runs_to (ins_of mI_205 (by rfl)) rfl rfl
theorem r205_1 : runs cal 205 1 [v0] [vR 70] I = (cal 164 [vR 70] I).bind (fun q => runs cal 205 4 [v0] (pushR q.1 []) q.2) := st_call (st := false) (ins_of mI_205 (by rfl)) mC_205 mr_11_230 (by decide) mS_164 mN_164 rfl (Nat.le_of_ble_eq_true rfl) rfl rfl (Or.inr ⟨_, _, rfl, rcv mC_164 rfl wid_205 (by decide +kernel)⟩) (Or.inl (wid_205.trans wid_164.symm))
theorem r205_4 : runs cal 205 4 [vR 70] [] I = runs cal 205 5 [vR 70] [vR 70] I := runs_to (ins_of mI_205 (by rfl)) rfl rfl
theorem r205_5 : runs cal 205 5 [v0] [vR 70] I = (cal 199 [vR 70] I).bind (fun q => runs cal 205 8 [v0] (pushR q.1 []) q.2) := st_call (st := false) (ins_of mI_205 (by rfl)) mC_205 mr_11_266 (by decide) mS_199 mN_199 rfl (Nat.le_of_ble_eq_true rfl) rfl rfl (Or.inr ⟨_, _, rfl, rcv mC_199 rfl wid_205 (by decide +kernel)⟩) (Or.inl (wid_205.trans wid_199.symm))
theorem r205_8 : runs cal 205 8 [v0] [vI x0] I = some (some (vI x0), I) := st_ret (q := some (vI x0)) (k := 0) (ins_of mI_205 (by rfl)) rfl (by decide) mR_205 rfl trivial
theorem r206_0 : runs cal 206 0 [vR 70] [] I = runs cal 206 1 [vR 70] [vR 70] I := runs_to (ins_of mI_206 (by rfl)) rfl rfl
theorem r206_1 : runs cal 206 1 [vR 70] [vR 70] I = runs cal 206 2 [vR 70] [vR 70, vR 70] I := runs_to (ins_of mI_206 (by rfl)) rfl rfl
theorem r206_2 : runs cal 206 2 [v0] [vR 70, vR 70] I = (cal 205 [vR 70] I).bind (fun q => runs cal 206 5 [v0] (pushR q.1 [vR 70]) q.2) := st_call (st := false) (ins_of mI_206 (by rfl)) mC_206 mr_11_272 (by decide) mS_205 mN_205 rfl (Nat.le_of_ble_eq_true rfl) rfl rfl (Or.inr ⟨_, _, rfl, rcv mC_205 rfl wid_206 (by decide +kernel)⟩) (Or.inl (wid_206.trans wid_205.symm))
theorem r206_5 : runs cal 206 5 [v0] [vI x0, vR 70] I = (cal 203 [vR 70, vI x0] I).bind (fun q => runs cal 206 8 [v0] (pushR q.1 []) q.2) := st_call (st := false) (ins_of mI_206 (by rfl)) mC_206 mr_11_275 (by decide) mS_203 mN_203 rfl (Nat.le_of_ble_eq_true rfl) rfl rfl (Or.inr ⟨_, _, rfl, rcv mC_203 rfl wid_206 (by decide +kernel)⟩) (Or.inl (wid_206.trans wid_203.symm))
theorem r206_8 : runs cal 206 8 [v0] [vI x0] I = some (some (vI x0), I) := st_ret (q := some (vI x0)) (k := 0) (ins_of mI_206 (by rfl)) rfl (by decide) mR_206 rfl trivial
theorem r207_0 : runs cal 207 0 [vR 70, v1, v2, v3, v4] [] I = runs cal 207 1 [vR 70, v1, v2, v3, v4] [vR 70] I := runs_to (ins_of mI_207 (by rfl)) rfl rfl
theorem r207_1 : runs cal 207 1 [v0, v1, v2, v3, v4] [vR 70] I = runs cal 207 4 [v0, v1, v2, v3, v4] [vI (I 70 18)] I := st_getI (ins_of mI_207 (by rfl)) mC_207 (by decide) fr_11_254 cT_70 (wdc wid_207 wd_70) (Or.inl rfl)
theorem r207_4 : runs cal 207 4 [v0, v1, v2, v3, v4] [vI x0] I = runs cal 207 5 [v0, v1, v2, v3, v4] [vI (1), vI x0] I := runs_to (ins_of mI_207 (by rfl)) rfl rfl
theorem r207_5 : runs cal 207 5 [v0, v1, v2, v3, v4] [vI x0, vI x1] I = runs cal 207 6 [v0, v1, v2, v3, v4] [vI (isub x1 x0)] I := runs_to (ins_of mI_207 (by rfl)) rfl rfl
theorem r207_6 : runs cal 207 6 [v0, vI u, v2, v3, v4] [vI x0] I = runs cal 207 7 [v0, vI u, vI x0, v3, v4] [] I := runs_to (ins_of mI_207 (by rfl)) rfl rfl
theorem r207_7 : runs cal 207 7 [v0, v1, vI w, v3, v4] [] I = runs cal 207 8 [v0, v1, vI w, v3, v4] [vI w] I := runs_to (ins_of mI_207 (by rfl)) rfl rfl
theorem r207_8 : runs cal 207 8 [v0, v1, v2, v3, v4] [vI x0] I = if x0 < 0 then runs cal 207 115 [v0, v1, v2, v3, v4] [] I else runs cal 207 11 [v0, v1, v2, v3, v4] [] I := st_if_lt (ins_of mI_207 (by rfl)) (by decide)
theorem r207_11 : runs cal 207 11 [vR 70, v1, v2, v3, v4] [] I = runs cal 207 12 [vR 70, v1, v2, v3, v4] [vR 70] I := runs_to (ins_of mI_207 (by rfl)) rfl rfl
theorem r207_12 : runs cal 207 12 [v0, v1, v2, v3, v4] [vR 70] I = runs cal 207 15 [v0, v1, v2, v3, v4] [vR 82] I := st_getR (ins_of mI_207 (by rfl)) mC_207 (by decide) fr_11_46 cT_70 (wdc wid_207 wd_70) rfl rfl
theorem r207_15 : runs cal 207 15 [v0, v1, vI w, v3, v4] [vR 82] I = runs cal 207 16 [v0, v1, vI w, v3, v4] [vI w, vR 82] I := runs_to (ins_of mI_207 (by rfl)) rfl rfl
theorem r207_16 : runs cal 207 16 [v0, v1, v2, v3, v4] [vI x0, vR 82] I = if 0 ≤ x0 ∧ x0 < 73728 then runs cal 207 17 [v0, v1, v2, v3, v4] [vI (I 82 x0)] I else none := st_iald (ins_of mI_207 (by rfl)) cT_82 (wdc wid_207 wd_82)
theorem r207_17 : runs cal 207 17 [v0, v1, vI u, v3, v4] [vI x0] I = runs cal 207 18 [v0, v1, vI u, vI x0, v4] [] I := runs_to (ins_of mI_207 (by rfl)) rfl rfl
theorem r207_18 : runs cal 207 18 [vR 70, v1, v2, v3, v4] [] I = runs cal 207 19 [vR 70, v1, v2, v3, v4] [vR 70] I := runs_to (ins_of mI_207 (by rfl)) rfl rfl
theorem r207_19 : runs cal 207 19 [v0, v1, v2, vI w, v4] [vR 70] I = runs cal 207 20 [v0, v1, v2, vI w, v4] [vI w, vR 70] I := runs_to (ins_of mI_207 (by rfl)) rfl rfl
theorem r207_20 : runs cal 207 20 [v0, v1, v2, v3, v4] [vI x0, vR 70] I = (cal 200 [vR 70, vI x0] I).bind (fun q => runs cal 207 23 [v0, v1, v2, v3, v4] (pushR q.1 []) q.2) := st_call (st := false) (ins_of mI_207 (by rfl)) mC_207 mr_11_260 (by decide) mS_200 mN_200 rfl (Nat.le_of_ble_eq_true rfl) rfl rfl (Or.inr ⟨_, _, rfl, rcv mC_200 rfl wid_207 (by decide +kernel)⟩) (Or.inl (wid_207.trans wid_200.symm))
theorem r207_23 : runs cal 207 23 [vR 70, v1, v2, v3, v4] [] I = runs cal 207 24 [vR 70, v1, v2, v3, v4] [vR 70] I := runs_to (ins_of mI_207 (by rfl)) rfl rfl
theorem r207_24 : runs cal 207 24 [v0, v1, v2, v3, v4] [vR 70] I = runs cal 207 27 [v0, v1, v2, v3, v4] [vR 83] I := st_getR (ins_of mI_207 (by rfl)) mC_207 (by decide) fr_11_49 cT_70 (wdc wid_207 wd_70) rfl rfl
theorem r207_27 : runs cal 207 27 [v0, v1, v2, vI w, v4] [vR 83] I = runs cal 207 28 [v0, v1, v2, vI w, v4] [vI w, vR 83] I := runs_to (ins_of mI_207 (by rfl)) rfl rfl
theorem r207_28 : runs cal 207 28 [vR 70, v1, v2, v3, v4] [vI x0, vR 83] I = runs cal 207 29 [vR 70, v1, v2, v3, v4] [vR 70, vI x0, vR 83] I := runs_to (ins_of mI_207 (by rfl)) rfl rfl
theorem r207_29 : runs cal 207 29 [v0, v1, v2, v3, v4] [vR 70, vI x1, vR 83] I = runs cal 207 32 [v0, v1, v2, v3, v4] [vR 81, vI x1, vR 83] I := st_getR (ins_of mI_207 (by rfl)) mC_207 (by decide) fr_11_43 cT_70 (wdc wid_207 wd_70) rfl rfl
theorem r207_32 : runs cal 207 32 [v0, v1, v2, vI w, v4] [vR 81, vI x1, vR 83] I = runs cal 207 33 [v0, v1, v2, vI w, v4] [vI w, vR 81, vI x1, vR 83] I := runs_to (ins_of mI_207 (by rfl)) rfl rfl
theorem r207_33 : runs cal 207 33 [v0, v1, v2, v3, v4] [vI x0, vR 81, vI x2, vR 83] I = if 0 ≤ x0 ∧ x0 < 73728 then runs cal 207 34 [v0, v1, v2, v3, v4] [vI (I 81 x0), vI x2, vR 83] I else none := st_iald (ins_of mI_207 (by rfl)) cT_81 (wdc wid_207 wd_81)
theorem r207_34 : runs cal 207 34 [v0, vI w, v2, v3, v4] [vI x0, vI x1, vR 83] I = runs cal 207 35 [v0, vI w, v2, v3, v4] [vI w, vI x0, vI x1, vR 83] I := runs_to (ins_of mI_207 (by rfl)) rfl rfl
theorem r207_35 : runs cal 207 35 [v0, v1, v2, v3, v4] [vI x0, vI x1, vI x2, vR 83] I = if x1 = x0 then runs cal 207 38 [v0, v1, v2, v3, v4] [vI x2, vR 83] I else runs cal 207 49 [v0, v1, v2, v3, v4] [vI x2, vR 83] I := st_cmp_ne (ins_of mI_207 (by rfl)) (by decide)
theorem r207_38 : runs cal 207 38 [vR 70, v1, v2, v3, v4] [vI x0, vR 83] I = runs cal 207 39 [vR 70, v1, v2, v3, v4] [vR 70, vI x0, vR 83] I := runs_to (ins_of mI_207 (by rfl)) rfl rfl
theorem r207_39 : runs cal 207 39 [v0, v1, v2, v3, v4] [vR 70, vI x1, vR 83] I = (cal 178 [vR 70] I).bind (fun q => runs cal 207 42 [v0, v1, v2, v3, v4] (pushR q.1 [vI x1, vR 83]) q.2) := st_call (st := false) (ins_of mI_207 (by rfl)) mC_207 mr_11_248 (by decide) mS_178 mN_178 rfl (Nat.le_of_ble_eq_true rfl) rfl rfl (Or.inr ⟨_, _, rfl, rcv mC_178 rfl wid_207 (by decide +kernel)⟩) (Or.inl (wid_207.trans wid_178.symm))
theorem r207_42 : runs cal 207 42 [v0, v1, v2, v3, v4] [vI x0, vI x1, vR 83] I = if x0 = 0 then runs cal 207 49 [v0, v1, v2, v3, v4] [vI x1, vR 83] I else runs cal 207 45 [v0, v1, v2, v3, v4] [vI x1, vR 83] I := st_if_eq (ins_of mI_207 (by rfl)) (by decide)
theorem r207_45 : runs cal 207 45 [v0, v1, v2, v3, v4] [vI x0, vR 83] I = runs cal 207 46 [v0, v1, v2, v3, v4] [vI (1), vI x0, vR 83] I := runs_to (ins_of mI_207 (by rfl)) rfl rfl
theorem r207_46 : runs cal 207 46 [v0, v1, v2, v3, v4] [vI x0, vI x1, vR 83] I = runs cal 207 50 [v0, v1, v2, v3, v4] [vI x0, vI x1, vR 83] I := st_goto (ins_of mI_207 (by rfl)) (by decide)
theorem r207_49 : runs cal 207 49 [v0, v1, v2, v3, v4] [vI x0, vR 83] I = runs cal 207 50 [v0, v1, v2, v3, v4] [vI (0), vI x0, vR 83] I := runs_to (ins_of mI_207 (by rfl)) rfl rfl
theorem r207_50 : runs cal 207 50 [v0, v1, v2, v3, v4] [vI x0, vI x1, vR 83] I = if 0 ≤ x1 ∧ x1 < 73728 ∧ (x0 = 0 ∨ x0 = 1) then runs cal 207 51 [v0, v1, v2, v3, v4] [] (mset I 83 x1 x0) else none := st_zast (ins_of mI_207 (by rfl)) cT_83 (wdc wid_207 wd_83)
theorem r207_51 : runs cal 207 51 [vR 70, v1, v2, v3, v4] [] I = runs cal 207 52 [vR 70, v1, v2, v3, v4] [vR 70] I := runs_to (ins_of mI_207 (by rfl)) rfl rfl
theorem r207_52 : runs cal 207 52 [v0, v1, v2, v3, v4] [vR 70] I = runs cal 207 53 [v0, v1, v2, v3, v4] [vI (-1), vR 70] I := runs_to (ins_of mI_207 (by rfl)) rfl rfl
theorem r207_53 : runs cal 207 53 [v0, v1, v2, v3, v4] [vI x0, vR 70] I = (cal 201 [vR 70, vI x0] I).bind (fun q => runs cal 207 56 [v0, v1, v2, v3, v4] (pushR q.1 []) q.2) := st_call (st := false) (ins_of mI_207 (by rfl)) mC_207 mr_11_263 (by decide) mS_201 mN_201 rfl (Nat.le_of_ble_eq_true rfl) rfl rfl (Or.inr ⟨_, _, rfl, rcv mC_201 rfl wid_207 (by decide +kernel)⟩) (Or.inl (wid_207.trans wid_201.symm))
theorem r207_56 : runs cal 207 56 [v0, v1, v2, vI u, v4] [vI x0] I = runs cal 207 58 [v0, v1, v2, vI u, vI x0] [] I := runs_to (ins_of mI_207 (by rfl)) rfl rfl
theorem r207_58 : runs cal 207 58 [v0, v1, v2, v3, vI w] [] I = runs cal 207 60 [v0, v1, v2, v3, vI w] [vI w] I := runs_to (ins_of mI_207 (by rfl)) rfl rfl
theorem r207_60 : runs cal 207 60 [v0, v1, v2, v3, v4] [vI x0] I = runs cal 207 63 [v0, v1, v2, v3, v4] [vI (1024), vI x0] I := runs_to (ins_of mI_207 (by rfl)) rfl rfl
theorem r207_63 : runs cal 207 63 [v0, v1, v2, v3, v4] [vI x0, vI x1] I = if x1 < x0 then runs cal 207 66 [v0, v1, v2, v3, v4] [] I else runs cal 207 109 [v0, v1, v2, v3, v4] [] I := st_cmp_ge (ins_of mI_207 (by rfl)) (by decide)
theorem r207_66 : runs cal 207 66 [vR 70, v1, v2, v3, v4] [] I = runs cal 207 67 [vR 70, v1, v2, v3, v4] [vR 70] I := runs_to (ins_of mI_207 (by rfl)) rfl rfl
theorem r207_67 : runs cal 207 67 [v0, v1, v2, v3, v4] [vR 70] I = runs cal 207 70 [v0, v1, v2, v3, v4] [vR 81] I := st_getR (ins_of mI_207 (by rfl)) mC_207 (by decide) fr_11_43 cT_70 (wdc wid_207 wd_70) rfl rfl
theorem r207_70 : runs cal 207 70 [v0, v1, v2, vI w, v4] [vR 81] I = runs cal 207 71 [v0, v1, v2, vI w, v4] [vI w, vR 81] I := runs_to (ins_of mI_207 (by rfl)) rfl rfl
theorem r207_71 : runs cal 207 71 [v0, v1, v2, v3, v4] [vI x0, vR 81] I = if 0 ≤ x0 ∧ x0 < 73728 then runs cal 207 72 [v0, v1, v2, v3, v4] [vI (I 81 x0)] I else none := st_iald (ins_of mI_207 (by rfl)) cT_81 (wdc wid_207 wd_81)
theorem r207_72 : runs cal 207 72 [v0, vI w, v2, v3, v4] [vI x0] I = runs cal 207 73 [v0, vI w, v2, v3, v4] [vI w, vI x0] I := runs_to (ins_of mI_207 (by rfl)) rfl rfl
theorem r207_73 : runs cal 207 73 [v0, v1, v2, v3, v4] [vI x0, vI x1] I = if x1 < x0 then runs cal 207 76 [v0, v1, v2, v3, v4] [] I else runs cal 207 109 [v0, v1, v2, v3, v4] [] I := st_cmp_ge (ins_of mI_207 (by rfl)) (by decide)
theorem r207_76 : runs cal 207 76 [vR 70, v1, v2, v3, v4] [] I = runs cal 207 77 [vR 70, v1, v2, v3, v4] [vR 70] I := runs_to (ins_of mI_207 (by rfl)) rfl rfl
theorem r207_77 : runs cal 207 77 [v0, v1, v2, v3, v4] [vR 70] I = runs cal 207 80 [v0, v1, v2, v3, v4] [vR 83] I := st_getR (ins_of mI_207 (by rfl)) mC_207 (by decide) fr_11_49 cT_70 (wdc wid_207 wd_70) rfl rfl
theorem r207_80 : runs cal 207 80 [v0, v1, v2, vI w, v4] [vR 83] I = runs cal 207 81 [v0, v1, v2, vI w, v4] [vI w, vR 83] I := runs_to (ins_of mI_207 (by rfl)) rfl rfl
theorem r207_81 : runs cal 207 81 [v0, v1, v2, v3, v4] [vI x0, vR 83] I = if 0 ≤ x0 ∧ x0 < 73728 then runs cal 207 82 [v0, v1, v2, v3, v4] [vI (I 83 x0)] I else none := st_zald (ins_of mI_207 (by rfl)) cT_83 (wdc wid_207 wd_83)
theorem r207_82 : runs cal 207 82 [v0, v1, v2, v3, v4] [vI x0] I = if x0 = 0 then runs cal 207 85 [v0, v1, v2, v3, v4] [] I else runs cal 207 109 [v0, v1, v2, v3, v4] [] I := st_if_ne (ins_of mI_207 (by rfl)) (by decide)
theorem r207_85 : runs cal 207 85 [vR 70, v1, v2, v3, v4] [] I = runs cal 207 86 [vR 70, v1, v2, v3, v4] [vR 70] I := runs_to (ins_of mI_207 (by rfl)) rfl rfl
theorem r207_86 : runs cal 207 86 [v0, v1, v2, v3, v4] [vR 70] I = runs cal 207 89 [v0, v1, v2, v3, v4] [vR 83] I := st_getR (ins_of mI_207 (by rfl)) mC_207 (by decide) fr_11_49 cT_70 (wdc wid_207 wd_70) rfl rfl
theorem r207_89 : runs cal 207 89 [v0, v1, v2, vI w, v4] [vR 83] I = runs cal 207 90 [v0, v1, v2, vI w, v4] [vI w, vR 83] I := runs_to (ins_of mI_207 (by rfl)) rfl rfl
theorem r207_90 : runs cal 207 90 [vR 70, v1, v2, v3, v4] [vI x0, vR 83] I = runs cal 207 91 [vR 70, v1, v2, v3, v4] [vR 70, vI x0, vR 83] I := runs_to (ins_of mI_207 (by rfl)) rfl rfl
theorem r207_91 : runs cal 207 91 [v0, v1, v2, vI w, v4] [vR 70, vI x1, vR 83] I = runs cal 207 92 [v0, v1, v2, vI w, v4] [vI w, vR 70, vI x1, vR 83] I := runs_to (ins_of mI_207 (by rfl)) rfl rfl
theorem r207_92 : runs cal 207 92 [v0, v1, v2, v3, vI w] [vI x0, vR 70, vI x2, vR 83] I = runs cal 207 94 [v0, v1, v2, v3, vI w] [vI w, vI x0, vR 70, vI x2, vR 83] I := runs_to (ins_of mI_207 (by rfl)) rfl rfl
theorem r207_94 : runs cal 207 94 [v0, v1, v2, v3, v4] [vI x0, vI x1, vR 70, vI x3, vR 83] I = (cal 208 [vR 70, vI x1, vI x0] I).bind (fun q => runs cal 207 97 [v0, v1, v2, v3, v4] (pushR q.1 [vI x3, vR 83]) q.2) := st_call (st := false) (ins_of mI_207 (by rfl)) mC_207 mr_11_278 (by decide) mS_208 mN_208 rfl (Nat.le_of_ble_eq_true rfl) rfl rfl (Or.inr ⟨_, _, rfl, rcv mC_208 rfl wid_207 (by decide +kernel)⟩) (Or.inl (wid_207.trans wid_208.symm))
theorem r207_97 : runs cal 207 97 [v0, v1, v2, v3, v4] [vI x0, vI x1, vR 83] I = if 0 ≤ x1 ∧ x1 < 73728 ∧ (x0 = 0 ∨ x0 = 1) then runs cal 207 98 [v0, v1, v2, v3, v4] [] (mset I 83 x1 x0) else none := st_zast (ins_of mI_207 (by rfl)) cT_83 (wdc wid_207 wd_83)
theorem r207_98 : runs cal 207 98 [vR 70, v1, v2, v3, v4] [] I = runs cal 207 99 [vR 70, v1, v2, v3, v4] [vR 70] I := runs_to (ins_of mI_207 (by rfl)) rfl rfl
theorem r207_99 : runs cal 207 99 [v0, v1, v2, v3, vI w] [vR 70] I = runs cal 207 101 [v0, v1, v2, v3, vI w] [vI w, vR 70] I := runs_to (ins_of mI_207 (by rfl)) rfl rfl
theorem r207_101 : runs cal 207 101 [v0, v1, v2, v3, v4] [vI x0, vR 70] I = (cal 201 [vR 70, vI x0] I).bind (fun q => runs cal 207 104 [v0, v1, v2, v3, v4] (pushR q.1 []) q.2) := st_call (st := false) (ins_of mI_207 (by rfl)) mC_207 mr_11_263 (by decide) mS_201 mN_201 rfl (Nat.le_of_ble_eq_true rfl) rfl rfl (Or.inr ⟨_, _, rfl, rcv mC_201 rfl wid_207 (by decide +kernel)⟩) (Or.inl (wid_207.trans wid_201.symm))
theorem r207_104 : runs cal 207 104 [v0, v1, v2, vI u, v4] [vI x0] I = runs cal 207 106 [v0, v1, v2, vI u, vI x0] [] I := runs_to (ins_of mI_207 (by rfl)) rfl rfl
theorem r207_106 : runs cal 207 106 [v0, v1, v2, v3, v4] [] I = runs cal 207 58 [v0, v1, v2, v3, v4] [] I := st_goto (ins_of mI_207 (by rfl)) (by decide)
theorem r207_109 : runs cal 207 109 [v0, vI u, vI w, v3, v4] [] I = runs cal 207 112 [v0, vI u, vI (iadd w (-1)), v3, v4] [] I := runs_to (ins_of mI_207 (by rfl)) rfl rfl
theorem r207_112 : runs cal 207 112 [v0, v1, v2, v3, v4] [] I = runs cal 207 7 [v0, v1, v2, v3, v4] [] I := st_goto (ins_of mI_207 (by rfl)) (by decide)
theorem r207_115 : runs cal 207 115 [v0, v1, v2, v3, v4] [] I = some (none, I) := st_ret (q := none) (k := 3) (ins_of mI_207 (by rfl)) rfl (by decide) mR_207 rfl trivial
theorem r208_0 : runs cal 208 0 [vR 70, v1, v2, v3] [] I = runs cal 208 1 [vR 70, v1, v2, v3] [vR 70] I := runs_to (ins_of mI_208 (by rfl)) rfl rfl
theorem r208_1 : runs cal 208 1 [v0, vI w, v2, v3] [vR 70] I = runs cal 208 2 [v0, vI w, v2, v3] [vI w, vR 70] I := runs_to (ins_of mI_208 (by rfl)) rfl rfl
theorem r208_2 : runs cal 208 2 [v0, v1, v2, v3] [vI x0, vR 70] I = (cal 200 [vR 70, vI x0] I).bind (fun q => runs cal 208 5 [v0, v1, v2, v3] (pushR q.1 []) q.2) := st_call (st := false) (ins_of mI_208 (by rfl)) mC_208 mr_11_260 (by decide) mS_200 mN_200 rfl (Nat.le_of_ble_eq_true rfl) rfl rfl (Or.inr ⟨_, _, rfl, rcv mC_200 rfl wid_208 (by decide +kernel)⟩) (Or.inl (wid_208.trans wid_200.symm))
theorem r208_5 : runs cal 208 5 [vR 70, v1, v2, v3] [] I = runs cal 208 6 [vR 70, v1, v2, v3] [vR 70] I := runs_to (ins_of mI_208 (by rfl)) rfl rfl
theorem r208_6 : runs cal 208 6 [v0, v1, vI w, v3] [vR 70] I = runs cal 208 7 [v0, v1, vI w, v3] [vI w, vR 70] I := runs_to (ins_of mI_208 (by rfl)) rfl rfl
theorem r208_7 : runs cal 208 7 [v0, v1, v2, v3] [vI x0, vR 70] I = (cal 189 [vR 70, vI x0] I).bind (fun q => runs cal 208 10 [v0, v1, v2, v3] (pushR q.1 []) q.2) := st_call (st := false) (ins_of mI_208 (by rfl)) mC_208 mr_11_233 (by decide) mS_189 mN_189 rfl (Nat.le_of_ble_eq_true rfl) rfl rfl (Or.inr ⟨_, _, rfl, rcv mC_189 rfl wid_208 (by decide +kernel)⟩) (Or.inl (wid_208.trans wid_189.symm))
theorem r208_10 : runs cal 208 10 [vR 70, v1, v2, v3] [] I = runs cal 208 11 [vR 70, v1, v2, v3] [vR 70] I := runs_to (ins_of mI_208 (by rfl)) rfl rfl
theorem r208_11 : runs cal 208 11 [v0, v1, v2, v3] [vR 70] I = (cal 192 [vR 70] I).bind (fun q => runs cal 208 14 [v0, v1, v2, v3] (pushR q.1 []) q.2) := st_call (st := false) (ins_of mI_208 (by rfl)) mC_208 mr_11_236 (by decide) mS_192 mN_192 rfl (Nat.le_of_ble_eq_true rfl) rfl rfl (Or.inr ⟨_, _, rfl, rcv mC_192 rfl wid_208 (by decide +kernel)⟩) (Or.inl (wid_208.trans wid_192.symm))
theorem r208_14 : runs cal 208 14 [v0, v1, v2, v3] [vI x0] I = if x0 = 0 then runs cal 208 19 [v0, v1, v2, v3] [] I else runs cal 208 17 [v0, v1, v2, v3] [] I := st_if_eq (ins_of mI_208 (by rfl)) (by decide)
theorem r208_17 : runs cal 208 17 [v0, v1, v2, v3] [] I = runs cal 208 18 [v0, v1, v2, v3] [vI (0)] I := runs_to (ins_of mI_208 (by rfl)) rfl rfl
theorem r208_18 : runs cal 208 18 [v0, v1, v2, v3] [vI x0] I = if x0 = 0 ∨ x0 = 1 then some (some (vI x0), I) else none := st_retZ (ins_of mI_208 (by rfl)) mR_208 (Or.inl rfl)
theorem r208_19 : runs cal 208 19 [vR 70, v1, v2, v3] [] I = runs cal 208 20 [vR 70, v1, v2, v3] [vR 70] I := runs_to (ins_of mI_208 (by rfl)) rfl rfl
theorem r208_20 : runs cal 208 20 [v0, v1, v2, v3] [vR 70] I = (cal 199 [vR 70] I).bind (fun q => runs cal 208 23 [v0, v1, v2, v3] (pushR q.1 []) q.2) := st_call (st := false) (ins_of mI_208 (by rfl)) mC_208 mr_11_266 (by decide) mS_199 mN_199 rfl (Nat.le_of_ble_eq_true rfl) rfl rfl (Or.inr ⟨_, _, rfl, rcv mC_199 rfl wid_208 (by decide +kernel)⟩) (Or.inl (wid_208.trans wid_199.symm))
theorem r208_23 : runs cal 208 23 [v0, v1, vI u, v3] [vI x0] I = runs cal 208 24 [v0, v1, vI u, vI x0] [] I := runs_to (ins_of mI_208 (by rfl)) rfl rfl
theorem r208_24 : runs cal 208 24 [vR 70, v1, v2, v3] [] I = runs cal 208 25 [vR 70, v1, v2, v3] [vR 70] I := runs_to (ins_of mI_208 (by rfl)) rfl rfl
theorem r208_25 : runs cal 208 25 [v0, v1, v2, v3] [vR 70] I = runs cal 208 28 [v0, v1, v2, v3] [vR 81] I := st_getR (ins_of mI_208 (by rfl)) mC_208 (by decide) fr_11_43 cT_70 (wdc wid_208 wd_70) rfl rfl
theorem r208_28 : runs cal 208 28 [v0, v1, v2, vI w] [vR 81] I = runs cal 208 29 [v0, v1, v2, vI w] [vI w, vR 81] I := runs_to (ins_of mI_208 (by rfl)) rfl rfl
theorem r208_29 : runs cal 208 29 [v0, v1, v2, v3] [vI x0, vR 81] I = if 0 ≤ x0 ∧ x0 < 73728 then runs cal 208 30 [v0, v1, v2, v3] [vI (I 81 x0)] I else none := st_iald (ins_of mI_208 (by rfl)) cT_81 (wdc wid_208 wd_81)
theorem r208_30 : runs cal 208 30 [vR 70, v1, v2, v3] [vI x0] I = runs cal 208 31 [vR 70, v1, v2, v3] [vR 70, vI x0] I := runs_to (ins_of mI_208 (by rfl)) rfl rfl
theorem r208_31 : runs cal 208 31 [v0, v1, v2, v3] [vR 70, vI x1] I = runs cal 208 34 [v0, v1, v2, v3] [vR 81, vI x1] I := st_getR (ins_of mI_208 (by rfl)) mC_208 (by decide) fr_11_43 cT_70 (wdc wid_208 wd_70) rfl rfl
theorem r208_34 : runs cal 208 34 [v0, vI w, v2, v3] [vR 81, vI x1] I = runs cal 208 35 [v0, vI w, v2, v3] [vI w, vR 81, vI x1] I := runs_to (ins_of mI_208 (by rfl)) rfl rfl
theorem r208_35 : runs cal 208 35 [v0, v1, v2, v3] [vI x0, vR 81, vI x2] I = if 0 ≤ x0 ∧ x0 < 73728 then runs cal 208 36 [v0, v1, v2, v3] [vI (I 81 x0), vI x2] I else none := st_iald (ins_of mI_208 (by rfl)) cT_81 (wdc wid_208 wd_81)
theorem r208_36 : runs cal 208 36 [v0, v1, v2, v3] [vI x0, vI x1] I = runs cal 208 37 [v0, v1, v2, v3] [vI (1), vI x0, vI x1] I := runs_to (ins_of mI_208 (by rfl)) rfl rfl
theorem r208_37 : runs cal 208 37 [v0, v1, v2, v3] [vI x0, vI x1, vI x2] I = runs cal 208 38 [v0, v1, v2, v3] [vI (iadd x1 x0), vI x2] I := runs_to (ins_of mI_208 (by rfl)) rfl rfl
theorem r208_38 : runs cal 208 38 [v0, v1, v2, v3] [vI x0, vI x1] I = if x1 = x0 then runs cal 208 41 [v0, v1, v2, v3] [] I else runs cal 208 54 [v0, v1, v2, v3] [] I := st_cmp_ne (ins_of mI_208 (by rfl)) (by decide)
theorem r208_41 : runs cal 208 41 [vR 70, v1, v2, v3] [] I = runs cal 208 42 [vR 70, v1, v2, v3] [vR 70] I := runs_to (ins_of mI_208 (by rfl)) rfl rfl
theorem r208_42 : runs cal 208 42 [v0, v1, v2, v3] [vR 70] I = runs cal 208 45 [v0, v1, v2, v3] [vR 83] I := st_getR (ins_of mI_208 (by rfl)) mC_208 (by decide) fr_11_49 cT_70 (wdc wid_208 wd_70) rfl rfl
theorem r208_45 : runs cal 208 45 [v0, v1, v2, vI w] [vR 83] I = runs cal 208 46 [v0, v1, v2, vI w] [vI w, vR 83] I := runs_to (ins_of mI_208 (by rfl)) rfl rfl
theorem r208_46 : runs cal 208 46 [v0, v1, v2, v3] [vI x0, vR 83] I = if 0 ≤ x0 ∧ x0 < 73728 then runs cal 208 47 [v0, v1, v2, v3] [vI (I 83 x0)] I else none := st_zald (ins_of mI_208 (by rfl)) cT_83 (wdc wid_208 wd_83)
theorem r208_47 : runs cal 208 47 [v0, v1, v2, v3] [vI x0] I = if x0 = 0 then runs cal 208 54 [v0, v1, v2, v3] [] I else runs cal 208 50 [v0, v1, v2, v3] [] I := st_if_eq (ins_of mI_208 (by rfl)) (by decide)
theorem r208_50 : runs cal 208 50 [v0, v1, v2, v3] [] I = runs cal 208 51 [v0, v1, v2, v3] [vI (1)] I := runs_to (ins_of mI_208 (by rfl)) rfl rfl
theorem r208_51 : runs cal 208 51 [v0, v1, v2, v3] [vI x0] I = runs cal 208 55 [v0, v1, v2, v3] [vI x0] I := st_goto (ins_of mI_208 (by rfl)) (by decide)
theorem r208_54 : runs cal 208 54 [v0, v1, v2, v3] [] I = runs cal 208 55 [v0, v1, v2, v3] [vI (0)] I := runs_to (ins_of mI_208 (by rfl)) rfl rfl
theorem r208_55 : runs cal 208 55 [v0, v1, v2, v3] [vI x0] I = if x0 = 0 ∨ x0 = 1 then some (some (vI x0), I) else none := st_retZ (ins_of mI_208 (by rfl)) mR_208 (Or.inl rfl)
theorem r209_0 : runs cal 209 0 [v0, vI w, v2, v3, v4, v5] [] I = runs cal 209 1 [v0, vI w, v2, v3, v4, v5] [vI w] I := runs_to (ins_of mI_209 (by rfl)) rfl rfl
theorem r209_1 : runs cal 209 1 [v0, v1, v2, v3, v4, v5] [vI x0] I = if x0 < 0 then runs cal 209 4 [v0, v1, v2, v3, v4, v5] [] I else runs cal 209 11 [v0, v1, v2, v3, v4, v5] [] I := st_if_ge (ins_of mI_209 (by rfl)) (by decide)
theorem r209_4 : runs cal 209 4 [vR 70, v1, v2, v3, v4, v5] [] I = runs cal 209 5 [vR 70, v1, v2, v3, v4, v5] [vR 70] I := runs_to (ins_of mI_209 (by rfl)) rfl rfl
theorem r209_5 : runs cal 209 5 [v0, v1, v2, v3, v4, v5] [vR 70] I = runs cal 209 7 [v0, v1, v2, v3, v4, v5] [vI (-10), vR 70] I := runs_to (ins_of mI_209 (by rfl)) rfl rfl
theorem r209_7 : runs cal 209 7 [v0, v1, v2, v3, v4, v5] [vI x0, vR 70] I = (cal 143 [vR 70, vI x0] I).bind (fun q => runs cal 209 10 [v0, v1, v2, v3, v4, v5] (pushR q.1 []) q.2) := st_call (st := false) (ins_of mI_209 (by rfl)) mC_209 mr_11_251 (by decide) mS_143 mN_143 rfl (Nat.le_of_ble_eq_true rfl) rfl rfl (Or.inr ⟨_, _, rfl, rcv mC_143 rfl wid_209 (by decide +kernel)⟩) (Or.inl (wid_209.trans wid_143.symm))
theorem r209_10 : runs cal 209 10 [v0, v1, v2, v3, v4, v5] [vI x0] I = some (some (vI x0), I) := st_ret (q := some (vI x0)) (k := 0) (ins_of mI_209 (by rfl)) rfl (by decide) mR_209 rfl trivial
theorem r209_11 : runs cal 209 11 [vR 70, v1, v2, v3, v4, v5] [] I = runs cal 209 12 [vR 70, v1, v2, v3, v4, v5] [vR 70] I := runs_to (ins_of mI_209 (by rfl)) rfl rfl
theorem r209_12 : runs cal 209 12 [vR 70, v1, v2, v3, v4, v5] [vR 70] I = runs cal 209 13 [vR 70, v1, v2, v3, v4, v5] [vR 70, vR 70] I := runs_to (ins_of mI_209 (by rfl)) rfl rfl
theorem r209_13 : runs cal 209 13 [v0, v1, v2, v3, v4, v5] [vR 70, vR 70] I = (cal 205 [vR 70] I).bind (fun q => runs cal 209 16 [v0, v1, v2, v3, v4, v5] (pushR q.1 [vR 70]) q.2) := st_call (st := false) (ins_of mI_209 (by rfl)) mC_209 mr_11_272 (by decide) mS_205 mN_205 rfl (Nat.le_of_ble_eq_true rfl) rfl rfl (Or.inr ⟨_, _, rfl, rcv mC_205 rfl wid_209 (by decide +kernel)⟩) (Or.inl (wid_209.trans wid_205.symm))
theorem r209_16 : runs cal 209 16 [v0, v1, v2, v3, v4, v5] [vI x0, vR 70] I = (cal 203 [vR 70, vI x0] I).bind (fun q => runs cal 209 19 [v0, v1, v2, v3, v4, v5] (pushR q.1 []) q.2) := st_call (st := false) (ins_of mI_209 (by rfl)) mC_209 mr_11_275 (by decide) mS_203 mN_203 rfl (Nat.le_of_ble_eq_true rfl) rfl rfl (Or.inr ⟨_, _, rfl, rcv mC_203 rfl wid_209 (by decide +kernel)⟩) (Or.inl (wid_209.trans wid_203.symm))
theorem r209_19 : runs cal 209 19 [v0, vI u, v2, v3, v4, v5] [vI x0] I = runs cal 209 20 [v0, vI u, vI x0, v3, v4, v5] [] I := runs_to (ins_of mI_209 (by rfl)) rfl rfl
theorem r209_20 : runs cal 209 20 [v0, vI w, v2, v3, v4, v5] [] I = runs cal 209 21 [v0, vI w, v2, v3, v4, v5] [vI w] I := runs_to (ins_of mI_209 (by rfl)) rfl rfl
theorem r209_21 : runs cal 209 21 [v0, v1, vI w, v3, v4, v5] [vI x0] I = runs cal 209 22 [v0, v1, vI w, v3, v4, v5] [vI w, vI x0] I := runs_to (ins_of mI_209 (by rfl)) rfl rfl
theorem r209_22 : runs cal 209 22 [v0, v1, v2, v3, v4, v5] [vI x0, vI x1] I = if x1 < x0 then runs cal 209 28 [v0, v1, v2, v3, v4, v5] [] I else runs cal 209 25 [v0, v1, v2, v3, v4, v5] [] I := st_cmp_lt (ins_of mI_209 (by rfl)) (by decide)
theorem r209_25 : runs cal 209 25 [v0, v1, v2, v3, v4, v5] [] I = runs cal 209 27 [v0, v1, v2, v3, v4, v5] [vI (-5)] I := runs_to (ins_of mI_209 (by rfl)) rfl rfl
theorem r209_27 : runs cal 209 27 [v0, v1, v2, v3, v4, v5] [vI x0] I = some (some (vI x0), I) := st_ret (q := some (vI x0)) (k := 0) (ins_of mI_209 (by rfl)) rfl (by decide) mR_209 rfl trivial
theorem r209_28 : runs cal 209 28 [v0, v1, v2, v3, v4, v5] [] I = runs cal 209 29 [v0, v1, v2, v3, v4, v5] [vI (0)] I := runs_to (ins_of mI_209 (by rfl)) rfl rfl
theorem r209_29 : runs cal 209 29 [v0, v1, vI u, v3, v4, v5] [vI x0] I = runs cal 209 30 [v0, v1, vI u, vI x0, v4, v5] [] I := runs_to (ins_of mI_209 (by rfl)) rfl rfl
theorem r209_30 : runs cal 209 30 [v0, v1, v2, vI w, v4, v5] [] I = runs cal 209 31 [v0, v1, v2, vI w, v4, v5] [vI w] I := runs_to (ins_of mI_209 (by rfl)) rfl rfl
theorem r209_31 : runs cal 209 31 [v0, v1, v2, v3, v4, v5] [vI x0] I = runs cal 209 33 [v0, v1, v2, v3, v4, v5] [vI (73728), vI x0] I := runs_to (ins_of mI_209 (by rfl)) rfl (by simp only [stepI, ldk, mC_209]; rfl)
theorem r209_33 : runs cal 209 33 [v0, v1, v2, v3, v4, v5] [vI x0, vI x1] I = if x1 < x0 then runs cal 209 36 [v0, v1, v2, v3, v4, v5] [] I else runs cal 209 49 [v0, v1, v2, v3, v4, v5] [] I := st_cmp_ge (ins_of mI_209 (by rfl)) (by decide)
theorem r209_36 : runs cal 209 36 [vR 70, v1, v2, v3, v4, v5] [] I = runs cal 209 37 [vR 70, v1, v2, v3, v4, v5] [vR 70] I := runs_to (ins_of mI_209 (by rfl)) rfl rfl
theorem r209_37 : runs cal 209 37 [v0, v1, v2, v3, v4, v5] [vR 70] I = runs cal 209 40 [v0, v1, v2, v3, v4, v5] [vR 83] I := st_getR (ins_of mI_209 (by rfl)) mC_209 (by decide) fr_11_49 cT_70 (wdc wid_209 wd_70) rfl rfl
theorem r209_40 : runs cal 209 40 [v0, v1, v2, vI w, v4, v5] [vR 83] I = runs cal 209 41 [v0, v1, v2, vI w, v4, v5] [vI w, vR 83] I := runs_to (ins_of mI_209 (by rfl)) rfl rfl
theorem r209_41 : runs cal 209 41 [v0, v1, v2, v3, v4, v5] [vI x0, vR 83] I = runs cal 209 42 [v0, v1, v2, v3, v4, v5] [vI (0), vI x0, vR 83] I := runs_to (ins_of mI_209 (by rfl)) rfl rfl
theorem r209_42 : runs cal 209 42 [v0, v1, v2, v3, v4, v5] [vI x0, vI x1, vR 83] I = if 0 ≤ x1 ∧ x1 < 73728 ∧ (x0 = 0 ∨ x0 = 1) then runs cal 209 43 [v0, v1, v2, v3, v4, v5] [] (mset I 83 x1 x0) else none := st_zast (ins_of mI_209 (by rfl)) cT_83 (wdc wid_209 wd_83)
theorem r209_43 : runs cal 209 43 [v0, v1, vI u, vI w, v4, v5] [] I = runs cal 209 46 [v0, v1, vI u, vI (iadd w (1)), v4, v5] [] I := runs_to (ins_of mI_209 (by rfl)) rfl rfl
theorem r209_46 : runs cal 209 46 [v0, v1, v2, v3, v4, v5] [] I = runs cal 209 30 [v0, v1, v2, v3, v4, v5] [] I := st_goto (ins_of mI_209 (by rfl)) (by decide)
theorem r209_49 : runs cal 209 49 [vR 70, v1, v2, v3, v4, v5] [] I = runs cal 209 50 [vR 70, v1, v2, v3, v4, v5] [vR 70] I := runs_to (ins_of mI_209 (by rfl)) rfl rfl
theorem r209_50 : runs cal 209 50 [v0, v1, vI w, v3, v4, v5] [vR 70] I = runs cal 209 51 [v0, v1, vI w, v3, v4, v5] [vI w, vR 70] I := runs_to (ins_of mI_209 (by rfl)) rfl rfl
theorem r209_51 : runs cal 209 51 [v0, v1, v2, v3, v4, v5] [vI x0, vR 70] I = (cal 207 [vR 70, vI x0] I).bind (fun q => runs cal 209 54 [v0, v1, v2, v3, v4, v5] (pushR q.1 []) q.2) := st_call (st := false) (ins_of mI_209 (by rfl)) mC_209 mr_11_281 (by decide) mS_207 mN_207 rfl (Nat.le_of_ble_eq_true rfl) rfl rfl (Or.inr ⟨_, _, rfl, rcv mC_207 rfl wid_209 (by decide +kernel)⟩) (Or.inl (wid_209.trans wid_207.symm))
theorem r209_54 : runs cal 209 54 [vR 70, v1, v2, v3, v4, v5] [] I = runs cal 209 55 [vR 70, v1, v2, v3, v4, v5] [vR 70] I := runs_to (ins_of mI_209 (by rfl)) rfl rfl
theorem r209_55 : runs cal 209 55 [v0, v1, v2, v3, v4, v5] [vR 70] I = runs cal 209 58 [v0, v1, v2, v3, v4, v5] [vR 82] I := st_getR (ins_of mI_209 (by rfl)) mC_209 (by decide) fr_11_46 cT_70 (wdc wid_209 wd_70) rfl rfl
theorem r209_58 : runs cal 209 58 [v0, v1, v2, v3, v4, v5] [vR 82] I = runs cal 209 59 [v0, v1, v2, v3, v4, v5] [vI (0), vR 82] I := runs_to (ins_of mI_209 (by rfl)) rfl rfl
theorem r209_59 : runs cal 209 59 [v0, v1, v2, v3, v4, v5] [vI x0, vR 82] I = if 0 ≤ x0 ∧ x0 < 73728 then runs cal 209 60 [v0, v1, v2, v3, v4, v5] [vI (I 82 x0)] I else none := st_iald (ins_of mI_209 (by rfl)) cT_82 (wdc wid_209 wd_82)
theorem r209_60 : runs cal 209 60 [v0, v1, vI u, v3, v4, v5] [vI x0] I = runs cal 209 61 [v0, v1, vI u, vI x0, v4, v5] [] I := runs_to (ins_of mI_209 (by rfl)) rfl rfl
theorem r209_61 : runs cal 209 61 [v0, v1, v2, v3, v4, v5] [] I = runs cal 209 62 [v0, v1, v2, v3, v4, v5] [vI (-1)] I := runs_to (ins_of mI_209 (by rfl)) rfl rfl
theorem r209_62 : runs cal 209 62 [v0, v1, v2, vI u, v4, v5] [vI x0] I = runs cal 209 64 [v0, v1, v2, vI u, vI x0, v5] [] I := runs_to (ins_of mI_209 (by rfl)) rfl rfl
theorem r209_64 : runs cal 209 64 [v0, v1, v2, v3, v4, v5] [] I = runs cal 209 65 [v0, v1, v2, v3, v4, v5] [vI (0)] I := runs_to (ins_of mI_209 (by rfl)) rfl rfl
theorem r209_65 : runs cal 209 65 [v0, v1, v2, v3, vI u, v5] [vI x0] I = runs cal 209 67 [v0, v1, v2, v3, vI u, vI x0] [] I := runs_to (ins_of mI_209 (by rfl)) rfl rfl
theorem r209_67 : runs cal 209 67 [v0, v1, v2, v3, v4, vI w] [] I = runs cal 209 69 [v0, v1, v2, v3, v4, vI w] [vI w] I := runs_to (ins_of mI_209 (by rfl)) rfl rfl
theorem r209_69 : runs cal 209 69 [v0, vI w, v2, v3, v4, v5] [vI x0] I = runs cal 209 70 [v0, vI w, v2, v3, v4, v5] [vI w, vI x0] I := runs_to (ins_of mI_209 (by rfl)) rfl rfl
theorem r209_70 : runs cal 209 70 [v0, v1, v2, v3, v4, v5] [vI x0, vI x1] I = if x0 < x1 then runs cal 209 112 [v0, v1, v2, v3, v4, v5] [] I else runs cal 209 73 [v0, v1, v2, v3, v4, v5] [] I := st_cmp_gt (ins_of mI_209 (by rfl)) (by decide)
theorem r209_73 : runs cal 209 73 [vR 70, v1, v2, v3, v4, v5] [] I = runs cal 209 74 [vR 70, v1, v2, v3, v4, v5] [vR 70] I := runs_to (ins_of mI_209 (by rfl)) rfl rfl
theorem r209_74 : runs cal 209 74 [v0, v1, v2, v3, v4, v5] [vR 70] I = runs cal 209 75 [v0, v1, v2, v3, v4, v5] [vI (-1), vR 70] I := runs_to (ins_of mI_209 (by rfl)) rfl rfl
theorem r209_75 : runs cal 209 75 [v0, v1, v2, v3, v4, v5] [vI x0, vR 70] I = (cal 201 [vR 70, vI x0] I).bind (fun q => runs cal 209 78 [v0, v1, v2, v3, v4, v5] (pushR q.1 []) q.2) := st_call (st := false) (ins_of mI_209 (by rfl)) mC_209 mr_11_263 (by decide) mS_201 mN_201 rfl (Nat.le_of_ble_eq_true rfl) rfl rfl (Or.inr ⟨_, _, rfl, rcv mC_201 rfl wid_209 (by decide +kernel)⟩) (Or.inl (wid_209.trans wid_201.symm))
theorem r209_78 : runs cal 209 78 [v0, v1, v2, vI u, v4, v5] [vI x0] I = runs cal 209 80 [v0, v1, v2, vI u, vI x0, v5] [] I := runs_to (ins_of mI_209 (by rfl)) rfl rfl
theorem r209_80 : runs cal 209 80 [vR 70, v1, v2, v3, v4, v5] [] I = runs cal 209 81 [vR 70, v1, v2, v3, v4, v5] [vR 70] I := runs_to (ins_of mI_209 (by rfl)) rfl rfl
theorem r209_81 : runs cal 209 81 [v0, v1, v2, vI w, v4, v5] [vR 70] I = runs cal 209 82 [v0, v1, v2, vI w, v4, v5] [vI w, vR 70] I := runs_to (ins_of mI_209 (by rfl)) rfl rfl
theorem r209_82 : runs cal 209 82 [v0, v1, v2, v3, vI w, v5] [vI x0, vR 70] I = runs cal 209 84 [v0, v1, v2, v3, vI w, v5] [vI w, vI x0, vR 70] I := runs_to (ins_of mI_209 (by rfl)) rfl rfl
theorem r209_84 : runs cal 209 84 [v0, v1, v2, v3, v4, v5] [vI x0, vI x1, vR 70] I = (cal 208 [vR 70, vI x1, vI x0] I).bind (fun q => runs cal 209 87 [v0, v1, v2, v3, v4, v5] (pushR q.1 []) q.2) := st_call (st := false) (ins_of mI_209 (by rfl)) mC_209 mr_11_278 (by decide) mS_208 mN_208 rfl (Nat.le_of_ble_eq_true rfl) rfl rfl (Or.inr ⟨_, _, rfl, rcv mC_208 rfl wid_209 (by decide +kernel)⟩) (Or.inl (wid_209.trans wid_208.symm))
theorem r209_87 : runs cal 209 87 [v0, v1, v2, v3, v4, v5] [vI x0] I = if x0 = 0 then runs cal 209 90 [v0, v1, v2, v3, v4, v5] [] I else runs cal 209 101 [v0, v1, v2, v3, v4, v5] [] I := st_if_ne (ins_of mI_209 (by rfl)) (by decide)
theorem r209_90 : runs cal 209 90 [vR 70, v1, v2, v3, v4, v5] [] I = runs cal 209 91 [vR 70, v1, v2, v3, v4, v5] [vR 70] I := runs_to (ins_of mI_209 (by rfl)) rfl rfl
theorem r209_91 : runs cal 209 91 [v0, v1, v2, v3, vI w, v5] [vR 70] I = runs cal 209 93 [v0, v1, v2, v3, vI w, v5] [vI w, vR 70] I := runs_to (ins_of mI_209 (by rfl)) rfl rfl
theorem r209_93 : runs cal 209 93 [v0, v1, v2, v3, v4, v5] [vI x0, vR 70] I = (cal 201 [vR 70, vI x0] I).bind (fun q => runs cal 209 96 [v0, v1, v2, v3, v4, v5] (pushR q.1 []) q.2) := st_call (st := false) (ins_of mI_209 (by rfl)) mC_209 mr_11_263 (by decide) mS_201 mN_201 rfl (Nat.le_of_ble_eq_true rfl) rfl rfl (Or.inr ⟨_, _, rfl, rcv mC_201 rfl wid_209 (by decide +kernel)⟩) (Or.inl (wid_209.trans wid_201.symm))
theorem r209_96 : runs cal 209 96 [v0, v1, v2, vI u, v4, v5] [vI x0] I = runs cal 209 98 [v0, v1, v2, vI u, vI x0, v5] [] I := runs_to (ins_of mI_209 (by rfl)) rfl rfl
theorem r209_98 : runs cal 209 98 [v0, v1, v2, v3, v4, v5] [] I = runs cal 209 80 [v0, v1, v2, v3, v4, v5] [] I := st_goto (ins_of mI_209 (by rfl)) (by decide)
theorem r209_101 : runs cal 209 101 [vR 70, v1, v2, v3, v4, v5] [] I = runs cal 209 102 [vR 70, v1, v2, v3, v4, v5] [vR 70] I := runs_to (ins_of mI_209 (by rfl)) rfl rfl
theorem r209_102 : runs cal 209 102 [v0, v1, v2, v3, v4, v5] [vR 70] I = (cal 199 [vR 70] I).bind (fun q => runs cal 209 105 [v0, v1, v2, v3, v4, v5] (pushR q.1 []) q.2) := st_call (st := false) (ins_of mI_209 (by rfl)) mC_209 mr_11_266 (by decide) mS_199 mN_199 rfl (Nat.le_of_ble_eq_true rfl) rfl rfl (Or.inr ⟨_, _, rfl, rcv mC_199 rfl wid_209 (by decide +kernel)⟩) (Or.inl (wid_209.trans wid_199.symm))
theorem r209_105 : runs cal 209 105 [v0, v1, vI u, v3, v4, v5] [vI x0] I = runs cal 209 106 [v0, v1, vI u, vI x0, v4, v5] [] I := runs_to (ins_of mI_209 (by rfl)) rfl rfl
theorem r209_106 : runs cal 209 106 [v0, v1, v2, v3, vI u, vI w] [] I = runs cal 209 109 [v0, v1, v2, v3, vI u, vI (iadd w (1))] [] I := runs_to (ins_of mI_209 (by rfl)) rfl rfl
theorem r209_109 : runs cal 209 109 [v0, v1, v2, v3, v4, v5] [] I = runs cal 209 67 [v0, v1, v2, v3, v4, v5] [] I := st_goto (ins_of mI_209 (by rfl)) (by decide)
theorem r209_112 : runs cal 209 112 [v0, v1, v2, v3, vI w, v5] [] I = runs cal 209 114 [v0, v1, v2, v3, vI w, v5] [vI w] I := runs_to (ins_of mI_209 (by rfl)) rfl rfl
theorem r209_114 : runs cal 209 114 [v0, v1, v2, v3, v4, v5] [vI x0] I = some (some (vI x0), I) := st_ret (q := some (vI x0)) (k := 0) (ins_of mI_209 (by rfl)) rfl (by decide) mR_209 rfl trivial
theorem r210_0 : runs cal 210 0 [vR 70, v1, v2] [] I = runs cal 210 1 [vR 70, v1, v2] [vR 70] I := runs_to (ins_of mI_210 (by rfl)) rfl rfl
theorem r210_1 : runs cal 210 1 [v0, v1, v2] [vR 70] I = (cal 164 [vR 70] I).bind (fun q => runs cal 210 4 [v0, v1, v2] (pushR q.1 []) q.2) := st_call (st := false) (ins_of mI_210 (by rfl)) mC_210 mr_11_230 (by decide) mS_164 mN_164 rfl (Nat.le_of_ble_eq_true rfl) rfl rfl (Or.inr ⟨_, _, rfl, rcv mC_164 rfl wid_210 (by decide +kernel)⟩) (Or.inl (wid_210.trans wid_164.symm))
theorem r210_4 : runs cal 210 4 [v0, vI w, v2] [] I = runs cal 210 5 [v0, vI w, v2] [vI w] I := runs_to (ins_of mI_210 (by rfl)) rfl rfl
theorem r210_5 : runs cal 210 5 [v0, v1, v2] [vI x0] I = runs cal 210 6 [v0, v1, v2] [vI (-1), vI x0] I := runs_to (ins_of mI_210 (by rfl)) rfl rfl
theorem r210_6 : runs cal 210 6 [v0, v1, v2] [vI x0, vI x1] I = if x1 = x0 then runs cal 210 17 [v0, v1, v2] [] I else runs cal 210 9 [v0, v1, v2] [] I := st_cmp_eq (ins_of mI_210 (by rfl)) (by decide)
theorem r210_9 : runs cal 210 9 [vR 70, v1, v2] [] I = runs cal 210 10 [vR 70, v1, v2] [vR 70] I := runs_to (ins_of mI_210 (by rfl)) rfl rfl
theorem r210_10 : runs cal 210 10 [v0, vI w, v2] [vR 70] I = runs cal 210 11 [v0, vI w, v2] [vI w, vR 70] I := runs_to (ins_of mI_210 (by rfl)) rfl rfl
theorem r210_11 : runs cal 210 11 [v0, v1, v2] [vI x0, vR 70] I = (cal 181 [vR 70, vI x0] I).bind (fun q => runs cal 210 14 [v0, v1, v2] (pushR q.1 []) q.2) := st_call (st := false) (ins_of mI_210 (by rfl)) mC_210 mr_11_184 (by decide) mS_181 mN_181 rfl (Nat.le_of_ble_eq_true rfl) rfl rfl (Or.inr ⟨_, _, rfl, rcv mC_181 rfl wid_210 (by decide +kernel)⟩) (Or.inl (wid_210.trans wid_181.symm))
theorem r210_14 : runs cal 210 14 [v0, v1, v2] [vI x0] I = if x0 = 0 then runs cal 210 17 [v0, v1, v2] [] I else runs cal 210 21 [v0, v1, v2] [] I := st_if_ne (ins_of mI_210 (by rfl)) (by decide)
theorem r210_17 : runs cal 210 17 [v0, v1, v2] [] I = runs cal 210 18 [v0, v1, v2] [vI (1)] I := runs_to (ins_of mI_210 (by rfl)) rfl rfl
theorem r210_18 : runs cal 210 18 [v0, v1, v2] [vI x0] I = runs cal 210 22 [v0, v1, v2] [vI x0] I := st_goto (ins_of mI_210 (by rfl)) (by decide)
theorem r210_21 : runs cal 210 21 [v0, v1, v2] [] I = runs cal 210 22 [v0, v1, v2] [vI (0)] I := runs_to (ins_of mI_210 (by rfl)) rfl rfl
theorem r210_22 : runs cal 210 22 [v0, vI u, v2] [vI x0] I = runs cal 210 23 [v0, vI u, vI x0] [] I := runs_to (ins_of mI_210 (by rfl)) rfl rfl
theorem r210_23 : runs cal 210 23 [v0, vI w, v2] [] I = runs cal 210 24 [v0, vI w, v2] [vI w] I := runs_to (ins_of mI_210 (by rfl)) rfl rfl
theorem r210_24 : runs cal 210 24 [v0, v1, v2] [vI x0] I = runs cal 210 25 [v0, v1, v2] [vI (-1), vI x0] I := runs_to (ins_of mI_210 (by rfl)) rfl rfl
theorem r210_25 : runs cal 210 25 [v0, v1, v2] [vI x0, vI x1] I = if x1 = x0 then runs cal 210 36 [v0, v1, v2] [] I else runs cal 210 28 [v0, v1, v2] [] I := st_cmp_eq (ins_of mI_210 (by rfl)) (by decide)
theorem r210_28 : runs cal 210 28 [vR 70, v1, v2] [] I = runs cal 210 29 [vR 70, v1, v2] [vR 70] I := runs_to (ins_of mI_210 (by rfl)) rfl rfl
theorem r210_29 : runs cal 210 29 [v0, v1, v2] [vR 70] I = runs cal 210 32 [v0, v1, v2] [vR 78] I := st_getR (ins_of mI_210 (by rfl)) mC_210 (by decide) fr_11_33 cT_70 (wdc wid_210 wd_70) rfl rfl
theorem r210_32 : runs cal 210 32 [v0, vI w, v2] [vR 78] I = runs cal 210 33 [v0, vI w, v2] [vI w, vR 78] I := runs_to (ins_of mI_210 (by rfl)) rfl rfl
theorem r210_33 : runs cal 210 33 [v0, v1, v2] [vI x0, vR 78] I = runs cal 210 35 [v0, v1, v2] [vI (11), vI x0, vR 78] I := runs_to (ins_of mI_210 (by rfl)) rfl rfl
theorem r210_35 : runs cal 210 35 [v0, v1, v2] [vI x0, vI x1, vR 78] I = if 0 ≤ x1 ∧ x1 < 2 then runs cal 210 36 [v0, v1, v2] [] (mset I 78 x1 x0) else none := st_iast (ins_of mI_210 (by rfl)) cT_78 (wdc wid_210 wd_78)
theorem r210_36 : runs cal 210 36 [v0, v1, vI w] [] I = runs cal 210 37 [v0, v1, vI w] [vI w] I := runs_to (ins_of mI_210 (by rfl)) rfl rfl
theorem r210_37 : runs cal 210 37 [v0, v1, v2] [vI x0] I = if x0 = 0 ∨ x0 = 1 then some (some (vI x0), I) else none := st_retZ (ins_of mI_210 (by rfl)) mR_210 (Or.inl rfl)
theorem r211_0 : runs cal 211 0 [vR 70, v1] [] I = runs cal 211 1 [vR 70, v1] [vR 70] I := runs_to (ins_of mI_211 (by rfl)) rfl rfl
theorem r211_1 : runs cal 211 1 [v0, vI w] [vR 70] I = runs cal 211 2 [v0, vI w] [vI w, vR 70] I := runs_to (ins_of mI_211 (by rfl)) rfl rfl
theorem r211_2 : runs cal 211 2 [v0, v1] [vI x0, vR 70] I = (cal 162 [vR 70, vI x0] I).bind (fun q => runs cal 211 5 [v0, v1] (pushR q.1 []) q.2) := st_call (st := false) (ins_of mI_211 (by rfl)) mC_211 mr_11_181 (by decide) mS_162 mN_162 rfl (Nat.le_of_ble_eq_true rfl) rfl rfl (Or.inr ⟨_, _, rfl, rcv mC_162 rfl wid_211 (by decide +kernel)⟩) (Or.inl (wid_211.trans wid_162.symm))
theorem r211_5 : runs cal 211 5 [v0, v1] [vI x0] I = if x0 = 0 then runs cal 211 8 [v0, v1] [] I else runs cal 211 15 [v0, v1] [] I := st_if_ne (ins_of mI_211 (by rfl)) (by decide)
theorem r211_8 : runs cal 211 8 [vR 70, v1] [] I = runs cal 211 9 [vR 70, v1] [vR 70] I := runs_to (ins_of mI_211 (by rfl)) rfl rfl
theorem r211_9 : runs cal 211 9 [v0, v1] [vR 70] I = runs cal 211 11 [v0, v1] [vI (-2), vR 70] I := runs_to (ins_of mI_211 (by rfl)) rfl rfl
theorem r211_11 : runs cal 211 11 [v0, v1] [vI x0, vR 70] I = (cal 143 [vR 70, vI x0] I).bind (fun q => runs cal 211 14 [v0, v1] (pushR q.1 []) q.2) := st_call (st := false) (ins_of mI_211 (by rfl)) mC_211 mr_11_251 (by decide) mS_143 mN_143 rfl (Nat.le_of_ble_eq_true rfl) rfl rfl (Or.inr ⟨_, _, rfl, rcv mC_143 rfl wid_211 (by decide +kernel)⟩) (Or.inl (wid_211.trans wid_143.symm))
theorem r211_14 : runs cal 211 14 [v0, v1] [vI x0] I = some (some (vI x0), I) := st_ret (q := some (vI x0)) (k := 0) (ins_of mI_211 (by rfl)) rfl (by decide) mR_211 rfl trivial
theorem r211_15 : runs cal 211 15 [vR 70, v1] [] I = runs cal 211 16 [vR 70, v1] [vR 70] I := runs_to (ins_of mI_211 (by rfl)) rfl rfl
theorem r211_16 : runs cal 211 16 [v0, vI w] [vR 70] I = runs cal 211 17 [v0, vI w] [vI w, vR 70] I := runs_to (ins_of mI_211 (by rfl)) rfl rfl
theorem r211_17 : runs cal 211 17 [v0, v1] [vI x0, vR 70] I = (cal 210 [vR 70, vI x0] I).bind (fun q => runs cal 211 20 [v0, v1] (pushR q.1 []) q.2) := st_call (st := false) (ins_of mI_211 (by rfl)) mC_211 mr_11_284 (by decide) mS_210 mN_210 rfl (Nat.le_of_ble_eq_true rfl) rfl rfl (Or.inr ⟨_, _, rfl, rcv mC_210 rfl wid_211 (by decide +kernel)⟩) (Or.inl (wid_211.trans wid_210.symm))
theorem r211_20 : runs cal 211 20 [v0, v1] [vI x0] I = if x0 = 0 then runs cal 211 34 [v0, v1] [] I else runs cal 211 23 [v0, v1] [] I := st_if_eq (ins_of mI_211 (by rfl)) (by decide)
theorem r211_23 : runs cal 211 23 [vR 70, v1] [] I = runs cal 211 24 [vR 70, v1] [vR 70] I := runs_to (ins_of mI_211 (by rfl)) rfl rfl
theorem r211_24 : runs cal 211 24 [vR 70, v1] [vR 70] I = runs cal 211 25 [vR 70, v1] [vR 70, vR 70] I := runs_to (ins_of mI_211 (by rfl)) rfl rfl
theorem r211_25 : runs cal 211 25 [v0, v1] [vR 70, vR 70] I = (cal 199 [vR 70] I).bind (fun q => runs cal 211 28 [v0, v1] (pushR q.1 [vR 70]) q.2) := st_call (st := false) (ins_of mI_211 (by rfl)) mC_211 mr_11_266 (by decide) mS_199 mN_199 rfl (Nat.le_of_ble_eq_true rfl) rfl rfl (Or.inr ⟨_, _, rfl, rcv mC_199 rfl wid_211 (by decide +kernel)⟩) (Or.inl (wid_211.trans wid_199.symm))
theorem r211_28 : runs cal 211 28 [v0, v1] [vI x0, vR 70] I = (cal 203 [vR 70, vI x0] I).bind (fun q => runs cal 211 31 [v0, v1] (pushR q.1 []) q.2) := st_call (st := false) (ins_of mI_211 (by rfl)) mC_211 mr_11_275 (by decide) mS_203 mN_203 rfl (Nat.le_of_ble_eq_true rfl) rfl rfl (Or.inr ⟨_, _, rfl, rcv mC_203 rfl wid_211 (by decide +kernel)⟩) (Or.inl (wid_211.trans wid_203.symm))
theorem r211_31 : runs cal 211 31 [v0, v1] [vI x0] I = runs cal 211 35 [v0, v1] [vI x0] I := st_goto (ins_of mI_211 (by rfl)) (by decide)
theorem r211_34 : runs cal 211 34 [v0, v1] [] I = runs cal 211 35 [v0, v1] [vI (-1)] I := runs_to (ins_of mI_211 (by rfl)) rfl rfl
theorem r211_35 : runs cal 211 35 [v0, v1] [vI x0] I = some (some (vI x0), I) := st_ret (q := some (vI x0)) (k := 0) (ins_of mI_211 (by rfl)) rfl (by decide) mR_211 rfl trivial
theorem r212_0 : runs cal 212 0 [v0, vI w, v2, v3, v4, v5, v6] [] I = runs cal 212 1 [v0, vI w, v2, v3, v4, v5, v6] [vI w] I := runs_to (ins_of mI_212 (by rfl)) rfl rfl
theorem r212_1 : runs cal 212 1 [v0, v1, v2, v3, v4, v5, v6] [vI x0] I = runs cal 212 2 [v0, v1, v2, v3, v4, v5, v6] [vI (-1), vI x0] I := runs_to (ins_of mI_212 (by rfl)) rfl rfl
theorem r212_2 : runs cal 212 2 [v0, v1, v2, v3, v4, v5, v6] [vI x0, vI x1] I = if x1 = x0 then runs cal 212 20 [v0, v1, v2, v3, v4, v5, v6] [] I else runs cal 212 5 [v0, v1, v2, v3, v4, v5, v6] [] I := st_cmp_eq (ins_of mI_212 (by rfl)) (by decide)
theorem r212_5 : runs cal 212 5 [vR 70, v1, v2, v3, v4, v5, v6] [] I = runs cal 212 6 [vR 70, v1, v2, v3, v4, v5, v6] [vR 70] I := runs_to (ins_of mI_212 (by rfl)) rfl rfl
theorem r212_6 : runs cal 212 6 [v0, vI w, v2, v3, v4, v5, v6] [vR 70] I = runs cal 212 7 [v0, vI w, v2, v3, v4, v5, v6] [vI w, vR 70] I := runs_to (ins_of mI_212 (by rfl)) rfl rfl
theorem r212_7 : runs cal 212 7 [v0, v1, v2, v3, v4, v5, v6] [vI x0, vR 70] I = (cal 162 [vR 70, vI x0] I).bind (fun q => runs cal 212 10 [v0, v1, v2, v3, v4, v5, v6] (pushR q.1 []) q.2) := st_call (st := false) (ins_of mI_212 (by rfl)) mC_212 mr_11_181 (by decide) mS_162 mN_162 rfl (Nat.le_of_ble_eq_true rfl) rfl rfl (Or.inr ⟨_, _, rfl, rcv mC_162 rfl wid_212 (by decide +kernel)⟩) (Or.inl (wid_212.trans wid_162.symm))
theorem r212_10 : runs cal 212 10 [v0, v1, v2, v3, v4, v5, v6] [vI x0] I = if x0 = 0 then runs cal 212 13 [v0, v1, v2, v3, v4, v5, v6] [] I else runs cal 212 20 [v0, v1, v2, v3, v4, v5, v6] [] I := st_if_ne (ins_of mI_212 (by rfl)) (by decide)
theorem r212_13 : runs cal 212 13 [vR 70, v1, v2, v3, v4, v5, v6] [] I = runs cal 212 14 [vR 70, v1, v2, v3, v4, v5, v6] [vR 70] I := runs_to (ins_of mI_212 (by rfl)) rfl rfl
theorem r212_14 : runs cal 212 14 [v0, v1, v2, v3, v4, v5, v6] [vR 70] I = runs cal 212 16 [v0, v1, v2, v3, v4, v5, v6] [vI (-2), vR 70] I := runs_to (ins_of mI_212 (by rfl)) rfl rfl
theorem r212_16 : runs cal 212 16 [v0, v1, v2, v3, v4, v5, v6] [vI x0, vR 70] I = (cal 143 [vR 70, vI x0] I).bind (fun q => runs cal 212 19 [v0, v1, v2, v3, v4, v5, v6] (pushR q.1 []) q.2) := st_call (st := false) (ins_of mI_212 (by rfl)) mC_212 mr_11_251 (by decide) mS_143 mN_143 rfl (Nat.le_of_ble_eq_true rfl) rfl rfl (Or.inr ⟨_, _, rfl, rcv mC_143 rfl wid_212 (by decide +kernel)⟩) (Or.inl (wid_212.trans wid_143.symm))
theorem r212_19 : runs cal 212 19 [v0, v1, v2, v3, v4, v5, v6] [vI x0] I = some (some (vI x0), I) := st_ret (q := some (vI x0)) (k := 0) (ins_of mI_212 (by rfl)) rfl (by decide) mR_212 rfl trivial
theorem r212_20 : runs cal 212 20 [vR 70, v1, v2, v3, v4, v5, v6] [] I = runs cal 212 21 [vR 70, v1, v2, v3, v4, v5, v6] [vR 70] I := runs_to (ins_of mI_212 (by rfl)) rfl rfl
theorem r212_21 : runs cal 212 21 [v0, vI w, v2, v3, v4, v5, v6] [vR 70] I = runs cal 212 22 [v0, vI w, v2, v3, v4, v5, v6] [vI w, vR 70] I := runs_to (ins_of mI_212 (by rfl)) rfl rfl
theorem r212_22 : runs cal 212 22 [v0, v1, v2, v3, v4, v5, v6] [vI x0, vR 70] I = (cal 210 [vR 70, vI x0] I).bind (fun q => runs cal 212 25 [v0, v1, v2, v3, v4, v5, v6] (pushR q.1 []) q.2) := st_call (st := false) (ins_of mI_212 (by rfl)) mC_212 mr_11_284 (by decide) mS_210 mN_210 rfl (Nat.le_of_ble_eq_true rfl) rfl rfl (Or.inr ⟨_, _, rfl, rcv mC_210 rfl wid_212 (by decide +kernel)⟩) (Or.inl (wid_212.trans wid_210.symm))
theorem r212_25 : runs cal 212 25 [v0, v1, v2, v3, v4, v5, v6] [vI x0] I = if x0 = 0 then runs cal 212 28 [v0, v1, v2, v3, v4, v5, v6] [] I else runs cal 212 30 [v0, v1, v2, v3, v4, v5, v6] [] I := st_if_ne (ins_of mI_212 (by rfl)) (by decide)
theorem r212_28 : runs cal 212 28 [v0, v1, v2, v3, v4, v5, v6] [] I = runs cal 212 29 [v0, v1, v2, v3, v4, v5, v6] [vI (-1)] I := runs_to (ins_of mI_212 (by rfl)) rfl rfl
theorem r212_29 : runs cal 212 29 [v0, v1, v2, v3, v4, v5, v6] [vI x0] I = some (some (vI x0), I) := st_ret (q := some (vI x0)) (k := 0) (ins_of mI_212 (by rfl)) rfl (by decide) mR_212 rfl trivial
theorem r212_30 : runs cal 212 30 [vR 70, v1, v2, v3, v4, v5, v6] [] I = runs cal 212 31 [vR 70, v1, v2, v3, v4, v5, v6] [vR 70] I := runs_to (ins_of mI_212 (by rfl)) rfl rfl
theorem r212_31 : runs cal 212 31 [vR 70, v1, v2, v3, v4, v5, v6] [vR 70] I = runs cal 212 32 [vR 70, v1, v2, v3, v4, v5, v6] [vR 70, vR 70] I := runs_to (ins_of mI_212 (by rfl)) rfl rfl
theorem r212_32 : runs cal 212 32 [v0, v1, v2, v3, v4, v5, v6] [vR 70, vR 70] I = (cal 199 [vR 70] I).bind (fun q => runs cal 212 35 [v0, v1, v2, v3, v4, v5, v6] (pushR q.1 [vR 70]) q.2) := st_call (st := false) (ins_of mI_212 (by rfl)) mC_212 mr_11_266 (by decide) mS_199 mN_199 rfl (Nat.le_of_ble_eq_true rfl) rfl rfl (Or.inr ⟨_, _, rfl, rcv mC_199 rfl wid_212 (by decide +kernel)⟩) (Or.inl (wid_212.trans wid_199.symm))
theorem r212_35 : runs cal 212 35 [v0, v1, v2, v3, v4, v5, v6] [vI x0, vR 70] I = (cal 202 [vR 70, vI x0] I).bind (fun q => runs cal 212 38 [v0, v1, v2, v3, v4, v5, v6] (pushR q.1 []) q.2) := st_call (st := false) (ins_of mI_212 (by rfl)) mC_212 mr_11_257 (by decide) mS_202 mN_202 rfl (Nat.le_of_ble_eq_true rfl) rfl rfl (Or.inr ⟨_, _, rfl, rcv mC_202 rfl wid_212 (by decide +kernel)⟩) (Or.inl (wid_212.trans wid_202.symm))
theorem r212_38 : runs cal 212 38 [v0, v1, v2, v3, v4, v5, v6] [] I = runs cal 212 39 [v0, v1, v2, v3, v4, v5, v6] [vI (0)] I := runs_to (ins_of mI_212 (by rfl)) rfl rfl
theorem r212_39 : runs cal 212 39 [v0, vI u, v2, v3, v4, v5, v6] [vI x0] I = runs cal 212 40 [v0, vI u, vI x0, v3, v4, v5, v6] [] I := runs_to (ins_of mI_212 (by rfl)) rfl rfl
theorem r212_40 : runs cal 212 40 [v0, v1, v2, v3, v4, v5, v6] [] I = runs cal 212 41 [v0, v1, v2, v3, v4, v5, v6] [vI (0)] I := runs_to (ins_of mI_212 (by rfl)) rfl rfl
theorem r212_41 : runs cal 212 41 [v0, v1, vI u, v3, v4, v5, v6] [vI x0] I = runs cal 212 42 [v0, v1, vI u, vI x0, v4, v5, v6] [] I := runs_to (ins_of mI_212 (by rfl)) rfl rfl
theorem r212_42 : runs cal 212 42 [v0, v1, v2, vI w, v4, v5, v6] [] I = runs cal 212 43 [v0, v1, v2, vI w, v4, v5, v6] [vI w] I := runs_to (ins_of mI_212 (by rfl)) rfl rfl
theorem r212_43 : runs cal 212 43 [v0, v1, v2, v3, v4, v5, v6] [vI x0] I = runs cal 212 44 [v0, v1, v2, v3, v4, v5, v6] [vI (3), vI x0] I := runs_to (ins_of mI_212 (by rfl)) rfl rfl
theorem r212_44 : runs cal 212 44 [v0, v1, v2, v3, v4, v5, v6] [vI x0, vI x1] I = if x0 < x1 then runs cal 212 177 [v0, v1, v2, v3, v4, v5, v6] [] I else runs cal 212 47 [v0, v1, v2, v3, v4, v5, v6] [] I := st_cmp_gt (ins_of mI_212 (by rfl)) (by decide)
theorem r212_47 : runs cal 212 47 [v0, v1, vI w, v3, v4, v5, v6] [] I = runs cal 212 48 [v0, v1, vI w, v3, v4, v5, v6] [vI w] I := runs_to (ins_of mI_212 (by rfl)) rfl rfl
theorem r212_48 : runs cal 212 48 [v0, v1, v2, vI u, v4, v5, v6] [vI x0] I = runs cal 212 50 [v0, v1, v2, vI u, vI x0, v5, v6] [] I := runs_to (ins_of mI_212 (by rfl)) rfl rfl
theorem r212_50 : runs cal 212 50 [v0, v1, vI w, v3, v4, v5, v6] [] I = runs cal 212 51 [v0, v1, vI w, v3, v4, v5, v6] [vI w] I := runs_to (ins_of mI_212 (by rfl)) rfl rfl
theorem r212_51 : runs cal 212 51 [vR 70, v1, v2, v3, v4, v5, v6] [vI x0] I = runs cal 212 52 [vR 70, v1, v2, v3, v4, v5, v6] [vR 70, vI x0] I := runs_to (ins_of mI_212 (by rfl)) rfl rfl
theorem r212_52 : runs cal 212 52 [v0, v1, v2, v3, v4, v5, v6] [vR 70, vI x1] I = runs cal 212 55 [v0, v1, v2, v3, v4, v5, v6] [vI (I 70 18), vI x1] I := st_getI (ins_of mI_212 (by rfl)) mC_212 (by decide) fr_11_254 cT_70 (wdc wid_212 wd_70) (Or.inl rfl)
theorem r212_55 : runs cal 212 55 [v0, v1, v2, v3, v4, v5, v6] [vI x0, vI x1] I = if x1 < x0 then runs cal 212 58 [v0, v1, v2, v3, v4, v5, v6] [] I else runs cal 212 141 [v0, v1, v2, v3, v4, v5, v6] [] I := st_cmp_ge (ins_of mI_212 (by rfl)) (by decide)
theorem r212_58 : runs cal 212 58 [vR 70, v1, v2, v3, v4, v5, v6] [] I = runs cal 212 59 [vR 70, v1, v2, v3, v4, v5, v6] [vR 70] I := runs_to (ins_of mI_212 (by rfl)) rfl rfl
theorem r212_59 : runs cal 212 59 [v0, v1, v2, v3, v4, v5, v6] [vR 70] I = runs cal 212 62 [v0, v1, v2, v3, v4, v5, v6] [vR 82] I := st_getR (ins_of mI_212 (by rfl)) mC_212 (by decide) fr_11_46 cT_70 (wdc wid_212 wd_70) rfl rfl
theorem r212_62 : runs cal 212 62 [v0, v1, vI w, v3, v4, v5, v6] [vR 82] I = runs cal 212 63 [v0, v1, vI w, v3, v4, v5, v6] [vI w, vR 82] I := runs_to (ins_of mI_212 (by rfl)) rfl rfl
theorem r212_63 : runs cal 212 63 [v0, v1, v2, v3, v4, v5, v6] [vI x0, vR 82] I = if 0 ≤ x0 ∧ x0 < 73728 then runs cal 212 64 [v0, v1, v2, v3, v4, v5, v6] [vI (I 82 x0)] I else none := st_iald (ins_of mI_212 (by rfl)) cT_82 (wdc wid_212 wd_82)
theorem r212_64 : runs cal 212 64 [v0, v1, v2, v3, vI u, v5, v6] [vI x0] I = runs cal 212 66 [v0, v1, v2, v3, vI u, vI x0, v6] [] I := runs_to (ins_of mI_212 (by rfl)) rfl rfl
theorem r212_66 : runs cal 212 66 [vR 70, v1, v2, v3, v4, v5, v6] [] I = runs cal 212 67 [vR 70, v1, v2, v3, v4, v5, v6] [vR 70] I := runs_to (ins_of mI_212 (by rfl)) rfl rfl
theorem r212_67 : runs cal 212 67 [v0, v1, v2, v3, v4, vI w, v6] [vR 70] I = runs cal 212 69 [v0, v1, v2, v3, v4, vI w, v6] [vI w, vR 70] I := runs_to (ins_of mI_212 (by rfl)) rfl rfl
theorem r212_69 : runs cal 212 69 [v0, v1, v2, v3, v4, v5, v6] [vI x0, vR 70] I = (cal 200 [vR 70, vI x0] I).bind (fun q => runs cal 212 72 [v0, v1, v2, v3, v4, v5, v6] (pushR q.1 []) q.2) := st_call (st := false) (ins_of mI_212 (by rfl)) mC_212 mr_11_260 (by decide) mS_200 mN_200 rfl (Nat.le_of_ble_eq_true rfl) rfl rfl (Or.inr ⟨_, _, rfl, rcv mC_200 rfl wid_212 (by decide +kernel)⟩) (Or.inl (wid_212.trans wid_200.symm))
theorem r212_72 : runs cal 212 72 [vR 70, v1, v2, v3, v4, v5, v6] [] I = runs cal 212 73 [vR 70, v1, v2, v3, v4, v5, v6] [vR 70] I := runs_to (ins_of mI_212 (by rfl)) rfl rfl
theorem r212_73 : runs cal 212 73 [v0, v1, v2, v3, v4, v5, v6] [vR 70] I = (cal 178 [vR 70] I).bind (fun q => runs cal 212 76 [v0, v1, v2, v3, v4, v5, v6] (pushR q.1 []) q.2) := st_call (st := false) (ins_of mI_212 (by rfl)) mC_212 mr_11_248 (by decide) mS_178 mN_178 rfl (Nat.le_of_ble_eq_true rfl) rfl rfl (Or.inr ⟨_, _, rfl, rcv mC_178 rfl wid_212 (by decide +kernel)⟩) (Or.inl (wid_212.trans wid_178.symm))
theorem r212_76 : runs cal 212 76 [v0, v1, v2, v3, v4, v5, v6] [vI x0] I = if x0 = 0 then runs cal 212 81 [v0, v1, v2, v3, v4, v5, v6] [] I else runs cal 212 79 [v0, v1, v2, v3, v4, v5, v6] [] I := st_if_eq (ins_of mI_212 (by rfl)) (by decide)
theorem r212_79 : runs cal 212 79 [v0, v1, v2, vI w, v4, v5, v6] [] I = runs cal 212 80 [v0, v1, v2, vI w, v4, v5, v6] [vI w] I := runs_to (ins_of mI_212 (by rfl)) rfl rfl
theorem r212_80 : runs cal 212 80 [v0, v1, v2, v3, v4, v5, v6] [vI x0] I = some (some (vI x0), I) := st_ret (q := some (vI x0)) (k := 0) (ins_of mI_212 (by rfl)) rfl (by decide) mR_212 rfl trivial
theorem r212_81 : runs cal 212 81 [vR 70, v1, v2, v3, v4, v5, v6] [] I = runs cal 212 82 [vR 70, v1, v2, v3, v4, v5, v6] [vR 70] I := runs_to (ins_of mI_212 (by rfl)) rfl rfl
theorem r212_82 : runs cal 212 82 [v0, v1, v2, v3, v4, v5, v6] [vR 70] I = runs cal 212 83 [v0, v1, v2, v3, v4, v5, v6] [vI (-1), vR 70] I := runs_to (ins_of mI_212 (by rfl)) rfl rfl
theorem r212_83 : runs cal 212 83 [v0, v1, v2, v3, v4, v5, v6] [vI x0, vR 70] I = (cal 201 [vR 70, vI x0] I).bind (fun q => runs cal 212 86 [v0, v1, v2, v3, v4, v5, v6] (pushR q.1 []) q.2) := st_call (st := false) (ins_of mI_212 (by rfl)) mC_212 mr_11_263 (by decide) mS_201 mN_201 rfl (Nat.le_of_ble_eq_true rfl) rfl rfl (Or.inr ⟨_, _, rfl, rcv mC_201 rfl wid_212 (by decide +kernel)⟩) (Or.inl (wid_212.trans wid_201.symm))
theorem r212_86 : runs cal 212 86 [v0, v1, v2, v3, v4, vI u, v6] [vI x0] I = runs cal 212 88 [v0, v1, v2, v3, v4, vI u, vI x0] [] I := runs_to (ins_of mI_212 (by rfl)) rfl rfl
theorem r212_88 : runs cal 212 88 [v0, v1, v2, v3, v4, v5, vI w] [] I = runs cal 212 90 [v0, v1, v2, v3, v4, v5, vI w] [vI w] I := runs_to (ins_of mI_212 (by rfl)) rfl rfl
theorem r212_90 : runs cal 212 90 [v0, v1, v2, v3, v4, v5, v6] [vI x0] I = runs cal 212 93 [v0, v1, v2, v3, v4, v5, v6] [vI (1024), vI x0] I := runs_to (ins_of mI_212 (by rfl)) rfl rfl
theorem r212_93 : runs cal 212 93 [v0, v1, v2, v3, v4, v5, v6] [vI x0, vI x1] I = if x1 < x0 then runs cal 212 96 [v0, v1, v2, v3, v4, v5, v6] [] I else runs cal 212 135 [v0, v1, v2, v3, v4, v5, v6] [] I := st_cmp_ge (ins_of mI_212 (by rfl)) (by decide)
theorem r212_96 : runs cal 212 96 [vR 70, v1, v2, v3, v4, v5, v6] [] I = runs cal 212 97 [vR 70, v1, v2, v3, v4, v5, v6] [vR 70] I := runs_to (ins_of mI_212 (by rfl)) rfl rfl
theorem r212_97 : runs cal 212 97 [v0, v1, v2, v3, v4, vI w, v6] [vR 70] I = runs cal 212 99 [v0, v1, v2, v3, v4, vI w, v6] [vI w, vR 70] I := runs_to (ins_of mI_212 (by rfl)) rfl rfl
theorem r212_99 : runs cal 212 99 [v0, v1, v2, v3, v4, v5, v6] [vI x0, vR 70] I = (cal 200 [vR 70, vI x0] I).bind (fun q => runs cal 212 102 [v0, v1, v2, v3, v4, v5, v6] (pushR q.1 []) q.2) := st_call (st := false) (ins_of mI_212 (by rfl)) mC_212 mr_11_260 (by decide) mS_200 mN_200 rfl (Nat.le_of_ble_eq_true rfl) rfl rfl (Or.inr ⟨_, _, rfl, rcv mC_200 rfl wid_212 (by decide +kernel)⟩) (Or.inl (wid_212.trans wid_200.symm))
theorem r212_102 : runs cal 212 102 [vR 70, v1, v2, v3, v4, v5, v6] [] I = runs cal 212 103 [vR 70, v1, v2, v3, v4, v5, v6] [vR 70] I := runs_to (ins_of mI_212 (by rfl)) rfl rfl
theorem r212_103 : runs cal 212 103 [v0, v1, v2, v3, v4, v5, vI w] [vR 70] I = runs cal 212 105 [v0, v1, v2, v3, v4, v5, vI w] [vI w, vR 70] I := runs_to (ins_of mI_212 (by rfl)) rfl rfl
theorem r212_105 : runs cal 212 105 [v0, v1, v2, v3, v4, v5, v6] [vI x0, vR 70] I = (cal 189 [vR 70, vI x0] I).bind (fun q => runs cal 212 108 [v0, v1, v2, v3, v4, v5, v6] (pushR q.1 []) q.2) := st_call (st := false) (ins_of mI_212 (by rfl)) mC_212 mr_11_233 (by decide) mS_189 mN_189 rfl (Nat.le_of_ble_eq_true rfl) rfl rfl (Or.inr ⟨_, _, rfl, rcv mC_189 rfl wid_212 (by decide +kernel)⟩) (Or.inl (wid_212.trans wid_189.symm))
theorem r212_108 : runs cal 212 108 [vR 70, v1, v2, v3, v4, v5, v6] [] I = runs cal 212 109 [vR 70, v1, v2, v3, v4, v5, v6] [vR 70] I := runs_to (ins_of mI_212 (by rfl)) rfl rfl
theorem r212_109 : runs cal 212 109 [v0, v1, v2, v3, v4, v5, v6] [vR 70] I = (cal 192 [vR 70] I).bind (fun q => runs cal 212 112 [v0, v1, v2, v3, v4, v5, v6] (pushR q.1 []) q.2) := st_call (st := false) (ins_of mI_212 (by rfl)) mC_212 mr_11_236 (by decide) mS_192 mN_192 rfl (Nat.le_of_ble_eq_true rfl) rfl rfl (Or.inr ⟨_, _, rfl, rcv mC_192 rfl wid_212 (by decide +kernel)⟩) (Or.inl (wid_212.trans wid_192.symm))
theorem r212_112 : runs cal 212 112 [v0, v1, v2, v3, v4, v5, v6] [vI x0] I = if x0 = 0 then runs cal 212 115 [v0, v1, v2, v3, v4, v5, v6] [] I else runs cal 212 124 [v0, v1, v2, v3, v4, v5, v6] [] I := st_if_ne (ins_of mI_212 (by rfl)) (by decide)
theorem r212_115 : runs cal 212 115 [vR 70, v1, v2, v3, v4, v5, v6] [] I = runs cal 212 116 [vR 70, v1, v2, v3, v4, v5, v6] [vR 70] I := runs_to (ins_of mI_212 (by rfl)) rfl rfl
theorem r212_116 : runs cal 212 116 [vR 70, v1, v2, v3, v4, v5, v6] [vR 70] I = runs cal 212 117 [vR 70, v1, v2, v3, v4, v5, v6] [vR 70, vR 70] I := runs_to (ins_of mI_212 (by rfl)) rfl rfl
theorem r212_117 : runs cal 212 117 [v0, v1, v2, v3, v4, v5, v6] [vR 70, vR 70] I = (cal 199 [vR 70] I).bind (fun q => runs cal 212 120 [v0, v1, v2, v3, v4, v5, v6] (pushR q.1 [vR 70]) q.2) := st_call (st := false) (ins_of mI_212 (by rfl)) mC_212 mr_11_266 (by decide) mS_199 mN_199 rfl (Nat.le_of_ble_eq_true rfl) rfl rfl (Or.inr ⟨_, _, rfl, rcv mC_199 rfl wid_212 (by decide +kernel)⟩) (Or.inl (wid_212.trans wid_199.symm))
theorem r212_120 : runs cal 212 120 [v0, v1, v2, vI w, v4, v5, v6] [vI x0, vR 70] I = runs cal 212 121 [v0, v1, v2, vI w, v4, v5, v6] [vI w, vI x0, vR 70] I := runs_to (ins_of mI_212 (by rfl)) rfl rfl
theorem r212_121 : runs cal 212 121 [v0, v1, v2, v3, v4, v5, v6] [vI x0, vI x1, vR 70] I = (cal 204 [vR 70, vI x1, vI x0] I).bind (fun q => runs cal 212 124 [v0, v1, v2, v3, v4, v5, v6] (pushR q.1 []) q.2) := st_call (st := false) (ins_of mI_212 (by rfl)) mC_212 mr_11_269 (by decide) mS_204 mN_204 rfl (Nat.le_of_ble_eq_true rfl) rfl rfl (Or.inr ⟨_, _, rfl, rcv mC_204 rfl wid_212 (by decide +kernel)⟩) (Or.inl (wid_212.trans wid_204.symm))
theorem r212_124 : runs cal 212 124 [vR 70, v1, v2, v3, v4, v5, v6] [] I = runs cal 212 125 [vR 70, v1, v2, v3, v4, v5, v6] [vR 70] I := runs_to (ins_of mI_212 (by rfl)) rfl rfl
theorem r212_125 : runs cal 212 125 [v0, v1, v2, v3, v4, v5, vI w] [vR 70] I = runs cal 212 127 [v0, v1, v2, v3, v4, v5, vI w] [vI w, vR 70] I := runs_to (ins_of mI_212 (by rfl)) rfl rfl
theorem r212_127 : runs cal 212 127 [v0, v1, v2, v3, v4, v5, v6] [vI x0, vR 70] I = (cal 201 [vR 70, vI x0] I).bind (fun q => runs cal 212 130 [v0, v1, v2, v3, v4, v5, v6] (pushR q.1 []) q.2) := st_call (st := false) (ins_of mI_212 (by rfl)) mC_212 mr_11_263 (by decide) mS_201 mN_201 rfl (Nat.le_of_ble_eq_true rfl) rfl rfl (Or.inr ⟨_, _, rfl, rcv mC_201 rfl wid_212 (by decide +kernel)⟩) (Or.inl (wid_212.trans wid_201.symm))
theorem r212_130 : runs cal 212 130 [v0, v1, v2, v3, v4, vI u, v6] [vI x0] I = runs cal 212 132 [v0, v1, v2, v3, v4, vI u, vI x0] [] I := runs_to (ins_of mI_212 (by rfl)) rfl rfl
theorem r212_132 : runs cal 212 132 [v0, v1, v2, v3, v4, v5, v6] [] I = runs cal 212 88 [v0, v1, v2, v3, v4, v5, v6] [] I := st_goto (ins_of mI_212 (by rfl)) (by decide)
theorem r212_135 : runs cal 212 135 [v0, vI u, vI w, v3, v4, v5, v6] [] I = runs cal 212 138 [v0, vI u, vI (iadd w (1)), v3, v4, v5, v6] [] I := runs_to (ins_of mI_212 (by rfl)) rfl rfl
theorem r212_138 : runs cal 212 138 [v0, v1, v2, v3, v4, v5, v6] [] I = runs cal 212 50 [v0, v1, v2, v3, v4, v5, v6] [] I := st_goto (ins_of mI_212 (by rfl)) (by decide)
theorem r212_141 : runs cal 212 141 [v0, v1, v2, v3, vI w, v5, v6] [] I = runs cal 212 143 [v0, v1, v2, v3, vI w, v5, v6] [vI w] I := runs_to (ins_of mI_212 (by rfl)) rfl rfl
theorem r212_143 : runs cal 212 143 [v0, v1, v2, v3, vI u, v5, v6] [vI x0] I = runs cal 212 145 [v0, v1, v2, v3, vI u, vI x0, v6] [] I := runs_to (ins_of mI_212 (by rfl)) rfl rfl
theorem r212_145 : runs cal 212 145 [v0, v1, v2, v3, v4, vI w, v6] [] I = runs cal 212 147 [v0, v1, v2, v3, v4, vI w, v6] [vI w] I := runs_to (ins_of mI_212 (by rfl)) rfl rfl
theorem r212_147 : runs cal 212 147 [v0, v1, vI w, v3, v4, v5, v6] [vI x0] I = runs cal 212 148 [v0, v1, vI w, v3, v4, v5, v6] [vI w, vI x0] I := runs_to (ins_of mI_212 (by rfl)) rfl rfl
theorem r212_148 : runs cal 212 148 [v0, v1, v2, v3, v4, v5, v6] [vI x0, vI x1] I = if x1 < x0 then runs cal 212 151 [v0, v1, v2, v3, v4, v5, v6] [] I else runs cal 212 171 [v0, v1, v2, v3, v4, v5, v6] [] I := st_cmp_ge (ins_of mI_212 (by rfl)) (by decide)
theorem r212_151 : runs cal 212 151 [vR 70, v1, v2, v3, v4, v5, v6] [] I = runs cal 212 152 [vR 70, v1, v2, v3, v4, v5, v6] [vR 70] I := runs_to (ins_of mI_212 (by rfl)) rfl rfl
theorem r212_152 : runs cal 212 152 [vR 70, v1, v2, v3, v4, v5, v6] [vR 70] I = runs cal 212 153 [vR 70, v1, v2, v3, v4, v5, v6] [vR 70, vR 70] I := runs_to (ins_of mI_212 (by rfl)) rfl rfl
theorem r212_153 : runs cal 212 153 [v0, v1, v2, v3, v4, v5, v6] [vR 70, vR 70] I = runs cal 212 156 [v0, v1, v2, v3, v4, v5, v6] [vR 82, vR 70] I := st_getR (ins_of mI_212 (by rfl)) mC_212 (by decide) fr_11_46 cT_70 (wdc wid_212 wd_70) rfl rfl
theorem r212_156 : runs cal 212 156 [v0, v1, v2, v3, v4, vI w, v6] [vR 82, vR 70] I = runs cal 212 158 [v0, v1, v2, v3, v4, vI w, v6] [vI w, vR 82, vR 70] I := runs_to (ins_of mI_212 (by rfl)) rfl rfl
theorem r212_158 : runs cal 212 158 [v0, v1, v2, v3, v4, v5, v6] [vI x0, vR 82, vR 70] I = if 0 ≤ x0 ∧ x0 < 73728 then runs cal 212 159 [v0, v1, v2, v3, v4, v5, v6] [vI (I 82 x0), vR 70] I else none := st_iald (ins_of mI_212 (by rfl)) cT_82 (wdc wid_212 wd_82)
theorem r212_159 : runs cal 212 159 [v0, v1, v2, vI w, v4, v5, v6] [vI x0, vR 70] I = runs cal 212 160 [v0, v1, v2, vI w, v4, v5, v6] [vI w, vI x0, vR 70] I := runs_to (ins_of mI_212 (by rfl)) rfl rfl
theorem r212_160 : runs cal 212 160 [v0, v1, v2, v3, v4, v5, v6] [vI x0, vI x1, vR 70] I = runs cal 212 161 [v0, v1, v2, v3, v4, v5, v6] [vI (1), vI x0, vI x1, vR 70] I := runs_to (ins_of mI_212 (by rfl)) rfl rfl
theorem r212_161 : runs cal 212 161 [v0, v1, v2, v3, v4, v5, v6] [vI x0, vI x1, vI x2, vR 70] I = runs cal 212 162 [v0, v1, v2, v3, v4, v5, v6] [vI (iadd x1 x0), vI x2, vR 70] I := runs_to (ins_of mI_212 (by rfl)) rfl rfl
theorem r212_162 : runs cal 212 162 [v0, v1, v2, v3, v4, v5, v6] [vI x0, vI x1, vR 70] I = (cal 213 [vR 70, vI x1, vI x0] I).bind (fun q => runs cal 212 165 [v0, v1, v2, v3, v4, v5, v6] (pushR q.1 []) q.2) := st_call (st := false) (ins_of mI_212 (by rfl)) mC_212 mr_11_287 (by decide) mS_213 mN_213 rfl (Nat.le_of_ble_eq_true rfl) rfl rfl (Or.inr ⟨_, _, rfl, rcv mC_213 rfl wid_212 (by decide +kernel)⟩) (Or.inl (wid_212.trans wid_213.symm))
theorem r212_165 : runs cal 212 165 [v0, v1, v2, v3, vI u, vI w, v6] [] I = runs cal 212 168 [v0, v1, v2, v3, vI u, vI (iadd w (1)), v6] [] I := runs_to (ins_of mI_212 (by rfl)) rfl rfl
theorem r212_168 : runs cal 212 168 [v0, v1, v2, v3, v4, v5, v6] [] I = runs cal 212 145 [v0, v1, v2, v3, v4, v5, v6] [] I := st_goto (ins_of mI_212 (by rfl)) (by decide)
theorem r212_171 : runs cal 212 171 [v0, v1, vI u, vI w, v4, v5, v6] [] I = runs cal 212 174 [v0, v1, vI u, vI (iadd w (1)), v4, v5, v6] [] I := runs_to (ins_of mI_212 (by rfl)) rfl rfl
theorem r212_174 : runs cal 212 174 [v0, v1, v2, v3, v4, v5, v6] [] I = runs cal 212 42 [v0, v1, v2, v3, v4, v5, v6] [] I := st_goto (ins_of mI_212 (by rfl)) (by decide)
theorem r212_177 : runs cal 212 177 [v0, v1, v2, v3, v4, v5, v6] [] I = runs cal 212 178 [v0, v1, v2, v3, v4, v5, v6] [vI (-1)] I := runs_to (ins_of mI_212 (by rfl)) rfl rfl
theorem r212_178 : runs cal 212 178 [v0, v1, v2, v3, v4, v5, v6] [vI x0] I = some (some (vI x0), I) := st_ret (q := some (vI x0)) (k := 0) (ins_of mI_212 (by rfl)) rfl (by decide) mR_212 rfl trivial
theorem r213_0 : runs cal 213 0 [v0, v1, v2, v3, v4] [] I = runs cal 213 1 [v0, v1, v2, v3, v4] [vI (0)] I := runs_to (ins_of mI_213 (by rfl)) rfl rfl
theorem r213_1 : runs cal 213 1 [v0, v1, vI u, v3, v4] [vI x0] I = runs cal 213 2 [v0, v1, vI u, vI x0, v4] [] I := runs_to (ins_of mI_213 (by rfl)) rfl rfl
theorem r213_2 : runs cal 213 2 [v0, v1, v2, vI w, v4] [] I = runs cal 213 3 [v0, v1, v2, vI w, v4] [vI w] I := runs_to (ins_of mI_213 (by rfl)) rfl rfl
theorem r213_3 : runs cal 213 3 [vR 70, v1, v2, v3, v4] [vI x0] I = runs cal 213 4 [vR 70, v1, v2, v3, v4] [vR 70, vI x0] I := runs_to (ins_of mI_213 (by rfl)) rfl rfl
theorem r213_4 : runs cal 213 4 [v0, v1, v2, v3, v4] [vR 70, vI x1] I = (cal 159 [vR 70] I).bind (fun q => runs cal 213 7 [v0, v1, v2, v3, v4] (pushR q.1 [vI x1]) q.2) := st_call (st := false) (ins_of mI_213 (by rfl)) mC_213 mr_11_117 (by decide) mS_159 mN_159 rfl (Nat.le_of_ble_eq_true rfl) rfl rfl (Or.inr ⟨_, _, rfl, rcv mC_159 rfl wid_213 (by decide +kernel)⟩) (Or.inl (wid_213.trans wid_159.symm))
theorem r213_7 : runs cal 213 7 [v0, v1, v2, v3, v4] [vI x0, vI x1] I = if x1 < x0 then runs cal 213 10 [v0, v1, v2, v3, v4] [] I else runs cal 213 73 [v0, v1, v2, v3, v4] [] I := st_cmp_ge (ins_of mI_213 (by rfl)) (by decide)
theorem r213_10 : runs cal 213 10 [v0, v1, v2, v3, v4] [] I = runs cal 213 11 [v0, v1, v2, v3, v4] [vI (0)] I := runs_to (ins_of mI_213 (by rfl)) rfl rfl
theorem r213_11 : runs cal 213 11 [v0, v1, v2, vI u, v4] [vI x0] I = runs cal 213 13 [v0, v1, v2, vI u, vI x0] [] I := runs_to (ins_of mI_213 (by rfl)) rfl rfl
theorem r213_13 : runs cal 213 13 [v0, v1, v2, v3, vI w] [] I = runs cal 213 15 [v0, v1, v2, v3, vI w] [vI w] I := runs_to (ins_of mI_213 (by rfl)) rfl rfl
theorem r213_15 : runs cal 213 15 [v0, v1, v2, v3, v4] [vI x0] I = runs cal 213 16 [v0, v1, v2, v3, v4] [vI (2), vI x0] I := runs_to (ins_of mI_213 (by rfl)) rfl rfl
theorem r213_16 : runs cal 213 16 [v0, v1, v2, v3, v4] [vI x0, vI x1] I = if x1 < x0 then runs cal 213 19 [v0, v1, v2, v3, v4] [] I else runs cal 213 67 [v0, v1, v2, v3, v4] [] I := st_cmp_ge (ins_of mI_213 (by rfl)) (by decide)
theorem r213_19 : runs cal 213 19 [vR 70, v1, v2, v3, v4] [] I = runs cal 213 20 [vR 70, v1, v2, v3, v4] [vR 70] I := runs_to (ins_of mI_213 (by rfl)) rfl rfl
theorem r213_20 : runs cal 213 20 [v0, vI w, v2, v3, v4] [vR 70] I = runs cal 213 21 [v0, vI w, v2, v3, v4] [vI w, vR 70] I := runs_to (ins_of mI_213 (by rfl)) rfl rfl
theorem r213_21 : runs cal 213 21 [v0, v1, v2, v3, v4] [vI x0, vR 70] I = (cal 200 [vR 70, vI x0] I).bind (fun q => runs cal 213 24 [v0, v1, v2, v3, v4] (pushR q.1 []) q.2) := st_call (st := false) (ins_of mI_213 (by rfl)) mC_213 mr_11_260 (by decide) mS_200 mN_200 rfl (Nat.le_of_ble_eq_true rfl) rfl rfl (Or.inr ⟨_, _, rfl, rcv mC_200 rfl wid_213 (by decide +kernel)⟩) (Or.inl (wid_213.trans wid_200.symm))
theorem r213_24 : runs cal 213 24 [vR 70, v1, v2, v3, v4] [] I = runs cal 213 25 [vR 70, v1, v2, v3, v4] [vR 70] I := runs_to (ins_of mI_213 (by rfl)) rfl rfl
theorem r213_25 : runs cal 213 25 [v0, v1, v2, v3, v4] [vR 70] I = runs cal 213 26 [v0, v1, v2, v3, v4] [vI (4), vR 70] I := runs_to (ins_of mI_213 (by rfl)) rfl rfl
theorem r213_26 : runs cal 213 26 [v0, v1, v2, v3, v4] [vI x0, vR 70] I = runs cal 213 29 [v0, v1, v2, v3, v4] [] (mset I 70 9 x0) := st_putI (ins_of mI_213 (by rfl)) mC_213 fr_11_172 cT_70 (wdc wid_213 wd_70) rfl
theorem r213_29 : runs cal 213 29 [vR 70, v1, v2, v3, v4] [] I = runs cal 213 30 [vR 70, v1, v2, v3, v4] [vR 70] I := runs_to (ins_of mI_213 (by rfl)) rfl rfl
theorem r213_30 : runs cal 213 30 [v0, v1, v2, vI w, v4] [vR 70] I = runs cal 213 31 [v0, v1, v2, vI w, v4] [vI w, vR 70] I := runs_to (ins_of mI_213 (by rfl)) rfl rfl
theorem r213_31 : runs cal 213 31 [v0, v1, v2, v3, v4] [vI x0, vR 70] I = runs cal 213 34 [v0, v1, v2, v3, v4] [] (mset I 70 10 x0) := st_putI (ins_of mI_213 (by rfl)) mC_213 fr_11_166 cT_70 (wdc wid_213 wd_70) rfl
theorem r213_34 : runs cal 213 34 [vR 70, v1, v2, v3, v4] [] I = runs cal 213 35 [vR 70, v1, v2, v3, v4] [vR 70] I := runs_to (ins_of mI_213 (by rfl)) rfl rfl
theorem r213_35 : runs cal 213 35 [v0, v1, v2, v3, vI w] [vR 70] I = runs cal 213 37 [v0, v1, v2, v3, vI w] [vI w, vR 70] I := runs_to (ins_of mI_213 (by rfl)) rfl rfl
theorem r213_37 : runs cal 213 37 [v0, v1, v2, v3, v4] [vI x0, vR 70] I = runs cal 213 40 [v0, v1, v2, v3, v4] [] (mset I 70 11 x0) := st_putI (ins_of mI_213 (by rfl)) mC_213 fr_11_175 cT_70 (wdc wid_213 wd_70) rfl
theorem r213_40 : runs cal 213 40 [vR 70, v1, v2, v3, v4] [] I = runs cal 213 41 [vR 70, v1, v2, v3, v4] [vR 70] I := runs_to (ins_of mI_213 (by rfl)) rfl rfl
theorem r213_41 : runs cal 213 41 [v0, v1, v2, v3, v4] [vR 70] I = runs cal 213 42 [v0, v1, v2, v3, v4] [vI (0), vR 70] I := runs_to (ins_of mI_213 (by rfl)) rfl rfl
theorem r213_42 : runs cal 213 42 [v0, v1, v2, v3, v4] [vI x0, vR 70] I = runs cal 213 45 [v0, v1, v2, v3, v4] [] (mset I 70 12 x0) := st_putI (ins_of mI_213 (by rfl)) mC_213 fr_11_178 cT_70 (wdc wid_213 wd_70) rfl
theorem r213_45 : runs cal 213 45 [vR 70, v1, v2, v3, v4] [] I = runs cal 213 46 [vR 70, v1, v2, v3, v4] [vR 70] I := runs_to (ins_of mI_213 (by rfl)) rfl rfl
theorem r213_46 : runs cal 213 46 [v0, v1, v2, v3, v4] [vR 70] I = (cal 192 [vR 70] I).bind (fun q => runs cal 213 49 [v0, v1, v2, v3, v4] (pushR q.1 []) q.2) := st_call (st := false) (ins_of mI_213 (by rfl)) mC_213 mr_11_236 (by decide) mS_192 mN_192 rfl (Nat.le_of_ble_eq_true rfl) rfl rfl (Or.inr ⟨_, _, rfl, rcv mC_192 rfl wid_213 (by decide +kernel)⟩) (Or.inl (wid_213.trans wid_192.symm))
theorem r213_49 : runs cal 213 49 [v0, v1, v2, v3, v4] [vI x0] I = if x0 = 0 then runs cal 213 52 [v0, v1, v2, v3, v4] [] I else runs cal 213 61 [v0, v1, v2, v3, v4] [] I := st_if_ne (ins_of mI_213 (by rfl)) (by decide)
theorem r213_52 : runs cal 213 52 [vR 70, v1, v2, v3, v4] [] I = runs cal 213 53 [vR 70, v1, v2, v3, v4] [vR 70] I := runs_to (ins_of mI_213 (by rfl)) rfl rfl
theorem r213_53 : runs cal 213 53 [vR 70, v1, v2, v3, v4] [vR 70] I = runs cal 213 54 [vR 70, v1, v2, v3, v4] [vR 70, vR 70] I := runs_to (ins_of mI_213 (by rfl)) rfl rfl
theorem r213_54 : runs cal 213 54 [v0, v1, v2, v3, v4] [vR 70, vR 70] I = (cal 199 [vR 70] I).bind (fun q => runs cal 213 57 [v0, v1, v2, v3, v4] (pushR q.1 [vR 70]) q.2) := st_call (st := false) (ins_of mI_213 (by rfl)) mC_213 mr_11_266 (by decide) mS_199 mN_199 rfl (Nat.le_of_ble_eq_true rfl) rfl rfl (Or.inr ⟨_, _, rfl, rcv mC_199 rfl wid_213 (by decide +kernel)⟩) (Or.inl (wid_213.trans wid_199.symm))
theorem r213_57 : runs cal 213 57 [v0, v1, vI w, v3, v4] [vI x0, vR 70] I = runs cal 213 58 [v0, v1, vI w, v3, v4] [vI w, vI x0, vR 70] I := runs_to (ins_of mI_213 (by rfl)) rfl rfl
theorem r213_58 : runs cal 213 58 [v0, v1, v2, v3, v4] [vI x0, vI x1, vR 70] I = (cal 204 [vR 70, vI x1, vI x0] I).bind (fun q => runs cal 213 61 [v0, v1, v2, v3, v4] (pushR q.1 []) q.2) := st_call (st := false) (ins_of mI_213 (by rfl)) mC_213 mr_11_269 (by decide) mS_204 mN_204 rfl (Nat.le_of_ble_eq_true rfl) rfl rfl (Or.inr ⟨_, _, rfl, rcv mC_204 rfl wid_213 (by decide +kernel)⟩) (Or.inl (wid_213.trans wid_204.symm))
theorem r213_61 : runs cal 213 61 [v0, v1, v2, vI u, vI w] [] I = runs cal 213 64 [v0, v1, v2, vI u, vI (iadd w (1))] [] I := runs_to (ins_of mI_213 (by rfl)) rfl rfl
theorem r213_64 : runs cal 213 64 [v0, v1, v2, v3, v4] [] I = runs cal 213 13 [v0, v1, v2, v3, v4] [] I := st_goto (ins_of mI_213 (by rfl)) (by decide)
theorem r213_67 : runs cal 213 67 [v0, v1, vI u, vI w, v4] [] I = runs cal 213 70 [v0, v1, vI u, vI (iadd w (1)), v4] [] I := runs_to (ins_of mI_213 (by rfl)) rfl rfl
theorem r213_70 : runs cal 213 70 [v0, v1, v2, v3, v4] [] I = runs cal 213 2 [v0, v1, v2, v3, v4] [] I := st_goto (ins_of mI_213 (by rfl)) (by decide)
theorem r213_73 : runs cal 213 73 [v0, v1, v2, v3, v4] [] I = some (none, I) := st_ret (q := none) (k := 3) (ins_of mI_213 (by rfl)) rfl (by decide) mR_213 rfl trivial
theorem r214_0 : runs cal 214 0 [v0, v1, v2, vI w, v4] [] I = runs cal 214 1 [v0, v1, v2, vI w, v4] [vI w] I := runs_to (ins_of mI_214 (by rfl)) rfl rfl
theorem r214_1 : runs cal 214 1 [v0, v1, v2, v3, v4] [vI x0] I = runs cal 214 2 [v0, v1, v2, v3, v4] [vL x0] I := runs_to (ins_of mI_214 (by rfl)) rfl rfl
theorem r214_2 : runs cal 214 2 [v0, v1, v2, v3, v4] [vL x0] I = runs cal 214 3 [v0, v1, v2, v3, v4] [vL 1, vL x0] I := runs_to (ins_of mI_214 (by rfl)) rfl rfl
theorem r214_3 : runs cal 214 3 [v0, v1, v2, v3, v4] [vL x0, vL x1] I = runs cal 214 6 [v0, v1, v2, v3, v4] [vL (8), vL x0, vL x1] I := runs_to (ins_of mI_214 (by rfl)) rfl (by simp only [stepI, ldk2, mC_214]; rfl)
theorem r214_6 : runs cal 214 6 [v0, v1, v2, v3, v4] [vL x0, vL x1, vL x2] I = (cal 142 [vL x2, vL x1, vL x0] I).bind (fun q => runs cal 214 9 [v0, v1, v2, v3, v4] (pushR q.1 []) q.2) := st_call (st := true) (ins_of mI_214 (by rfl)) mC_214 mr_11_121 (by decide) mS_142 mN_142 rfl (Nat.le_of_ble_eq_true rfl) rfl rfl (Or.inl rfl) (Or.inl (wid_214.trans wid_142.symm))
theorem r214_9 : runs cal 214 9 [v0, v1, v2, v3, v4] [vI x0] I = if x0 = 0 then runs cal 214 12 [v0, v1, v2, v3, v4] [] I else runs cal 214 19 [v0, v1, v2, v3, v4] [] I := st_if_ne (ins_of mI_214 (by rfl)) (by decide)
theorem r214_12 : runs cal 214 12 [vR 70, v1, v2, v3, v4] [] I = runs cal 214 13 [vR 70, v1, v2, v3, v4] [vR 70] I := runs_to (ins_of mI_214 (by rfl)) rfl rfl
theorem r214_13 : runs cal 214 13 [v0, v1, v2, v3, v4] [vR 70] I = runs cal 214 15 [v0, v1, v2, v3, v4] [vI (-2), vR 70] I := runs_to (ins_of mI_214 (by rfl)) rfl rfl
theorem r214_15 : runs cal 214 15 [v0, v1, v2, v3, v4] [vI x0, vR 70] I = (cal 143 [vR 70, vI x0] I).bind (fun q => runs cal 214 18 [v0, v1, v2, v3, v4] (pushR q.1 []) q.2) := st_call (st := false) (ins_of mI_214 (by rfl)) mC_214 mr_11_251 (by decide) mS_143 mN_143 rfl (Nat.le_of_ble_eq_true rfl) rfl rfl (Or.inr ⟨_, _, rfl, rcv mC_143 rfl wid_214 (by decide +kernel)⟩) (Or.inl (wid_214.trans wid_143.symm))
theorem r214_18 : runs cal 214 18 [v0, v1, v2, v3, v4] [vI x0] I = some (some (vI x0), I) := st_ret (q := some (vI x0)) (k := 0) (ins_of mI_214 (by rfl)) rfl (by decide) mR_214 rfl trivial
theorem r214_19 : runs cal 214 19 [vR 70, v1, v2, v3, v4] [] I = runs cal 214 20 [vR 70, v1, v2, v3, v4] [vR 70] I := runs_to (ins_of mI_214 (by rfl)) rfl rfl
theorem r214_20 : runs cal 214 20 [v0, v1, v2, v3, v4] [vR 70] I = runs cal 214 23 [v0, v1, v2, v3, v4] [vI (I 70 20)] I := st_getI (ins_of mI_214 (by rfl)) mC_214 (by decide) fr_11_292 cT_70 (wdc wid_214 wd_70) (Or.inl rfl)
theorem r214_23 : runs cal 214 23 [v0, v1, v2, vI w, v4] [vI x0] I = runs cal 214 24 [v0, v1, v2, vI w, v4] [vI w, vI x0] I := runs_to (ins_of mI_214 (by rfl)) rfl rfl
theorem r214_24 : runs cal 214 24 [v0, v1, v2, v3, v4] [vI x0, vI x1] I = runs cal 214 25 [v0, v1, v2, v3, v4] [vI (iadd x1 x0)] I := runs_to (ins_of mI_214 (by rfl)) rfl rfl
theorem r214_25 : runs cal 214 25 [v0, v1, v2, v3, v4] [vI x0] I = runs cal 214 28 [v0, v1, v2, v3, v4] [vI (200), vI x0] I := runs_to (ins_of mI_214 (by rfl)) rfl rfl
theorem r214_28 : runs cal 214 28 [v0, v1, v2, v3, v4] [vI x0, vI x1] I = if x0 < x1 then runs cal 214 31 [v0, v1, v2, v3, v4] [] I else runs cal 214 36 [v0, v1, v2, v3, v4] [] I := st_cmp_le (ins_of mI_214 (by rfl)) (by decide)
theorem r214_31 : runs cal 214 31 [vR 70, v1, v2, v3, v4] [] I = runs cal 214 32 [vR 70, v1, v2, v3, v4] [vR 70] I := runs_to (ins_of mI_214 (by rfl)) rfl rfl
theorem r214_32 : runs cal 214 32 [v0, v1, v2, v3, v4] [vR 70] I = (cal 145 [vR 70] I).bind (fun q => runs cal 214 35 [v0, v1, v2, v3, v4] (pushR q.1 []) q.2) := st_call (st := false) (ins_of mI_214 (by rfl)) mC_214 mr_11_295 (by decide) mS_145 mN_145 rfl (Nat.le_of_ble_eq_true rfl) rfl rfl (Or.inr ⟨_, _, rfl, rcv mC_145 rfl wid_214 (by decide +kernel)⟩) (Or.inl (wid_214.trans wid_145.symm))
theorem r214_35 : runs cal 214 35 [v0, v1, v2, v3, v4] [vI x0] I = some (some (vI x0), I) := st_ret (q := some (vI x0)) (k := 0) (ins_of mI_214 (by rfl)) rfl (by decide) mR_214 rfl trivial
theorem r214_36 : runs cal 214 36 [v0, v1, v2, vI w, v4] [] I = runs cal 214 37 [v0, v1, v2, vI w, v4] [vI w] I := runs_to (ins_of mI_214 (by rfl)) rfl rfl
theorem r214_37 : runs cal 214 37 [v0, v1, v2, v3, v4] [vI x0] I = runs cal 214 38 [v0, v1, v2, v3, v4] [vI (1), vI x0] I := runs_to (ins_of mI_214 (by rfl)) rfl rfl
theorem r214_38 : runs cal 214 38 [v0, v1, v2, v3, v4] [vI x0, vI x1] I = runs cal 214 39 [v0, v1, v2, v3, v4] [vI (isub x1 x0)] I := runs_to (ins_of mI_214 (by rfl)) rfl rfl
theorem r214_39 : runs cal 214 39 [v0, v1, v2, vI u, v4] [vI x0] I = runs cal 214 41 [v0, v1, v2, vI u, vI x0] [] I := runs_to (ins_of mI_214 (by rfl)) rfl rfl
theorem r214_41 : runs cal 214 41 [v0, v1, v2, v3, vI w] [] I = runs cal 214 43 [v0, v1, v2, v3, vI w] [vI w] I := runs_to (ins_of mI_214 (by rfl)) rfl rfl
theorem r214_43 : runs cal 214 43 [v0, v1, v2, v3, v4] [vI x0] I = if x0 < 0 then runs cal 214 83 [v0, v1, v2, v3, v4] [] I else runs cal 214 46 [v0, v1, v2, v3, v4] [] I := st_if_lt (ins_of mI_214 (by rfl)) (by decide)
theorem r214_46 : runs cal 214 46 [vR 70, v1, v2, v3, v4] [] I = runs cal 214 47 [vR 70, v1, v2, v3, v4] [vR 70] I := runs_to (ins_of mI_214 (by rfl)) rfl rfl
theorem r214_47 : runs cal 214 47 [v0, v1, v2, v3, v4] [vR 70] I = runs cal 214 50 [v0, v1, v2, v3, v4] [vR 84] I := st_getR (ins_of mI_214 (by rfl)) mC_214 (by decide) fr_11_52 cT_70 (wdc wid_214 wd_70) rfl rfl
theorem r214_50 : runs cal 214 50 [vR 70, v1, v2, v3, v4] [vR 84] I = runs cal 214 51 [vR 70, v1, v2, v3, v4] [vR 70, vR 84] I := runs_to (ins_of mI_214 (by rfl)) rfl rfl
theorem r214_51 : runs cal 214 51 [v0, v1, v2, v3, v4] [vR 70, vR 84] I = runs cal 214 54 [v0, v1, v2, v3, v4] [vI (I 70 20), vR 84] I := st_getI (ins_of mI_214 (by rfl)) mC_214 (by decide) fr_11_292 cT_70 (wdc wid_214 wd_70) (Or.inl rfl)
theorem r214_54 : runs cal 214 54 [v0, vL w, v2, v3, v4] [vI x0, vR 84] I = runs cal 214 55 [v0, vL w, v2, v3, v4] [vL w, vI x0, vR 84] I := runs_to (ins_of mI_214 (by rfl)) rfl rfl
theorem r214_55 : runs cal 214 55 [v0, v1, v2, v3, v4] [vL x0, vI x1, vR 84] I = runs cal 214 57 [v0, v1, v2, v3, v4] [vI (8), vL x0, vI x1, vR 84] I := runs_to (ins_of mI_214 (by rfl)) rfl rfl
theorem r214_57 : runs cal 214 57 [v0, v1, v2, v3, vI w] [vI x0, vL x1, vI x2, vR 84] I = runs cal 214 59 [v0, v1, v2, v3, vI w] [vI w, vI x0, vL x1, vI x2, vR 84] I := runs_to (ins_of mI_214 (by rfl)) rfl rfl
theorem r214_59 : runs cal 214 59 [v0, v1, v2, v3, v4] [vI x0, vI x1, vL x2, vI x3, vR 84] I = runs cal 214 60 [v0, v1, v2, v3, v4] [vI (imul x1 x0), vL x2, vI x3, vR 84] I := runs_to (ins_of mI_214 (by rfl)) rfl rfl
theorem r214_60 : runs cal 214 60 [v0, v1, v2, v3, v4] [vI x0, vL x1, vI x2, vR 84] I = runs cal 214 61 [v0, v1, v2, v3, v4] [vL (lushr x1 x0), vI x2, vR 84] I := runs_to (ins_of mI_214 (by rfl)) rfl rfl
theorem r214_61 : runs cal 214 61 [v0, v1, v2, v3, v4] [vL x0, vI x1, vR 84] I = runs cal 214 64 [v0, v1, v2, v3, v4] [vL (255), vL x0, vI x1, vR 84] I := runs_to (ins_of mI_214 (by rfl)) rfl (by simp only [stepI, ldk2, mC_214]; rfl)
theorem r214_64 : runs cal 214 64 [v0, v1, v2, v3, v4] [vL x0, vL x1, vI x2, vR 84] I = runs cal 214 65 [v0, v1, v2, v3, v4] [vL (land x1 x0), vI x2, vR 84] I := runs_to (ins_of mI_214 (by rfl)) rfl rfl
theorem r214_65 : runs cal 214 65 [v0, v1, v2, v3, v4] [vL x0, vI x1, vR 84] I = runs cal 214 66 [v0, v1, v2, v3, v4] [vI (l2i x0), vI x1, vR 84] I := runs_to (ins_of mI_214 (by rfl)) rfl rfl
theorem r214_66 : runs cal 214 66 [v0, v1, v2, v3, v4] [vI x0, vI x1, vR 84] I = if 0 ≤ x1 ∧ x1 < 200 then runs cal 214 67 [v0, v1, v2, v3, v4] [] (mset I 84 x1 x0) else none := st_iast (ins_of mI_214 (by rfl)) cT_84 (wdc wid_214 wd_84)
theorem r214_67 : runs cal 214 67 [vR 70, v1, v2, v3, v4] [] I = runs cal 214 68 [vR 70, v1, v2, v3, v4] [vR 70] I := runs_to (ins_of mI_214 (by rfl)) rfl rfl
theorem r214_68 : runs cal 214 68 [v0, v1, v2, v3, v4] [vR 70] I = runs cal 214 69 [v0, v1, v2, v3, v4] [vR 70, vR 70] I := runs_to (ins_of mI_214 (by rfl)) rfl rfl
theorem r214_69 : runs cal 214 69 [v0, v1, v2, v3, v4] [vR 70, vR 70] I = runs cal 214 72 [v0, v1, v2, v3, v4] [vI (I 70 20), vR 70] I := st_getI (ins_of mI_214 (by rfl)) mC_214 (by decide) fr_11_292 cT_70 (wdc wid_214 wd_70) (Or.inl rfl)
theorem r214_72 : runs cal 214 72 [v0, v1, v2, v3, v4] [vI x0, vR 70] I = runs cal 214 73 [v0, v1, v2, v3, v4] [vI (1), vI x0, vR 70] I := runs_to (ins_of mI_214 (by rfl)) rfl rfl
theorem r214_73 : runs cal 214 73 [v0, v1, v2, v3, v4] [vI x0, vI x1, vR 70] I = runs cal 214 74 [v0, v1, v2, v3, v4] [vI (iadd x1 x0), vR 70] I := runs_to (ins_of mI_214 (by rfl)) rfl rfl
theorem r214_74 : runs cal 214 74 [v0, v1, v2, v3, v4] [vI x0, vR 70] I = runs cal 214 77 [v0, v1, v2, v3, v4] [] (mset I 70 20 x0) := st_putI (ins_of mI_214 (by rfl)) mC_214 fr_11_292 cT_70 (wdc wid_214 wd_70) rfl
theorem r214_77 : runs cal 214 77 [v0, v1, v2, vI u, vI w] [] I = runs cal 214 80 [v0, v1, v2, vI u, vI (iadd w (-1))] [] I := runs_to (ins_of mI_214 (by rfl)) rfl rfl
theorem r214_80 : runs cal 214 80 [v0, v1, v2, v3, v4] [] I = runs cal 214 41 [v0, v1, v2, v3, v4] [] I := st_goto (ins_of mI_214 (by rfl)) (by decide)
theorem r214_83 : runs cal 214 83 [vR 70, v1, v2, v3, v4] [] I = runs cal 214 84 [vR 70, v1, v2, v3, v4] [vR 70] I := runs_to (ins_of mI_214 (by rfl)) rfl rfl
theorem r214_84 : runs cal 214 84 [v0, v1, v2, v3, v4] [vR 70] I = runs cal 214 87 [v0, v1, v2, v3, v4] [vI (I 70 20)] I := st_getI (ins_of mI_214 (by rfl)) mC_214 (by decide) fr_11_292 cT_70 (wdc wid_214 wd_70) (Or.inl rfl)
theorem r214_87 : runs cal 214 87 [v0, v1, v2, v3, v4] [vI x0] I = some (some (vI x0), I) := st_ret (q := some (vI x0)) (k := 0) (ins_of mI_214 (by rfl)) rfl (by decide) mR_214 rfl trivial
theorem r215_0 : runs cal 215 0 [vR 70, v1] [] I = runs cal 215 1 [vR 70, v1] [vR 70] I := runs_to (ins_of mI_215 (by rfl)) rfl rfl
theorem r215_1 : runs cal 215 1 [v0, v1] [vR 70] I = runs cal 215 4 [v0, v1] [vI (I 70 20)] I := st_getI (ins_of mI_215 (by rfl)) mC_215 (by decide) fr_11_292 cT_70 (wdc wid_215 wd_70) (Or.inl rfl)
theorem r215_4 : runs cal 215 4 [vR b0, v1] [vI x0] I = runs cal 215 5 [vR b0, vI x0] [] I := runs_to (ins_of mI_215 (by rfl)) rfl rfl
theorem r215_5 : runs cal 215 5 [vR 70, v1] [] I = runs cal 215 6 [vR 70, v1] [vR 70] I := runs_to (ins_of mI_215 (by rfl)) rfl rfl
theorem r215_6 : runs cal 215 6 [v0, v1] [vR 70] I = runs cal 215 7 [v0, v1] [vI (0), vR 70] I := runs_to (ins_of mI_215 (by rfl)) rfl rfl
theorem r215_7 : runs cal 215 7 [v0, v1] [vI x0, vR 70] I = runs cal 215 10 [v0, v1] [] (mset I 70 20 x0) := st_putI (ins_of mI_215 (by rfl)) mC_215 fr_11_292 cT_70 (wdc wid_215 wd_70) rfl
theorem r215_10 : runs cal 215 10 [v0, vI w] [] I = runs cal 215 11 [v0, vI w] [vI w] I := runs_to (ins_of mI_215 (by rfl)) rfl rfl
theorem r215_11 : runs cal 215 11 [v0, v1] [vI x0] I = some (some (vI x0), I) := st_ret (q := some (vI x0)) (k := 0) (ins_of mI_215 (by rfl)) rfl (by decide) mR_215 rfl trivial
theorem r216_0 : runs cal 216 0 [vI w] [] I = runs cal 216 1 [vI w] [vI w] I := runs_to (ins_of mI_216 (by rfl)) rfl rfl
theorem r216_1 : runs cal 216 1 [v0] [vI x0] I = runs cal 216 2 [v0] [vL x0] I := runs_to (ins_of mI_216 (by rfl)) rfl rfl
theorem r216_2 : runs cal 216 2 [v0] [vL x0] I = runs cal 216 5 [v0] [vL (97), vL x0] I := runs_to (ins_of mI_216 (by rfl)) rfl (by simp only [stepI, ldk2, mC_216]; rfl)
theorem r216_5 : runs cal 216 5 [v0] [vL x0, vL x1] I = runs cal 216 8 [v0] [vL (122), vL x0, vL x1] I := runs_to (ins_of mI_216 (by rfl)) rfl (by simp only [stepI, ldk2, mC_216]; rfl)
theorem r216_8 : runs cal 216 8 [v0] [vL x0, vL x1, vL x2] I = (cal 142 [vL x2, vL x1, vL x0] I).bind (fun q => runs cal 216 11 [v0] (pushR q.1 []) q.2) := st_call (st := true) (ins_of mI_216 (by rfl)) mC_216 mr_11_121 (by decide) mS_142 mN_142 rfl (Nat.le_of_ble_eq_true rfl) rfl rfl (Or.inl rfl) (Or.inl (wid_216.trans wid_142.symm))
theorem r216_11 : runs cal 216 11 [v0] [vI x0] I = if x0 = 0 ∨ x0 = 1 then some (some (vI x0), I) else none := st_retZ (ins_of mI_216 (by rfl)) mR_216 (Or.inl rfl)
theorem r217_0 : runs cal 217 0 [vI w] [] I = runs cal 217 1 [vI w] [vI w] I := runs_to (ins_of mI_217 (by rfl)) rfl rfl
theorem r217_1 : runs cal 217 1 [v0] [vI x0] I = runs cal 217 2 [v0] [vL x0] I := runs_to (ins_of mI_217 (by rfl)) rfl rfl
theorem r217_2 : runs cal 217 2 [v0] [vL x0] I = runs cal 217 5 [v0] [vL (48), vL x0] I := runs_to (ins_of mI_217 (by rfl)) rfl (by simp only [stepI, ldk2, mC_217]; rfl)
theorem r217_5 : runs cal 217 5 [v0] [vL x0, vL x1] I = runs cal 217 8 [v0] [vL (57), vL x0, vL x1] I := runs_to (ins_of mI_217 (by rfl)) rfl (by simp only [stepI, ldk2, mC_217]; rfl)
theorem r217_8 : runs cal 217 8 [v0] [vL x0, vL x1, vL x2] I = (cal 142 [vL x2, vL x1, vL x0] I).bind (fun q => runs cal 217 11 [v0] (pushR q.1 []) q.2) := st_call (st := true) (ins_of mI_217 (by rfl)) mC_217 mr_11_121 (by decide) mS_142 mN_142 rfl (Nat.le_of_ble_eq_true rfl) rfl rfl (Or.inl rfl) (Or.inl (wid_217.trans wid_142.symm))
theorem r217_11 : runs cal 217 11 [v0] [vI x0] I = if x0 = 0 ∨ x0 = 1 then some (some (vI x0), I) else none := st_retZ (ins_of mI_217 (by rfl)) mR_217 (Or.inl rfl)
set_option maxRecDepth 8000 in
theorem r218_0 : runs cal 218 0 [vR 70, v1, v2, v3, v4] [] I = runs cal 218 1 [vR 70, v1, v2, v3, v4] [vR 70] I := runs_to (ins_of mI_218 (by rfl)) rfl rfl
set_option maxRecDepth 8000 in
theorem r218_1 : runs cal 218 1 [v0, vI w, v2, v3, v4] [vR 70] I = runs cal 218 2 [v0, vI w, v2, v3, v4] [vI w, vR 70] I := runs_to (ins_of mI_218 (by rfl)) rfl rfl
set_option maxRecDepth 8000 in
theorem r218_2 : runs cal 218 2 [v0, v1, v2, v3, v4] [vI x0, vR 70] I = runs cal 218 5 [v0, v1, v2, v3, v4] [] (mset I 70 21 x0) := st_putI (ins_of mI_218 (by rfl)) mC_218 fr_11_308 cT_70 (wdc wid_218 wd_70) rfl
set_option maxRecDepth 8000 in
theorem r218_5 : runs cal 218 5 [vR 70, v1, v2, v3, v4] [] I = runs cal 218 6 [vR 70, v1, v2, v3, v4] [vR 70] I := runs_to (ins_of mI_218 (by rfl)) rfl rfl
set_option maxRecDepth 8000 in
theorem r218_6 : runs cal 218 6 [v0, v1, v2, v3, v4] [vR 70] I = runs cal 218 9 [v0, v1, v2, v3, v4] [vI (I 70 21)] I := st_getI (ins_of mI_218 (by rfl)) mC_218 (by decide) fr_11_308 cT_70 (wdc wid_218 wd_70) (Or.inl rfl)
set_option maxRecDepth 8000 in
theorem r218_9 : runs cal 218 9 [vR 70, v1, v2, v3, v4] [vI x0] I = runs cal 218 10 [vR 70, v1, v2, v3, v4] [vR 70, vI x0] I := runs_to (ins_of mI_218 (by rfl)) rfl rfl
set_option maxRecDepth 8000 in
theorem r218_10 : runs cal 218 10 [v0, v1, v2, v3, v4] [vR 70, vI x1] I = runs cal 218 13 [v0, v1, v2, v3, v4] [vI (I 70 20), vI x1] I := st_getI (ins_of mI_218 (by rfl)) mC_218 (by decide) fr_11_292 cT_70 (wdc wid_218 wd_70) (Or.inl rfl)
set_option maxRecDepth 8000 in
theorem r218_13 : runs cal 218 13 [v0, v1, v2, v3, v4] [vI x0, vI x1] I = if x1 < x0 then runs cal 218 16 [v0, v1, v2, v3, v4] [] I else runs cal 218 43 [v0, v1, v2, v3, v4] [] I := st_cmp_ge (ins_of mI_218 (by rfl)) (by decide)
set_option maxRecDepth 8000 in
theorem r218_16 : runs cal 218 16 [vR 70, v1, v2, v3, v4] [] I = runs cal 218 17 [vR 70, v1, v2, v3, v4] [vR 70] I := runs_to (ins_of mI_218 (by rfl)) rfl rfl
set_option maxRecDepth 8000 in
theorem r218_17 : runs cal 218 17 [v0, v1, v2, v3, v4] [vR 70] I = runs cal 218 20 [v0, v1, v2, v3, v4] [vR 84] I := st_getR (ins_of mI_218 (by rfl)) mC_218 (by decide) fr_11_52 cT_70 (wdc wid_218 wd_70) rfl rfl
set_option maxRecDepth 8000 in
theorem r218_20 : runs cal 218 20 [vR 70, v1, v2, v3, v4] [vR 84] I = runs cal 218 21 [vR 70, v1, v2, v3, v4] [vR 70, vR 84] I := runs_to (ins_of mI_218 (by rfl)) rfl rfl
set_option maxRecDepth 8000 in
theorem r218_21 : runs cal 218 21 [v0, v1, v2, v3, v4] [vR 70, vR 84] I = runs cal 218 24 [v0, v1, v2, v3, v4] [vI (I 70 21), vR 84] I := st_getI (ins_of mI_218 (by rfl)) mC_218 (by decide) fr_11_308 cT_70 (wdc wid_218 wd_70) (Or.inl rfl)
set_option maxRecDepth 8000 in
theorem r218_24 : runs cal 218 24 [v0, v1, v2, v3, v4] [vI x0, vR 84] I = if 0 ≤ x0 ∧ x0 < 200 then runs cal 218 25 [v0, v1, v2, v3, v4] [vI (I 84 x0)] I else none := st_iald (ins_of mI_218 (by rfl)) cT_84 (wdc wid_218 wd_84)
set_option maxRecDepth 8000 in
theorem r218_25 : runs cal 218 25 [v0, v1, v2, v3, v4] [vI x0] I = runs cal 218 27 [v0, v1, v2, v3, v4] [vI (32), vI x0] I := runs_to (ins_of mI_218 (by rfl)) rfl rfl
set_option maxRecDepth 8000 in
theorem r218_27 : runs cal 218 27 [v0, v1, v2, v3, v4] [vI x0, vI x1] I = if x1 = x0 then runs cal 218 30 [v0, v1, v2, v3, v4] [] I else runs cal 218 43 [v0, v1, v2, v3, v4] [] I := st_cmp_ne (ins_of mI_218 (by rfl)) (by decide)
set_option maxRecDepth 8000 in
theorem r218_30 : runs cal 218 30 [vR 70, v1, v2, v3, v4] [] I = runs cal 218 31 [vR 70, v1, v2, v3, v4] [vR 70] I := runs_to (ins_of mI_218 (by rfl)) rfl rfl
set_option maxRecDepth 8000 in
theorem r218_31 : runs cal 218 31 [v0, v1, v2, v3, v4] [vR 70] I = runs cal 218 32 [v0, v1, v2, v3, v4] [vR 70, vR 70] I := runs_to (ins_of mI_218 (by rfl)) rfl rfl
set_option maxRecDepth 8000 in
theorem r218_32 : runs cal 218 32 [v0, v1, v2, v3, v4] [vR 70, vR 70] I = runs cal 218 35 [v0, v1, v2, v3, v4] [vI (I 70 21), vR 70] I := st_getI (ins_of mI_218 (by rfl)) mC_218 (by decide) fr_11_308 cT_70 (wdc wid_218 wd_70) (Or.inl rfl)
set_option maxRecDepth 8000 in
theorem r218_35 : runs cal 218 35 [v0, v1, v2, v3, v4] [vI x0, vR 70] I = runs cal 218 36 [v0, v1, v2, v3, v4] [vI (1), vI x0, vR 70] I := runs_to (ins_of mI_218 (by rfl)) rfl rfl
set_option maxRecDepth 8000 in
theorem r218_36 : runs cal 218 36 [v0, v1, v2, v3, v4] [vI x0, vI x1, vR 70] I = runs cal 218 37 [v0, v1, v2, v3, v4] [vI (iadd x1 x0), vR 70] I := runs_to (ins_of mI_218 (by rfl)) rfl rfl
set_option maxRecDepth 8000 in
theorem r218_37 : runs cal 218 37 [v0, v1, v2, v3, v4] [vI x0, vR 70] I = runs cal 218 40 [v0, v1, v2, v3, v4] [] (mset I 70 21 x0) := st_putI (ins_of mI_218 (by rfl)) mC_218 fr_11_308 cT_70 (wdc wid_218 wd_70) rfl
set_option maxRecDepth 8000 in
theorem r218_40 : runs cal 218 40 [v0, v1, v2, v3, v4] [] I = runs cal 218 5 [v0, v1, v2, v3, v4] [] I := st_goto (ins_of mI_218 (by rfl)) (by decide)
set_option maxRecDepth 8000 in
theorem r218_43 : runs cal 218 43 [vR 70, v1, v2, v3, v4] [] I = runs cal 218 44 [vR 70, v1, v2, v3, v4] [vR 70] I := runs_to (ins_of mI_218 (by rfl)) rfl rfl
set_option maxRecDepth 8000 in
theorem r218_44 : runs cal 218 44 [v0, v1, v2, v3, v4] [vR 70] I = runs cal 218 45 [v0, v1, v2, v3, v4] [vI (0), vR 70] I := runs_to (ins_of mI_218 (by rfl)) rfl rfl
set_option maxRecDepth 8000 in
theorem r218_45 : runs cal 218 45 [v0, v1, v2, v3, v4] [vI x0, vR 70] I = runs cal 218 48 [v0, v1, v2, v3, v4] [] (mset I 70 22 x0) := st_putI (ins_of mI_218 (by rfl)) mC_218 fr_11_311 cT_70 (wdc wid_218 wd_70) rfl
set_option maxRecDepth 8000 in
theorem r218_48 : runs cal 218 48 [vR 70, v1, v2, v3, v4] [] I = runs cal 218 49 [vR 70, v1, v2, v3, v4] [vR 70] I := runs_to (ins_of mI_218 (by rfl)) rfl rfl
set_option maxRecDepth 8000 in
theorem r218_49 : runs cal 218 49 [v0, v1, v2, v3, v4] [vR 70] I = runs cal 218 50 [v0, v1, v2, v3, v4] [vI (0), vR 70] I := runs_to (ins_of mI_218 (by rfl)) rfl rfl
set_option maxRecDepth 8000 in
theorem r218_50 : runs cal 218 50 [v0, v1, v2, v3, v4] [vI x0, vR 70] I = runs cal 218 53 [v0, v1, v2, v3, v4] [] (mset I 70 23 x0) := st_putI (ins_of mI_218 (by rfl)) mC_218 fr_11_314 cT_70 (wdc wid_218 wd_70) rfl
set_option maxRecDepth 8000 in
theorem r218_53 : runs cal 218 53 [vR 70, v1, v2, v3, v4] [] I = runs cal 218 54 [vR 70, v1, v2, v3, v4] [vR 70] I := runs_to (ins_of mI_218 (by rfl)) rfl rfl
set_option maxRecDepth 8000 in
theorem r218_54 : runs cal 218 54 [v0, v1, v2, v3, v4] [vR 70] I = runs cal 218 55 [v0, v1, v2, v3, v4] [vI (0), vR 70] I := runs_to (ins_of mI_218 (by rfl)) rfl rfl
set_option maxRecDepth 8000 in
theorem r218_55 : runs cal 218 55 [v0, v1, v2, v3, v4] [vI x0, vR 70] I = runs cal 218 58 [v0, v1, v2, v3, v4] [] (mset I 70 24 x0) := st_putI (ins_of mI_218 (by rfl)) mC_218 fr_11_317 cT_70 (wdc wid_218 wd_70) rfl
set_option maxRecDepth 8000 in
theorem r218_58 : runs cal 218 58 [vR 70, v1, v2, v3, v4] [] I = runs cal 218 59 [vR 70, v1, v2, v3, v4] [vR 70] I := runs_to (ins_of mI_218 (by rfl)) rfl rfl
set_option maxRecDepth 8000 in
theorem r218_59 : runs cal 218 59 [v0, v1, v2, v3, v4] [vR 70] I = runs cal 218 62 [v0, v1, v2, v3, v4] [vI (I 70 21)] I := st_getI (ins_of mI_218 (by rfl)) mC_218 (by decide) fr_11_308 cT_70 (wdc wid_218 wd_70) (Or.inl rfl)
set_option maxRecDepth 8000 in
theorem r218_62 : runs cal 218 62 [vR 70, v1, v2, v3, v4] [vI x0] I = runs cal 218 63 [vR 70, v1, v2, v3, v4] [vR 70, vI x0] I := runs_to (ins_of mI_218 (by rfl)) rfl rfl
set_option maxRecDepth 8000 in
theorem r218_63 : runs cal 218 63 [v0, v1, v2, v3, v4] [vR 70, vI x1] I = runs cal 218 66 [v0, v1, v2, v3, v4] [vI (I 70 20), vI x1] I := st_getI (ins_of mI_218 (by rfl)) mC_218 (by decide) fr_11_292 cT_70 (wdc wid_218 wd_70) (Or.inl rfl)
set_option maxRecDepth 8000 in
theorem r218_66 : runs cal 218 66 [v0, v1, v2, v3, v4] [vI x0, vI x1] I = if x1 = x0 then runs cal 218 69 [v0, v1, v2, v3, v4] [] I else runs cal 218 70 [v0, v1, v2, v3, v4] [] I := st_cmp_ne (ins_of mI_218 (by rfl)) (by decide)
set_option maxRecDepth 8000 in
theorem r218_69 : runs cal 218 69 [v0, v1, v2, v3, v4] [] I = some (none, I) := st_ret (q := none) (k := 3) (ins_of mI_218 (by rfl)) rfl (by decide) mR_218 rfl trivial
set_option maxRecDepth 8000 in
theorem r218_70 : runs cal 218 70 [vR 70, v1, v2, v3, v4] [] I = runs cal 218 71 [vR 70, v1, v2, v3, v4] [vR 70] I := runs_to (ins_of mI_218 (by rfl)) rfl rfl
set_option maxRecDepth 8000 in
theorem r218_71 : runs cal 218 71 [v0, v1, v2, v3, v4] [vR 70] I = runs cal 218 74 [v0, v1, v2, v3, v4] [vR 84] I := st_getR (ins_of mI_218 (by rfl)) mC_218 (by decide) fr_11_52 cT_70 (wdc wid_218 wd_70) rfl rfl
set_option maxRecDepth 8000 in
theorem r218_74 : runs cal 218 74 [vR 70, v1, v2, v3, v4] [vR 84] I = runs cal 218 75 [vR 70, v1, v2, v3, v4] [vR 70, vR 84] I := runs_to (ins_of mI_218 (by rfl)) rfl rfl
set_option maxRecDepth 8000 in
theorem r218_75 : runs cal 218 75 [v0, v1, v2, v3, v4] [vR 70, vR 84] I = runs cal 218 78 [v0, v1, v2, v3, v4] [vI (I 70 21), vR 84] I := st_getI (ins_of mI_218 (by rfl)) mC_218 (by decide) fr_11_308 cT_70 (wdc wid_218 wd_70) (Or.inl rfl)
set_option maxRecDepth 8000 in
theorem r218_78 : runs cal 218 78 [v0, v1, v2, v3, v4] [vI x0, vR 84] I = if 0 ≤ x0 ∧ x0 < 200 then runs cal 218 79 [v0, v1, v2, v3, v4] [vI (I 84 x0)] I else none := st_iald (ins_of mI_218 (by rfl)) cT_84 (wdc wid_218 wd_84)
set_option maxRecDepth 8000 in
theorem r218_79 : runs cal 218 79 [v0, vI u, v2, v3, v4] [vI x0] I = runs cal 218 80 [v0, vI u, vI x0, v3, v4] [] I := runs_to (ins_of mI_218 (by rfl)) rfl rfl
set_option maxRecDepth 8000 in
theorem r218_80 : runs cal 218 80 [vR 70, v1, v2, v3, v4] [] I = runs cal 218 81 [vR 70, v1, v2, v3, v4] [vR 70] I := runs_to (ins_of mI_218 (by rfl)) rfl rfl
set_option maxRecDepth 8000 in
theorem r218_81 : runs cal 218 81 [v0, v1, vI w, v3, v4] [vR 70] I = runs cal 218 82 [v0, v1, vI w, v3, v4] [vI w, vR 70] I := runs_to (ins_of mI_218 (by rfl)) rfl rfl
set_option maxRecDepth 8000 in
theorem r218_82 : runs cal 218 82 [v0, v1, v2, v3, v4] [vI x0, vR 70] I = (cal 216 [vI x0] I).bind (fun q => runs cal 218 85 [v0, v1, v2, v3, v4] (pushR q.1 [vR 70]) q.2) := st_call (st := true) (ins_of mI_218 (by rfl)) mC_218 mr_11_320 (by decide) mS_216 mN_216 rfl (Nat.le_of_ble_eq_true rfl) rfl rfl (Or.inl rfl) (Or.inl (wid_218.trans wid_216.symm))
set_option maxRecDepth 8000 in
theorem r218_85 : runs cal 218 85 [v0, v1, v2, v3, v4] [vI x0, vR 70] I = if x0 = 0 then runs cal 218 92 [v0, v1, v2, v3, v4] [vR 70] I else runs cal 218 88 [v0, v1, v2, v3, v4] [vR 70] I := st_if_eq (ins_of mI_218 (by rfl)) (by decide)
set_option maxRecDepth 8000 in
theorem r218_88 : runs cal 218 88 [v0, v1, v2, v3, v4] [vR 70] I = runs cal 218 89 [v0, v1, v2, v3, v4] [vI (1), vR 70] I := runs_to (ins_of mI_218 (by rfl)) rfl rfl
set_option maxRecDepth 8000 in
theorem r218_89 : runs cal 218 89 [v0, v1, v2, v3, v4] [vI x0, vR 70] I = runs cal 218 114 [v0, v1, v2, v3, v4] [vI x0, vR 70] I := st_goto (ins_of mI_218 (by rfl)) (by decide)
set_option maxRecDepth 8000 in
theorem r218_92 : runs cal 218 92 [v0, v1, vI w, v3, v4] [vR 70] I = runs cal 218 93 [v0, v1, vI w, v3, v4] [vI w, vR 70] I := runs_to (ins_of mI_218 (by rfl)) rfl rfl
set_option maxRecDepth 8000 in
theorem r218_93 : runs cal 218 93 [v0, v1, v2, v3, v4] [vI x0, vR 70] I = (cal 217 [vI x0] I).bind (fun q => runs cal 218 96 [v0, v1, v2, v3, v4] (pushR q.1 [vR 70]) q.2) := st_call (st := true) (ins_of mI_218 (by rfl)) mC_218 mr_11_323 (by decide) mS_217 mN_217 rfl (Nat.le_of_ble_eq_true rfl) rfl rfl (Or.inl rfl) (Or.inl (wid_218.trans wid_217.symm))
set_option maxRecDepth 8000 in
theorem r218_96 : runs cal 218 96 [v0, v1, v2, v3, v4] [vI x0, vR 70] I = if x0 = 0 then runs cal 218 103 [v0, v1, v2, v3, v4] [vR 70] I else runs cal 218 99 [v0, v1, v2, v3, v4] [vR 70] I := st_if_eq (ins_of mI_218 (by rfl)) (by decide)
set_option maxRecDepth 8000 in
theorem r218_99 : runs cal 218 99 [v0, v1, v2, v3, v4] [vR 70] I = runs cal 218 100 [v0, v1, v2, v3, v4] [vI (2), vR 70] I := runs_to (ins_of mI_218 (by rfl)) rfl rfl
set_option maxRecDepth 8000 in
theorem r218_100 : runs cal 218 100 [v0, v1, v2, v3, v4] [vI x0, vR 70] I = runs cal 218 114 [v0, v1, v2, v3, v4] [vI x0, vR 70] I := st_goto (ins_of mI_218 (by rfl)) (by decide)
set_option maxRecDepth 8000 in
theorem r218_103 : runs cal 218 103 [v0, v1, vI w, v3, v4] [vR 70] I = runs cal 218 104 [v0, v1, vI w, v3, v4] [vI w, vR 70] I := runs_to (ins_of mI_218 (by rfl)) rfl rfl
set_option maxRecDepth 8000 in
theorem r218_104 : runs cal 218 104 [v0, v1, v2, v3, v4] [vI x0, vR 70] I = runs cal 218 106 [v0, v1, v2, v3, v4] [vI (59), vI x0, vR 70] I := runs_to (ins_of mI_218 (by rfl)) rfl rfl
set_option maxRecDepth 8000 in
theorem r218_106 : runs cal 218 106 [v0, v1, v2, v3, v4] [vI x0, vI x1, vR 70] I = if x1 = x0 then runs cal 218 109 [v0, v1, v2, v3, v4] [vR 70] I else runs cal 218 113 [v0, v1, v2, v3, v4] [vR 70] I := st_cmp_ne (ins_of mI_218 (by rfl)) (by decide)
set_option maxRecDepth 8000 in
theorem r218_109 : runs cal 218 109 [v0, v1, v2, v3, v4] [vR 70] I = runs cal 218 110 [v0, v1, v2, v3, v4] [vI (3), vR 70] I := runs_to (ins_of mI_218 (by rfl)) rfl rfl
set_option maxRecDepth 8000 in
theorem r218_110 : runs cal 218 110 [v0, v1, v2, v3, v4] [vI x0, vR 70] I = runs cal 218 114 [v0, v1, v2, v3, v4] [vI x0, vR 70] I := st_goto (ins_of mI_218 (by rfl)) (by decide)
set_option maxRecDepth 8000 in
theorem r218_113 : runs cal 218 113 [v0, v1, v2, v3, v4] [vR 70] I = runs cal 218 114 [v0, v1, v2, v3, v4] [vI (4), vR 70] I := runs_to (ins_of mI_218 (by rfl)) rfl rfl
set_option maxRecDepth 8000 in
theorem r218_114 : runs cal 218 114 [v0, v1, v2, v3, v4] [vI x0, vR 70] I = runs cal 218 117 [v0, v1, v2, v3, v4] [] (mset I 70 23 x0) := st_putI (ins_of mI_218 (by rfl)) mC_218 fr_11_314 cT_70 (wdc wid_218 wd_70) rfl
set_option maxRecDepth 8000 in
theorem r218_117 : runs cal 218 117 [vR 70, v1, v2, v3, v4] [] I = runs cal 218 118 [vR 70, v1, v2, v3, v4] [vR 70] I := runs_to (ins_of mI_218 (by rfl)) rfl rfl
set_option maxRecDepth 8000 in
theorem r218_118 : runs cal 218 118 [v0, v1, v2, v3, v4] [vR 70] I = runs cal 218 119 [v0, v1, v2, v3, v4] [vI (1), vR 70] I := runs_to (ins_of mI_218 (by rfl)) rfl rfl
set_option maxRecDepth 8000 in
theorem r218_119 : runs cal 218 119 [v0, v1, v2, v3, v4] [vI x0, vR 70] I = runs cal 218 122 [v0, v1, v2, v3, v4] [] (mset I 70 22 x0) := st_putI (ins_of mI_218 (by rfl)) mC_218 fr_11_311 cT_70 (wdc wid_218 wd_70) rfl
set_option maxRecDepth 8000 in
theorem r218_122 : runs cal 218 122 [vR 70, v1, v2, v3, v4] [] I = runs cal 218 123 [vR 70, v1, v2, v3, v4] [vR 70] I := runs_to (ins_of mI_218 (by rfl)) rfl rfl
set_option maxRecDepth 8000 in
theorem r218_123 : runs cal 218 123 [v0, v1, v2, v3, v4] [vR 70] I = runs cal 218 126 [v0, v1, v2, v3, v4] [vI (I 70 23)] I := st_getI (ins_of mI_218 (by rfl)) mC_218 (by decide) fr_11_314 cT_70 (wdc wid_218 wd_70) (Or.inl rfl)
set_option maxRecDepth 8000 in
theorem r218_126 : runs cal 218 126 [v0, v1, v2, v3, v4] [vI x0] I = runs cal 218 127 [v0, v1, v2, v3, v4] [vI (3), vI x0] I := runs_to (ins_of mI_218 (by rfl)) rfl rfl
set_option maxRecDepth 8000 in
theorem r218_127 : runs cal 218 127 [v0, v1, v2, v3, v4] [vI x0, vI x1] I = if x1 < x0 then runs cal 218 130 [v0, v1, v2, v3, v4] [] I else runs cal 218 134 [v0, v1, v2, v3, v4] [] I := st_cmp_ge (ins_of mI_218 (by rfl)) (by decide)
set_option maxRecDepth 8000 in
theorem r218_130 : runs cal 218 130 [v0, v1, v2, v3, v4] [] I = runs cal 218 131 [v0, v1, v2, v3, v4] [vI (1)] I := runs_to (ins_of mI_218 (by rfl)) rfl rfl
set_option maxRecDepth 8000 in
theorem r218_131 : runs cal 218 131 [v0, v1, v2, v3, v4] [vI x0] I = runs cal 218 135 [v0, v1, v2, v3, v4] [vI x0] I := st_goto (ins_of mI_218 (by rfl)) (by decide)
set_option maxRecDepth 8000 in
theorem r218_134 : runs cal 218 134 [v0, v1, v2, v3, v4] [] I = runs cal 218 135 [v0, v1, v2, v3, v4] [vI (0)] I := runs_to (ins_of mI_218 (by rfl)) rfl rfl
set_option maxRecDepth 8000 in
theorem r218_135 : runs cal 218 135 [v0, v1, vI u, v3, v4] [vI x0] I = runs cal 218 136 [v0, v1, vI u, vI x0, v4] [] I := runs_to (ins_of mI_218 (by rfl)) rfl rfl
set_option maxRecDepth 8000 in
theorem r218_136 : runs cal 218 136 [v0, v1, v2, vI w, v4] [] I = runs cal 218 137 [v0, v1, v2, vI w, v4] [vI w] I := runs_to (ins_of mI_218 (by rfl)) rfl rfl
set_option maxRecDepth 8000 in
theorem r218_137 : runs cal 218 137 [v0, v1, v2, v3, v4] [vI x0] I = if x0 = 0 then runs cal 218 215 [v0, v1, v2, v3, v4] [] I else runs cal 218 140 [v0, v1, v2, v3, v4] [] I := st_if_eq (ins_of mI_218 (by rfl)) (by decide)
set_option maxRecDepth 8000 in
theorem r218_140 : runs cal 218 140 [vR 70, v1, v2, v3, v4] [] I = runs cal 218 141 [vR 70, v1, v2, v3, v4] [vR 70] I := runs_to (ins_of mI_218 (by rfl)) rfl rfl
set_option maxRecDepth 8000 in
theorem r218_141 : runs cal 218 141 [v0, v1, v2, v3, v4] [vR 70] I = runs cal 218 144 [v0, v1, v2, v3, v4] [vI (I 70 21)] I := st_getI (ins_of mI_218 (by rfl)) mC_218 (by decide) fr_11_308 cT_70 (wdc wid_218 wd_70) (Or.inl rfl)
set_option maxRecDepth 8000 in
theorem r218_144 : runs cal 218 144 [vR 70, v1, v2, v3, v4] [vI x0] I = runs cal 218 145 [vR 70, v1, v2, v3, v4] [vR 70, vI x0] I := runs_to (ins_of mI_218 (by rfl)) rfl rfl
set_option maxRecDepth 8000 in
theorem r218_145 : runs cal 218 145 [v0, v1, v2, v3, v4] [vR 70, vI x1] I = runs cal 218 148 [v0, v1, v2, v3, v4] [vI (I 70 22), vI x1] I := st_getI (ins_of mI_218 (by rfl)) mC_218 (by decide) fr_11_311 cT_70 (wdc wid_218 wd_70) (Or.inl rfl)
set_option maxRecDepth 8000 in
theorem r218_148 : runs cal 218 148 [v0, v1, v2, v3, v4] [vI x0, vI x1] I = runs cal 218 149 [v0, v1, v2, v3, v4] [vI (iadd x1 x0)] I := runs_to (ins_of mI_218 (by rfl)) rfl rfl
set_option maxRecDepth 8000 in
theorem r218_149 : runs cal 218 149 [vR 70, v1, v2, v3, v4] [vI x0] I = runs cal 218 150 [vR 70, v1, v2, v3, v4] [vR 70, vI x0] I := runs_to (ins_of mI_218 (by rfl)) rfl rfl
set_option maxRecDepth 8000 in
theorem r218_150 : runs cal 218 150 [v0, v1, v2, v3, v4] [vR 70, vI x1] I = runs cal 218 153 [v0, v1, v2, v3, v4] [vI (I 70 20), vI x1] I := st_getI (ins_of mI_218 (by rfl)) mC_218 (by decide) fr_11_292 cT_70 (wdc wid_218 wd_70) (Or.inl rfl)
set_option maxRecDepth 8000 in
theorem r218_153 : runs cal 218 153 [v0, v1, v2, v3, v4] [vI x0, vI x1] I = if x1 < x0 then runs cal 218 156 [v0, v1, v2, v3, v4] [] I else runs cal 218 215 [v0, v1, v2, v3, v4] [] I := st_cmp_ge (ins_of mI_218 (by rfl)) (by decide)
set_option maxRecDepth 8000 in
theorem r218_156 : runs cal 218 156 [vR 70, v1, v2, v3, v4] [] I = runs cal 218 157 [vR 70, v1, v2, v3, v4] [vR 70] I := runs_to (ins_of mI_218 (by rfl)) rfl rfl
set_option maxRecDepth 8000 in
theorem r218_157 : runs cal 218 157 [v0, v1, v2, v3, v4] [vR 70] I = runs cal 218 160 [v0, v1, v2, v3, v4] [vR 84] I := st_getR (ins_of mI_218 (by rfl)) mC_218 (by decide) fr_11_52 cT_70 (wdc wid_218 wd_70) rfl rfl
set_option maxRecDepth 8000 in
theorem r218_160 : runs cal 218 160 [vR 70, v1, v2, v3, v4] [vR 84] I = runs cal 218 161 [vR 70, v1, v2, v3, v4] [vR 70, vR 84] I := runs_to (ins_of mI_218 (by rfl)) rfl rfl
set_option maxRecDepth 8000 in
theorem r218_161 : runs cal 218 161 [v0, v1, v2, v3, v4] [vR 70, vR 84] I = runs cal 218 164 [v0, v1, v2, v3, v4] [vI (I 70 21), vR 84] I := st_getI (ins_of mI_218 (by rfl)) mC_218 (by decide) fr_11_308 cT_70 (wdc wid_218 wd_70) (Or.inl rfl)
set_option maxRecDepth 8000 in
theorem r218_164 : runs cal 218 164 [vR 70, v1, v2, v3, v4] [vI x0, vR 84] I = runs cal 218 165 [vR 70, v1, v2, v3, v4] [vR 70, vI x0, vR 84] I := runs_to (ins_of mI_218 (by rfl)) rfl rfl
set_option maxRecDepth 8000 in
theorem r218_165 : runs cal 218 165 [v0, v1, v2, v3, v4] [vR 70, vI x1, vR 84] I = runs cal 218 168 [v0, v1, v2, v3, v4] [vI (I 70 22), vI x1, vR 84] I := st_getI (ins_of mI_218 (by rfl)) mC_218 (by decide) fr_11_311 cT_70 (wdc wid_218 wd_70) (Or.inl rfl)
set_option maxRecDepth 8000 in
theorem r218_168 : runs cal 218 168 [v0, v1, v2, v3, v4] [vI x0, vI x1, vR 84] I = runs cal 218 169 [v0, v1, v2, v3, v4] [vI (iadd x1 x0), vR 84] I := runs_to (ins_of mI_218 (by rfl)) rfl rfl
set_option maxRecDepth 8000 in
theorem r218_169 : runs cal 218 169 [v0, v1, v2, v3, v4] [vI x0, vR 84] I = if 0 ≤ x0 ∧ x0 < 200 then runs cal 218 170 [v0, v1, v2, v3, v4] [vI (I 84 x0)] I else none := st_iald (ins_of mI_218 (by rfl)) cT_84 (wdc wid_218 wd_84)
set_option maxRecDepth 8000 in
theorem r218_170 : runs cal 218 170 [v0, v1, v2, vI u, v4] [vI x0] I = runs cal 218 172 [v0, v1, v2, vI u, vI x0] [] I := runs_to (ins_of mI_218 (by rfl)) rfl rfl
set_option maxRecDepth 8000 in
theorem r218_172 : runs cal 218 172 [vR 70, v1, v2, v3, v4] [] I = runs cal 218 173 [vR 70, v1, v2, v3, v4] [vR 70] I := runs_to (ins_of mI_218 (by rfl)) rfl rfl
set_option maxRecDepth 8000 in
theorem r218_173 : runs cal 218 173 [v0, v1, v2, v3, v4] [vR 70] I = runs cal 218 176 [v0, v1, v2, v3, v4] [vI (I 70 23)] I := st_getI (ins_of mI_218 (by rfl)) mC_218 (by decide) fr_11_314 cT_70 (wdc wid_218 wd_70) (Or.inl rfl)
set_option maxRecDepth 8000 in
theorem r218_176 : runs cal 218 176 [v0, v1, v2, v3, v4] [vI x0] I = runs cal 218 177 [v0, v1, v2, v3, v4] [vI (1), vI x0] I := runs_to (ins_of mI_218 (by rfl)) rfl rfl
set_option maxRecDepth 8000 in
theorem r218_177 : runs cal 218 177 [v0, v1, v2, v3, v4] [vI x0, vI x1] I = if x1 = x0 then runs cal 218 180 [v0, v1, v2, v3, v4] [] I else runs cal 218 188 [v0, v1, v2, v3, v4] [] I := st_cmp_ne (ins_of mI_218 (by rfl)) (by decide)
set_option maxRecDepth 8000 in
theorem r218_180 : runs cal 218 180 [v0, v1, v2, v3, vI w] [] I = runs cal 218 182 [v0, v1, v2, v3, vI w] [vI w] I := runs_to (ins_of mI_218 (by rfl)) rfl rfl
set_option maxRecDepth 8000 in
theorem r218_182 : runs cal 218 182 [v0, v1, v2, v3, v4] [vI x0] I = (cal 216 [vI x0] I).bind (fun q => runs cal 218 185 [v0, v1, v2, v3, v4] (pushR q.1 []) q.2) := st_call (st := true) (ins_of mI_218 (by rfl)) mC_218 mr_11_320 (by decide) mS_216 mN_216 rfl (Nat.le_of_ble_eq_true rfl) rfl rfl (Or.inl rfl) (Or.inl (wid_218.trans wid_216.symm))
set_option maxRecDepth 8000 in
theorem r218_185 : runs cal 218 185 [v0, v1, v2, v3, v4] [vI x0] I = runs cal 218 193 [v0, v1, v2, v3, v4] [vI x0] I := st_goto (ins_of mI_218 (by rfl)) (by decide)
set_option maxRecDepth 8000 in
theorem r218_188 : runs cal 218 188 [v0, v1, v2, v3, vI w] [] I = runs cal 218 190 [v0, v1, v2, v3, vI w] [vI w] I := runs_to (ins_of mI_218 (by rfl)) rfl rfl
set_option maxRecDepth 8000 in
theorem r218_190 : runs cal 218 190 [v0, v1, v2, v3, v4] [vI x0] I = (cal 217 [vI x0] I).bind (fun q => runs cal 218 193 [v0, v1, v2, v3, v4] (pushR q.1 []) q.2) := st_call (st := true) (ins_of mI_218 (by rfl)) mC_218 mr_11_323 (by decide) mS_217 mN_217 rfl (Nat.le_of_ble_eq_true rfl) rfl rfl (Or.inl rfl) (Or.inl (wid_218.trans wid_217.symm))
set_option maxRecDepth 8000 in
theorem r218_193 : runs cal 218 193 [v0, v1, vI u, v3, v4] [vI x0] I = runs cal 218 194 [v0, v1, vI u, vI x0, v4] [] I := runs_to (ins_of mI_218 (by rfl)) rfl rfl
set_option maxRecDepth 8000 in
theorem r218_194 : runs cal 218 194 [vR 70, v1, v2, v3, v4] [] I = runs cal 218 195 [vR 70, v1, v2, v3, v4] [vR 70] I := runs_to (ins_of mI_218 (by rfl)) rfl rfl
set_option maxRecDepth 8000 in
theorem r218_195 : runs cal 218 195 [v0, v1, v2, v3, v4] [vR 70] I = runs cal 218 196 [v0, v1, v2, v3, v4] [vR 70, vR 70] I := runs_to (ins_of mI_218 (by rfl)) rfl rfl
set_option maxRecDepth 8000 in
theorem r218_196 : runs cal 218 196 [v0, v1, v2, v3, v4] [vR 70, vR 70] I = runs cal 218 199 [v0, v1, v2, v3, v4] [vI (I 70 22), vR 70] I := st_getI (ins_of mI_218 (by rfl)) mC_218 (by decide) fr_11_311 cT_70 (wdc wid_218 wd_70) (Or.inl rfl)
set_option maxRecDepth 8000 in
theorem r218_199 : runs cal 218 199 [v0, v1, v2, vI w, v4] [vI x0, vR 70] I = runs cal 218 200 [v0, v1, v2, vI w, v4] [vI w, vI x0, vR 70] I := runs_to (ins_of mI_218 (by rfl)) rfl rfl
set_option maxRecDepth 8000 in
theorem r218_200 : runs cal 218 200 [v0, v1, v2, v3, v4] [vI x0, vI x1, vR 70] I = if x0 = 0 then runs cal 218 207 [v0, v1, v2, v3, v4] [vI x1, vR 70] I else runs cal 218 203 [v0, v1, v2, v3, v4] [vI x1, vR 70] I := st_if_eq (ins_of mI_218 (by rfl)) (by decide)
set_option maxRecDepth 8000 in
theorem r218_203 : runs cal 218 203 [v0, v1, v2, v3, v4] [vI x0, vR 70] I = runs cal 218 204 [v0, v1, v2, v3, v4] [vI (1), vI x0, vR 70] I := runs_to (ins_of mI_218 (by rfl)) rfl rfl
set_option maxRecDepth 8000 in
theorem r218_204 : runs cal 218 204 [v0, v1, v2, v3, v4] [vI x0, vI x1, vR 70] I = runs cal 218 208 [v0, v1, v2, v3, v4] [vI x0, vI x1, vR 70] I := st_goto (ins_of mI_218 (by rfl)) (by decide)
set_option maxRecDepth 8000 in
theorem r218_207 : runs cal 218 207 [v0, v1, v2, v3, v4] [vI x0, vR 70] I = runs cal 218 208 [v0, v1, v2, v3, v4] [vI (0), vI x0, vR 70] I := runs_to (ins_of mI_218 (by rfl)) rfl rfl
set_option maxRecDepth 8000 in
theorem r218_208 : runs cal 218 208 [v0, v1, v2, v3, v4] [vI x0, vI x1, vR 70] I = runs cal 218 209 [v0, v1, v2, v3, v4] [vI (iadd x1 x0), vR 70] I := runs_to (ins_of mI_218 (by rfl)) rfl rfl
set_option maxRecDepth 8000 in
theorem r218_209 : runs cal 218 209 [v0, v1, v2, v3, v4] [vI x0, vR 70] I = runs cal 218 212 [v0, v1, v2, v3, v4] [] (mset I 70 22 x0) := st_putI (ins_of mI_218 (by rfl)) mC_218 fr_11_311 cT_70 (wdc wid_218 wd_70) rfl
set_option maxRecDepth 8000 in
theorem r218_212 : runs cal 218 212 [v0, v1, v2, v3, v4] [] I = runs cal 218 136 [v0, v1, v2, v3, v4] [] I := st_goto (ins_of mI_218 (by rfl)) (by decide)
set_option maxRecDepth 8000 in
theorem r218_215 : runs cal 218 215 [v0, v1, v2, v3, v4] [] I = runs cal 218 216 [v0, v1, v2, v3, v4] [vI (0)] I := runs_to (ins_of mI_218 (by rfl)) rfl rfl
set_option maxRecDepth 8000 in
theorem r218_216 : runs cal 218 216 [v0, v1, v2, vI u, v4] [vI x0] I = runs cal 218 218 [v0, v1, v2, vI u, vI x0] [] I := runs_to (ins_of mI_218 (by rfl)) rfl rfl
set_option maxRecDepth 8000 in
theorem r218_218 : runs cal 218 218 [v0, v1, v2, v3, vI w] [] I = runs cal 218 220 [v0, v1, v2, v3, vI w] [vI w] I := runs_to (ins_of mI_218 (by rfl)) rfl rfl
set_option maxRecDepth 8000 in
theorem r218_220 : runs cal 218 220 [vR 70, v1, v2, v3, v4] [vI x0] I = runs cal 218 221 [vR 70, v1, v2, v3, v4] [vR 70, vI x0] I := runs_to (ins_of mI_218 (by rfl)) rfl rfl
set_option maxRecDepth 8000 in
theorem r218_221 : runs cal 218 221 [v0, v1, v2, v3, v4] [vR 70, vI x1] I = runs cal 218 224 [v0, v1, v2, v3, v4] [vI (I 70 22), vI x1] I := st_getI (ins_of mI_218 (by rfl)) mC_218 (by decide) fr_11_311 cT_70 (wdc wid_218 wd_70) (Or.inl rfl)
set_option maxRecDepth 8000 in
theorem r218_224 : runs cal 218 224 [v0, v1, v2, v3, v4] [vI x0, vI x1] I = if x1 < x0 then runs cal 218 227 [v0, v1, v2, v3, v4] [] I else runs cal 218 274 [v0, v1, v2, v3, v4] [] I := st_cmp_ge (ins_of mI_218 (by rfl)) (by decide)
set_option maxRecDepth 8000 in
theorem r218_227 : runs cal 218 227 [v0, v1, v2, v3, vI w] [] I = runs cal 218 229 [v0, v1, v2, v3, vI w] [vI w] I := runs_to (ins_of mI_218 (by rfl)) rfl rfl
set_option maxRecDepth 8000 in
theorem r218_229 : runs cal 218 229 [v0, v1, v2, v3, v4] [vI x0] I = runs cal 218 230 [v0, v1, v2, v3, v4] [vI (2), vI x0] I := runs_to (ins_of mI_218 (by rfl)) rfl rfl
set_option maxRecDepth 8000 in
theorem r218_230 : runs cal 218 230 [v0, v1, v2, v3, v4] [vI x0, vI x1] I = if x1 < x0 then runs cal 218 233 [v0, v1, v2, v3, v4] [] I else runs cal 218 274 [v0, v1, v2, v3, v4] [] I := st_cmp_ge (ins_of mI_218 (by rfl)) (by decide)
set_option maxRecDepth 8000 in
theorem r218_233 : runs cal 218 233 [vR 70, v1, v2, v3, v4] [] I = runs cal 218 234 [vR 70, v1, v2, v3, v4] [vR 70] I := runs_to (ins_of mI_218 (by rfl)) rfl rfl
set_option maxRecDepth 8000 in
theorem r218_234 : runs cal 218 234 [v0, v1, v2, v3, v4] [vR 70] I = runs cal 218 237 [v0, v1, v2, v3, v4] [vI (I 70 23)] I := st_getI (ins_of mI_218 (by rfl)) mC_218 (by decide) fr_11_314 cT_70 (wdc wid_218 wd_70) (Or.inl rfl)
set_option maxRecDepth 8000 in
theorem r218_237 : runs cal 218 237 [v0, v1, v2, v3, v4] [vI x0] I = runs cal 218 238 [v0, v1, v2, v3, v4] [vI (2), vI x0] I := runs_to (ins_of mI_218 (by rfl)) rfl rfl
set_option maxRecDepth 8000 in
theorem r218_238 : runs cal 218 238 [v0, v1, v2, v3, v4] [vI x0, vI x1] I = if x1 = x0 then runs cal 218 241 [v0, v1, v2, v3, v4] [] I else runs cal 218 274 [v0, v1, v2, v3, v4] [] I := st_cmp_ne (ins_of mI_218 (by rfl)) (by decide)
set_option maxRecDepth 8000 in
theorem r218_241 : runs cal 218 241 [vR 70, v1, v2, v3, v4] [] I = runs cal 218 242 [vR 70, v1, v2, v3, v4] [vR 70] I := runs_to (ins_of mI_218 (by rfl)) rfl rfl
set_option maxRecDepth 8000 in
theorem r218_242 : runs cal 218 242 [v0, v1, v2, v3, v4] [vR 70] I = runs cal 218 244 [v0, v1, v2, v3, v4] [vI (10), vR 70] I := runs_to (ins_of mI_218 (by rfl)) rfl rfl
set_option maxRecDepth 8000 in
theorem r218_244 : runs cal 218 244 [vR 70, v1, v2, v3, v4] [vI x0, vR 70] I = runs cal 218 245 [vR 70, v1, v2, v3, v4] [vR 70, vI x0, vR 70] I := runs_to (ins_of mI_218 (by rfl)) rfl rfl
set_option maxRecDepth 8000 in
theorem r218_245 : runs cal 218 245 [v0, v1, v2, v3, v4] [vR 70, vI x1, vR 70] I = runs cal 218 248 [v0, v1, v2, v3, v4] [vI (I 70 24), vI x1, vR 70] I := st_getI (ins_of mI_218 (by rfl)) mC_218 (by decide) fr_11_317 cT_70 (wdc wid_218 wd_70) (Or.inl rfl)
set_option maxRecDepth 8000 in
theorem r218_248 : runs cal 218 248 [v0, v1, v2, v3, v4] [vI x0, vI x1, vR 70] I = runs cal 218 249 [v0, v1, v2, v3, v4] [vI (imul x1 x0), vR 70] I := runs_to (ins_of mI_218 (by rfl)) rfl rfl
set_option maxRecDepth 8000 in
theorem r218_249 : runs cal 218 249 [vR 70, v1, v2, v3, v4] [vI x0, vR 70] I = runs cal 218 250 [vR 70, v1, v2, v3, v4] [vR 70, vI x0, vR 70] I := runs_to (ins_of mI_218 (by rfl)) rfl rfl
set_option maxRecDepth 8000 in
theorem r218_250 : runs cal 218 250 [v0, v1, v2, v3, v4] [vR 70, vI x1, vR 70] I = runs cal 218 253 [v0, v1, v2, v3, v4] [vR 84, vI x1, vR 70] I := st_getR (ins_of mI_218 (by rfl)) mC_218 (by decide) fr_11_52 cT_70 (wdc wid_218 wd_70) rfl rfl
set_option maxRecDepth 8000 in
theorem r218_253 : runs cal 218 253 [vR 70, v1, v2, v3, v4] [vR 84, vI x1, vR 70] I = runs cal 218 254 [vR 70, v1, v2, v3, v4] [vR 70, vR 84, vI x1, vR 70] I := runs_to (ins_of mI_218 (by rfl)) rfl rfl
set_option maxRecDepth 8000 in
theorem r218_254 : runs cal 218 254 [v0, v1, v2, v3, v4] [vR 70, vR 84, vI x2, vR 70] I = runs cal 218 257 [v0, v1, v2, v3, v4] [vI (I 70 21), vR 84, vI x2, vR 70] I := st_getI (ins_of mI_218 (by rfl)) mC_218 (by decide) fr_11_308 cT_70 (wdc wid_218 wd_70) (Or.inl rfl)
set_option maxRecDepth 8000 in
theorem r218_257 : runs cal 218 257 [v0, v1, v2, v3, vI w] [vI x0, vR 84, vI x2, vR 70] I = runs cal 218 259 [v0, v1, v2, v3, vI w] [vI w, vI x0, vR 84, vI x2, vR 70] I := runs_to (ins_of mI_218 (by rfl)) rfl rfl
set_option maxRecDepth 8000 in
theorem r218_259 : runs cal 218 259 [v0, v1, v2, v3, v4] [vI x0, vI x1, vR 84, vI x3, vR 70] I = runs cal 218 260 [v0, v1, v2, v3, v4] [vI (iadd x1 x0), vR 84, vI x3, vR 70] I := runs_to (ins_of mI_218 (by rfl)) rfl rfl
set_option maxRecDepth 8000 in
theorem r218_260 : runs cal 218 260 [v0, v1, v2, v3, v4] [vI x0, vR 84, vI x2, vR 70] I = if 0 ≤ x0 ∧ x0 < 200 then runs cal 218 261 [v0, v1, v2, v3, v4] [vI (I 84 x0), vI x2, vR 70] I else none := st_iald (ins_of mI_218 (by rfl)) cT_84 (wdc wid_218 wd_84)
set_option maxRecDepth 8000 in
theorem r218_261 : runs cal 218 261 [v0, v1, v2, v3, v4] [vI x0, vI x1, vR 70] I = runs cal 218 262 [v0, v1, v2, v3, v4] [vI (iadd x1 x0), vR 70] I := runs_to (ins_of mI_218 (by rfl)) rfl rfl
set_option maxRecDepth 8000 in
theorem r218_262 : runs cal 218 262 [v0, v1, v2, v3, v4] [vI x0, vR 70] I = runs cal 218 264 [v0, v1, v2, v3, v4] [vI (48), vI x0, vR 70] I := runs_to (ins_of mI_218 (by rfl)) rfl rfl
set_option maxRecDepth 8000 in
theorem r218_264 : runs cal 218 264 [v0, v1, v2, v3, v4] [vI x0, vI x1, vR 70] I = runs cal 218 265 [v0, v1, v2, v3, v4] [vI (isub x1 x0), vR 70] I := runs_to (ins_of mI_218 (by rfl)) rfl rfl
set_option maxRecDepth 8000 in
theorem r218_265 : runs cal 218 265 [v0, v1, v2, v3, v4] [vI x0, vR 70] I = runs cal 218 268 [v0, v1, v2, v3, v4] [] (mset I 70 24 x0) := st_putI (ins_of mI_218 (by rfl)) mC_218 fr_11_317 cT_70 (wdc wid_218 wd_70) rfl
set_option maxRecDepth 8000 in
theorem r218_268 : runs cal 218 268 [v0, v1, v2, vI u, vI w] [] I = runs cal 218 271 [v0, v1, v2, vI u, vI (iadd w (1))] [] I := runs_to (ins_of mI_218 (by rfl)) rfl rfl
set_option maxRecDepth 8000 in
theorem r218_271 : runs cal 218 271 [v0, v1, v2, v3, v4] [] I = runs cal 218 218 [v0, v1, v2, v3, v4] [] I := st_goto (ins_of mI_218 (by rfl)) (by decide)
set_option maxRecDepth 8000 in
theorem r218_274 : runs cal 218 274 [vR 70, v1, v2, v3, v4] [] I = runs cal 218 275 [vR 70, v1, v2, v3, v4] [vR 70] I := runs_to (ins_of mI_218 (by rfl)) rfl rfl
set_option maxRecDepth 8000 in
theorem r218_275 : runs cal 218 275 [vR 70, v1, v2, v3, v4] [vR 70] I = runs cal 218 276 [vR 70, v1, v2, v3, v4] [vR 70, vR 70] I := runs_to (ins_of mI_218 (by rfl)) rfl rfl
set_option maxRecDepth 8000 in
theorem r218_276 : runs cal 218 276 [v0, v1, v2, v3, v4] [vR 70, vR 70] I = runs cal 218 279 [v0, v1, v2, v3, v4] [vI (I 70 23), vR 70] I := st_getI (ins_of mI_218 (by rfl)) mC_218 (by decide) fr_11_314 cT_70 (wdc wid_218 wd_70) (Or.inl rfl)
set_option maxRecDepth 8000 in
theorem r218_279 : runs cal 218 279 [v0, v1, v2, v3, v4] [vI x0, vR 70] I = runs cal 218 280 [v0, v1, v2, v3, v4] [vI (2), vI x0, vR 70] I := runs_to (ins_of mI_218 (by rfl)) rfl rfl
set_option maxRecDepth 8000 in
theorem r218_280 : runs cal 218 280 [v0, v1, v2, v3, v4] [vI x0, vI x1, vR 70] I = if x1 = x0 then runs cal 218 283 [v0, v1, v2, v3, v4] [vR 70] I else runs cal 218 295 [v0, v1, v2, v3, v4] [vR 70] I := st_cmp_ne (ins_of mI_218 (by rfl)) (by decide)
set_option maxRecDepth 8000 in
theorem r218_283 : runs cal 218 283 [vR 70, v1, v2, v3, v4] [vR 70] I = runs cal 218 284 [vR 70, v1, v2, v3, v4] [vR 70, vR 70] I := runs_to (ins_of mI_218 (by rfl)) rfl rfl
set_option maxRecDepth 8000 in
theorem r218_284 : runs cal 218 284 [v0, v1, v2, v3, v4] [vR 70, vR 70] I = runs cal 218 287 [v0, v1, v2, v3, v4] [vI (I 70 22), vR 70] I := st_getI (ins_of mI_218 (by rfl)) mC_218 (by decide) fr_11_311 cT_70 (wdc wid_218 wd_70) (Or.inl rfl)
set_option maxRecDepth 8000 in
theorem r218_287 : runs cal 218 287 [v0, v1, v2, v3, v4] [vI x0, vR 70] I = runs cal 218 288 [v0, v1, v2, v3, v4] [vI (2), vI x0, vR 70] I := runs_to (ins_of mI_218 (by rfl)) rfl rfl
set_option maxRecDepth 8000 in
theorem r218_288 : runs cal 218 288 [v0, v1, v2, v3, v4] [vI x0, vI x1, vR 70] I = if x0 < x1 then runs cal 218 291 [v0, v1, v2, v3, v4] [vR 70] I else runs cal 218 295 [v0, v1, v2, v3, v4] [vR 70] I := st_cmp_le (ins_of mI_218 (by rfl)) (by decide)
set_option maxRecDepth 8000 in
theorem r218_291 : runs cal 218 291 [v0, v1, v2, v3, v4] [vR 70] I = runs cal 218 292 [v0, v1, v2, v3, v4] [vI (4), vR 70] I := runs_to (ins_of mI_218 (by rfl)) rfl rfl
set_option maxRecDepth 8000 in
theorem r218_292 : runs cal 218 292 [v0, v1, v2, v3, v4] [vI x0, vR 70] I = runs cal 218 299 [v0, v1, v2, v3, v4] [vI x0, vR 70] I := st_goto (ins_of mI_218 (by rfl)) (by decide)
set_option maxRecDepth 8000 in
theorem r218_295 : runs cal 218 295 [vR 70, v1, v2, v3, v4] [vR 70] I = runs cal 218 296 [vR 70, v1, v2, v3, v4] [vR 70, vR 70] I := runs_to (ins_of mI_218 (by rfl)) rfl rfl
set_option maxRecDepth 8000 in
theorem r218_296 : runs cal 218 296 [v0, v1, v2, v3, v4] [vR 70, vR 70] I = runs cal 218 299 [v0, v1, v2, v3, v4] [vI (I 70 23), vR 70] I := st_getI (ins_of mI_218 (by rfl)) mC_218 (by decide) fr_11_314 cT_70 (wdc wid_218 wd_70) (Or.inl rfl)
set_option maxRecDepth 8000 in
theorem r218_299 : runs cal 218 299 [v0, v1, v2, v3, v4] [vI x0, vR 70] I = runs cal 218 302 [v0, v1, v2, v3, v4] [] (mset I 70 23 x0) := st_putI (ins_of mI_218 (by rfl)) mC_218 fr_11_314 cT_70 (wdc wid_218 wd_70) rfl
set_option maxRecDepth 8000 in
theorem r218_302 : runs cal 218 302 [v0, v1, v2, v3, v4] [] I = some (none, I) := st_ret (q := none) (k := 3) (ins_of mI_218 (by rfl)) rfl (by decide) mR_218 rfl trivial
theorem r219_0 : runs cal 219 0 [vR 70] [] I = runs cal 219 1 [vR 70] [vR 70] I := runs_to (ins_of mI_219 (by rfl)) rfl rfl
theorem r219_1 : runs cal 219 1 [vR 70] [vR 70] I = runs cal 219 2 [vR 70] [vR 70, vR 70] I := runs_to (ins_of mI_219 (by rfl)) rfl rfl
theorem r219_2 : runs cal 219 2 [v0] [vR 70, vR 70] I = runs cal 219 5 [v0] [vI (I 70 21), vR 70] I := st_getI (ins_of mI_219 (by rfl)) mC_219 (by decide) fr_11_308 cT_70 (wdc wid_219 wd_70) (Or.inl rfl)
theorem r219_5 : runs cal 219 5 [vR 70] [vI x0, vR 70] I = runs cal 219 6 [vR 70] [vR 70, vI x0, vR 70] I := runs_to (ins_of mI_219 (by rfl)) rfl rfl
theorem r219_6 : runs cal 219 6 [v0] [vR 70, vI x1, vR 70] I = runs cal 219 9 [v0] [vI (I 70 22), vI x1, vR 70] I := st_getI (ins_of mI_219 (by rfl)) mC_219 (by decide) fr_11_311 cT_70 (wdc wid_219 wd_70) (Or.inl rfl)
theorem r219_9 : runs cal 219 9 [v0] [vI x0, vI x1, vR 70] I = runs cal 219 10 [v0] [vI (iadd x1 x0), vR 70] I := runs_to (ins_of mI_219 (by rfl)) rfl rfl
theorem r219_10 : runs cal 219 10 [v0] [vI x0, vR 70] I = (cal 218 [vR 70, vI x0] I).bind (fun q => runs cal 219 13 [v0] (pushR q.1 []) q.2) := st_call (st := false) (ins_of mI_219 (by rfl)) mC_219 mr_11_326 (by decide) mS_218 mN_218 rfl (Nat.le_of_ble_eq_true rfl) rfl rfl (Or.inr ⟨_, _, rfl, rcv mC_218 rfl wid_219 (by decide +kernel)⟩) (Or.inl (wid_219.trans wid_218.symm))
theorem r219_13 : runs cal 219 13 [v0] [] I = some (none, I) := st_ret (q := none) (k := 3) (ins_of mI_219 (by rfl)) rfl (by decide) mR_219 rfl trivial
theorem r220_0 : runs cal 220 0 [v0, v1, v2, v3, v4, vI w, v6, v7, v8, v9] [] I = runs cal 220 2 [v0, v1, v2, v3, v4, vI w, v6, v7, v8, v9] [vI w] I := runs_to (ins_of mI_220 (by rfl)) rfl rfl
theorem r220_2 : runs cal 220 2 [v0, v1, v2, v3, v4, v5, v6, v7, v8, v9] [vI x0] I = if x0 = 0 then runs cal 220 5 [v0, v1, v2, v3, v4, v5, v6, v7, v8, v9] [] I else runs cal 220 9 [v0, v1, v2, v3, v4, v5, v6, v7, v8, v9] [] I := st_if_ne (ins_of mI_220 (by rfl)) (by decide)
theorem r220_5 : runs cal 220 5 [v0, v1, v2, v3, v4, v5, v6, v7, v8, v9] [] I = runs cal 220 6 [v0, v1, v2, v3, v4, v5, v6, v7, v8, v9] [vI (4)] I := runs_to (ins_of mI_220 (by rfl)) rfl rfl
theorem r220_6 : runs cal 220 6 [v0, v1, v2, v3, v4, v5, v6, v7, v8, v9] [vI x0] I = runs cal 220 20 [v0, v1, v2, v3, v4, v5, v6, v7, v8, v9] [vI x0] I := st_goto (ins_of mI_220 (by rfl)) (by decide)
theorem r220_9 : runs cal 220 9 [v0, v1, v2, v3, v4, v5, vI w, v7, v8, v9] [] I = runs cal 220 11 [v0, v1, v2, v3, v4, v5, vI w, v7, v8, v9] [vI w] I := runs_to (ins_of mI_220 (by rfl)) rfl rfl
theorem r220_11 : runs cal 220 11 [v0, v1, v2, v3, v4, v5, v6, v7, v8, v9] [vI x0] I = if x0 = 0 then runs cal 220 14 [v0, v1, v2, v3, v4, v5, v6, v7, v8, v9] [] I else runs cal 220 18 [v0, v1, v2, v3, v4, v5, v6, v7, v8, v9] [] I := st_if_ne (ins_of mI_220 (by rfl)) (by decide)
theorem r220_14 : runs cal 220 14 [v0, v1, v2, v3, v4, v5, v6, v7, v8, v9] [] I = runs cal 220 15 [v0, v1, v2, v3, v4, v5, v6, v7, v8, v9] [vI (5)] I := runs_to (ins_of mI_220 (by rfl)) rfl rfl
theorem r220_15 : runs cal 220 15 [v0, v1, v2, v3, v4, v5, v6, v7, v8, v9] [vI x0] I = runs cal 220 20 [v0, v1, v2, v3, v4, v5, v6, v7, v8, v9] [vI x0] I := st_goto (ins_of mI_220 (by rfl)) (by decide)
theorem r220_18 : runs cal 220 18 [v0, v1, v2, v3, v4, v5, v6, v7, v8, v9] [] I = runs cal 220 20 [v0, v1, v2, v3, v4, v5, v6, v7, v8, v9] [vI (6)] I := runs_to (ins_of mI_220 (by rfl)) rfl rfl
theorem r220_20 : runs cal 220 20 [v0, v1, v2, v3, v4, v5, vI u, v7, v8, v9] [vI x0] I = runs cal 220 22 [v0, v1, v2, v3, v4, v5, vI u, vI x0, v8, v9] [] I := runs_to (ins_of mI_220 (by rfl)) rfl rfl
theorem r220_22 : runs cal 220 22 [vR 70, v1, v2, v3, v4, v5, v6, v7, v8, v9] [] I = runs cal 220 23 [vR 70, v1, v2, v3, v4, v5, v6, v7, v8, v9] [vR 70] I := runs_to (ins_of mI_220 (by rfl)) rfl rfl
theorem r220_23 : runs cal 220 23 [v0, v1, v2, v3, v4, v5, v6, v7, v8, v9] [vR 70] I = runs cal 220 26 [v0, v1, v2, v3, v4, v5, v6, v7, v8, v9] [vI (I 70 23)] I := st_getI (ins_of mI_220 (by rfl)) mC_220 (by decide) fr_11_314 cT_70 (wdc wid_220 wd_70) (Or.inl rfl)
theorem r220_26 : runs cal 220 26 [v0, v1, v2, v3, v4, v5, v6, v7, v8, v9] [vI x0] I = runs cal 220 27 [v0, v1, v2, v3, v4, v5, v6, v7, v8, v9] [vI (1), vI x0] I := runs_to (ins_of mI_220 (by rfl)) rfl rfl
theorem r220_27 : runs cal 220 27 [v0, v1, v2, v3, v4, v5, v6, v7, v8, v9] [vI x0, vI x1] I = if x1 = x0 then runs cal 220 30 [v0, v1, v2, v3, v4, v5, v6, v7, v8, v9] [] I else runs cal 220 43 [v0, v1, v2, v3, v4, v5, v6, v7, v8, v9] [] I := st_cmp_ne (ins_of mI_220 (by rfl)) (by decide)
theorem r220_30 : runs cal 220 30 [vR 70, v1, v2, v3, v4, v5, v6, v7, v8, v9] [] I = runs cal 220 31 [vR 70, v1, v2, v3, v4, v5, v6, v7, v8, v9] [vR 70] I := runs_to (ins_of mI_220 (by rfl)) rfl rfl
theorem r220_31 : runs cal 220 31 [v0, v1, v2, v3, v4, v5, v6, v7, v8, v9] [vR 70] I = runs cal 220 34 [v0, v1, v2, v3, v4, v5, v6, v7, v8, v9] [vI (I 70 22)] I := st_getI (ins_of mI_220 (by rfl)) mC_220 (by decide) fr_11_311 cT_70 (wdc wid_220 wd_70) (Or.inl rfl)
theorem r220_34 : runs cal 220 34 [v0, v1, v2, v3, v4, v5, v6, vI w, v8, v9] [vI x0] I = runs cal 220 36 [v0, v1, v2, v3, v4, v5, v6, vI w, v8, v9] [vI w, vI x0] I := runs_to (ins_of mI_220 (by rfl)) rfl rfl
theorem r220_36 : runs cal 220 36 [v0, v1, v2, v3, v4, v5, v6, v7, v8, v9] [vI x0, vI x1] I = if x1 = x0 then runs cal 220 39 [v0, v1, v2, v3, v4, v5, v6, v7, v8, v9] [] I else runs cal 220 43 [v0, v1, v2, v3, v4, v5, v6, v7, v8, v9] [] I := st_cmp_ne (ins_of mI_220 (by rfl)) (by decide)
theorem r220_39 : runs cal 220 39 [v0, v1, v2, v3, v4, v5, v6, v7, v8, v9] [] I = runs cal 220 40 [v0, v1, v2, v3, v4, v5, v6, v7, v8, v9] [vI (1)] I := runs_to (ins_of mI_220 (by rfl)) rfl rfl
theorem r220_40 : runs cal 220 40 [v0, v1, v2, v3, v4, v5, v6, v7, v8, v9] [vI x0] I = runs cal 220 44 [v0, v1, v2, v3, v4, v5, v6, v7, v8, v9] [vI x0] I := st_goto (ins_of mI_220 (by rfl)) (by decide)
theorem r220_43 : runs cal 220 43 [v0, v1, v2, v3, v4, v5, v6, v7, v8, v9] [] I = runs cal 220 44 [v0, v1, v2, v3, v4, v5, v6, v7, v8, v9] [vI (0)] I := runs_to (ins_of mI_220 (by rfl)) rfl rfl
theorem r220_44 : runs cal 220 44 [v0, v1, v2, v3, v4, v5, v6, vI u, v8, v9] [vI x0] I = runs cal 220 46 [v0, v1, v2, v3, v4, v5, v6, vI u, vI x0, v9] [] I := runs_to (ins_of mI_220 (by rfl)) rfl rfl
theorem r220_46 : runs cal 220 46 [v0, v1, v2, v3, v4, v5, v6, v7, v8, v9] [] I = runs cal 220 47 [v0, v1, v2, v3, v4, v5, v6, v7, v8, v9] [vI (0)] I := runs_to (ins_of mI_220 (by rfl)) rfl rfl
theorem r220_47 : runs cal 220 47 [v0, v1, v2, v3, v4, v5, v6, v7, vI u, v9] [vI x0] I = runs cal 220 49 [v0, v1, v2, v3, v4, v5, v6, v7, vI u, vI x0] [] I := runs_to (ins_of mI_220 (by rfl)) rfl rfl
theorem r220_49 : runs cal 220 49 [v0, v1, v2, v3, v4, v5, v6, v7, v8, vI w] [] I = runs cal 220 51 [v0, v1, v2, v3, v4, v5, v6, v7, v8, vI w] [vI w] I := runs_to (ins_of mI_220 (by rfl)) rfl rfl
theorem r220_51 : runs cal 220 51 [v0, v1, v2, v3, v4, v5, v6, vI w, v8, v9] [vI x0] I = runs cal 220 53 [v0, v1, v2, v3, v4, v5, v6, vI w, v8, v9] [vI w, vI x0] I := runs_to (ins_of mI_220 (by rfl)) rfl rfl
theorem r220_53 : runs cal 220 53 [v0, v1, v2, v3, v4, v5, v6, v7, v8, v9] [vI x0, vI x1] I = if x1 < x0 then runs cal 220 56 [v0, v1, v2, v3, v4, v5, v6, v7, v8, v9] [] I else runs cal 220 142 [v0, v1, v2, v3, v4, v5, v6, v7, v8, v9] [] I := st_cmp_ge (ins_of mI_220 (by rfl)) (by decide)
theorem r220_56 : runs cal 220 56 [v0, v1, v2, v3, v4, v5, v6, v7, vI w, v9] [] I = runs cal 220 58 [v0, v1, v2, v3, v4, v5, v6, v7, vI w, v9] [vI w] I := runs_to (ins_of mI_220 (by rfl)) rfl rfl
theorem r220_58 : runs cal 220 58 [v0, v1, v2, v3, v4, v5, v6, v7, v8, v9] [vI x0] I = if x0 = 0 then runs cal 220 142 [v0, v1, v2, v3, v4, v5, v6, v7, v8, v9] [] I else runs cal 220 61 [v0, v1, v2, v3, v4, v5, v6, v7, v8, v9] [] I := st_if_eq (ins_of mI_220 (by rfl)) (by decide)
theorem r220_61 : runs cal 220 61 [vR 70, v1, v2, v3, v4, v5, v6, v7, v8, v9] [] I = runs cal 220 62 [vR 70, v1, v2, v3, v4, v5, v6, v7, v8, v9] [vR 70] I := runs_to (ins_of mI_220 (by rfl)) rfl rfl
theorem r220_62 : runs cal 220 62 [v0, v1, v2, v3, v4, v5, v6, v7, v8, v9] [vR 70] I = runs cal 220 65 [v0, v1, v2, v3, v4, v5, v6, v7, v8, v9] [vR 84] I := st_getR (ins_of mI_220 (by rfl)) mC_220 (by decide) fr_11_52 cT_70 (wdc wid_220 wd_70) rfl rfl
theorem r220_65 : runs cal 220 65 [vR 70, v1, v2, v3, v4, v5, v6, v7, v8, v9] [vR 84] I = runs cal 220 66 [vR 70, v1, v2, v3, v4, v5, v6, v7, v8, v9] [vR 70, vR 84] I := runs_to (ins_of mI_220 (by rfl)) rfl rfl
theorem r220_66 : runs cal 220 66 [v0, v1, v2, v3, v4, v5, v6, v7, v8, v9] [vR 70, vR 84] I = runs cal 220 69 [v0, v1, v2, v3, v4, v5, v6, v7, v8, v9] [vI (I 70 21), vR 84] I := st_getI (ins_of mI_220 (by rfl)) mC_220 (by decide) fr_11_308 cT_70 (wdc wid_220 wd_70) (Or.inl rfl)
theorem r220_69 : runs cal 220 69 [v0, v1, v2, v3, v4, v5, v6, v7, v8, vI w] [vI x0, vR 84] I = runs cal 220 71 [v0, v1, v2, v3, v4, v5, v6, v7, v8, vI w] [vI w, vI x0, vR 84] I := runs_to (ins_of mI_220 (by rfl)) rfl rfl
theorem r220_71 : runs cal 220 71 [v0, v1, v2, v3, v4, v5, v6, v7, v8, v9] [vI x0, vI x1, vR 84] I = runs cal 220 72 [v0, v1, v2, v3, v4, v5, v6, v7, v8, v9] [vI (iadd x1 x0), vR 84] I := runs_to (ins_of mI_220 (by rfl)) rfl rfl
theorem r220_72 : runs cal 220 72 [v0, v1, v2, v3, v4, v5, v6, v7, v8, v9] [vI x0, vR 84] I = if 0 ≤ x0 ∧ x0 < 200 then runs cal 220 73 [v0, v1, v2, v3, v4, v5, v6, v7, v8, v9] [vI (I 84 x0)] I else none := st_iald (ins_of mI_220 (by rfl)) cT_84 (wdc wid_220 wd_84)
theorem r220_73 : runs cal 220 73 [v0, v1, v2, v3, v4, v5, v6, v7, v8, vI w] [vI x0] I = runs cal 220 75 [v0, v1, v2, v3, v4, v5, v6, v7, v8, vI w] [vI w, vI x0] I := runs_to (ins_of mI_220 (by rfl)) rfl rfl
theorem r220_75 : runs cal 220 75 [v0, v1, v2, v3, v4, v5, v6, v7, v8, v9] [vI x0, vI x1] I = if x0 = 0 then runs cal 220 78 [v0, v1, v2, v3, v4, v5, v6, v7, v8, v9] [vI x1] I else runs cal 220 82 [v0, v1, v2, v3, v4, v5, v6, v7, v8, v9] [vI x1] I := st_if_ne (ins_of mI_220 (by rfl)) (by decide)
theorem r220_78 : runs cal 220 78 [v0, vI w, v2, v3, v4, v5, v6, v7, v8, v9] [vI x0] I = runs cal 220 79 [v0, vI w, v2, v3, v4, v5, v6, v7, v8, v9] [vI w, vI x0] I := runs_to (ins_of mI_220 (by rfl)) rfl rfl
theorem r220_79 : runs cal 220 79 [v0, v1, v2, v3, v4, v5, v6, v7, v8, v9] [vI x0, vI x1] I = runs cal 220 126 [v0, v1, v2, v3, v4, v5, v6, v7, v8, v9] [vI x0, vI x1] I := st_goto (ins_of mI_220 (by rfl)) (by decide)
theorem r220_82 : runs cal 220 82 [v0, v1, v2, v3, v4, v5, v6, v7, v8, vI w] [vI x0] I = runs cal 220 84 [v0, v1, v2, v3, v4, v5, v6, v7, v8, vI w] [vI w, vI x0] I := runs_to (ins_of mI_220 (by rfl)) rfl rfl
theorem r220_84 : runs cal 220 84 [v0, v1, v2, v3, v4, v5, v6, v7, v8, v9] [vI x0, vI x1] I = runs cal 220 85 [v0, v1, v2, v3, v4, v5, v6, v7, v8, v9] [vI (1), vI x0, vI x1] I := runs_to (ins_of mI_220 (by rfl)) rfl rfl
theorem r220_85 : runs cal 220 85 [v0, v1, v2, v3, v4, v5, v6, v7, v8, v9] [vI x0, vI x1, vI x2] I = if x1 = x0 then runs cal 220 88 [v0, v1, v2, v3, v4, v5, v6, v7, v8, v9] [vI x2] I else runs cal 220 92 [v0, v1, v2, v3, v4, v5, v6, v7, v8, v9] [vI x2] I := st_cmp_ne (ins_of mI_220 (by rfl)) (by decide)
theorem r220_88 : runs cal 220 88 [v0, v1, vI w, v3, v4, v5, v6, v7, v8, v9] [vI x0] I = runs cal 220 89 [v0, v1, vI w, v3, v4, v5, v6, v7, v8, v9] [vI w, vI x0] I := runs_to (ins_of mI_220 (by rfl)) rfl rfl
theorem r220_89 : runs cal 220 89 [v0, v1, v2, v3, v4, v5, v6, v7, v8, v9] [vI x0, vI x1] I = runs cal 220 126 [v0, v1, v2, v3, v4, v5, v6, v7, v8, v9] [vI x0, vI x1] I := st_goto (ins_of mI_220 (by rfl)) (by decide)
theorem r220_92 : runs cal 220 92 [v0, v1, v2, v3, v4, v5, v6, v7, v8, vI w] [vI x0] I = runs cal 220 94 [v0, v1, v2, v3, v4, v5, v6, v7, v8, vI w] [vI w, vI x0] I := runs_to (ins_of mI_220 (by rfl)) rfl rfl
theorem r220_94 : runs cal 220 94 [v0, v1, v2, v3, v4, v5, v6, v7, v8, v9] [vI x0, vI x1] I = runs cal 220 95 [v0, v1, v2, v3, v4, v5, v6, v7, v8, v9] [vI (2), vI x0, vI x1] I := runs_to (ins_of mI_220 (by rfl)) rfl rfl
theorem r220_95 : runs cal 220 95 [v0, v1, v2, v3, v4, v5, v6, v7, v8, v9] [vI x0, vI x1, vI x2] I = if x1 = x0 then runs cal 220 98 [v0, v1, v2, v3, v4, v5, v6, v7, v8, v9] [vI x2] I else runs cal 220 102 [v0, v1, v2, v3, v4, v5, v6, v7, v8, v9] [vI x2] I := st_cmp_ne (ins_of mI_220 (by rfl)) (by decide)
theorem r220_98 : runs cal 220 98 [v0, v1, v2, vI w, v4, v5, v6, v7, v8, v9] [vI x0] I = runs cal 220 99 [v0, v1, v2, vI w, v4, v5, v6, v7, v8, v9] [vI w, vI x0] I := runs_to (ins_of mI_220 (by rfl)) rfl rfl
theorem r220_99 : runs cal 220 99 [v0, v1, v2, v3, v4, v5, v6, v7, v8, v9] [vI x0, vI x1] I = runs cal 220 126 [v0, v1, v2, v3, v4, v5, v6, v7, v8, v9] [vI x0, vI x1] I := st_goto (ins_of mI_220 (by rfl)) (by decide)
theorem r220_102 : runs cal 220 102 [v0, v1, v2, v3, v4, v5, v6, v7, v8, vI w] [vI x0] I = runs cal 220 104 [v0, v1, v2, v3, v4, v5, v6, v7, v8, vI w] [vI w, vI x0] I := runs_to (ins_of mI_220 (by rfl)) rfl rfl
theorem r220_104 : runs cal 220 104 [v0, v1, v2, v3, v4, v5, v6, v7, v8, v9] [vI x0, vI x1] I = runs cal 220 105 [v0, v1, v2, v3, v4, v5, v6, v7, v8, v9] [vI (3), vI x0, vI x1] I := runs_to (ins_of mI_220 (by rfl)) rfl rfl
theorem r220_105 : runs cal 220 105 [v0, v1, v2, v3, v4, v5, v6, v7, v8, v9] [vI x0, vI x1, vI x2] I = if x1 = x0 then runs cal 220 108 [v0, v1, v2, v3, v4, v5, v6, v7, v8, v9] [vI x2] I else runs cal 220 113 [v0, v1, v2, v3, v4, v5, v6, v7, v8, v9] [vI x2] I := st_cmp_ne (ins_of mI_220 (by rfl)) (by decide)
theorem r220_108 : runs cal 220 108 [v0, v1, v2, v3, vI w, v5, v6, v7, v8, v9] [vI x0] I = runs cal 220 110 [v0, v1, v2, v3, vI w, v5, v6, v7, v8, v9] [vI w, vI x0] I := runs_to (ins_of mI_220 (by rfl)) rfl rfl
theorem r220_110 : runs cal 220 110 [v0, v1, v2, v3, v4, v5, v6, v7, v8, v9] [vI x0, vI x1] I = runs cal 220 126 [v0, v1, v2, v3, v4, v5, v6, v7, v8, v9] [vI x0, vI x1] I := st_goto (ins_of mI_220 (by rfl)) (by decide)
theorem r220_113 : runs cal 220 113 [v0, v1, v2, v3, v4, v5, v6, v7, v8, vI w] [vI x0] I = runs cal 220 115 [v0, v1, v2, v3, v4, v5, v6, v7, v8, vI w] [vI w, vI x0] I := runs_to (ins_of mI_220 (by rfl)) rfl rfl
theorem r220_115 : runs cal 220 115 [v0, v1, v2, v3, v4, v5, v6, v7, v8, v9] [vI x0, vI x1] I = runs cal 220 116 [v0, v1, v2, v3, v4, v5, v6, v7, v8, v9] [vI (4), vI x0, vI x1] I := runs_to (ins_of mI_220 (by rfl)) rfl rfl
theorem r220_116 : runs cal 220 116 [v0, v1, v2, v3, v4, v5, v6, v7, v8, v9] [vI x0, vI x1, vI x2] I = if x1 = x0 then runs cal 220 119 [v0, v1, v2, v3, v4, v5, v6, v7, v8, v9] [vI x2] I else runs cal 220 124 [v0, v1, v2, v3, v4, v5, v6, v7, v8, v9] [vI x2] I := st_cmp_ne (ins_of mI_220 (by rfl)) (by decide)
theorem r220_119 : runs cal 220 119 [v0, v1, v2, v3, v4, vI w, v6, v7, v8, v9] [vI x0] I = runs cal 220 121 [v0, v1, v2, v3, v4, vI w, v6, v7, v8, v9] [vI w, vI x0] I := runs_to (ins_of mI_220 (by rfl)) rfl rfl
theorem r220_121 : runs cal 220 121 [v0, v1, v2, v3, v4, v5, v6, v7, v8, v9] [vI x0, vI x1] I = runs cal 220 126 [v0, v1, v2, v3, v4, v5, v6, v7, v8, v9] [vI x0, vI x1] I := st_goto (ins_of mI_220 (by rfl)) (by decide)
theorem r220_124 : runs cal 220 124 [v0, v1, v2, v3, v4, v5, vI w, v7, v8, v9] [vI x0] I = runs cal 220 126 [v0, v1, v2, v3, v4, v5, vI w, v7, v8, v9] [vI w, vI x0] I := runs_to (ins_of mI_220 (by rfl)) rfl rfl
theorem r220_126 : runs cal 220 126 [v0, v1, v2, v3, v4, v5, v6, v7, v8, v9] [vI x0, vI x1] I = if x1 = x0 then runs cal 220 129 [v0, v1, v2, v3, v4, v5, v6, v7, v8, v9] [] I else runs cal 220 133 [v0, v1, v2, v3, v4, v5, v6, v7, v8, v9] [] I := st_cmp_ne (ins_of mI_220 (by rfl)) (by decide)
theorem r220_129 : runs cal 220 129 [v0, v1, v2, v3, v4, v5, v6, v7, v8, v9] [] I = runs cal 220 130 [v0, v1, v2, v3, v4, v5, v6, v7, v8, v9] [vI (1)] I := runs_to (ins_of mI_220 (by rfl)) rfl rfl
theorem r220_130 : runs cal 220 130 [v0, v1, v2, v3, v4, v5, v6, v7, v8, v9] [vI x0] I = runs cal 220 134 [v0, v1, v2, v3, v4, v5, v6, v7, v8, v9] [vI x0] I := st_goto (ins_of mI_220 (by rfl)) (by decide)
theorem r220_133 : runs cal 220 133 [v0, v1, v2, v3, v4, v5, v6, v7, v8, v9] [] I = runs cal 220 134 [v0, v1, v2, v3, v4, v5, v6, v7, v8, v9] [vI (0)] I := runs_to (ins_of mI_220 (by rfl)) rfl rfl
theorem r220_134 : runs cal 220 134 [v0, v1, v2, v3, v4, v5, v6, vI u, v8, v9] [vI x0] I = runs cal 220 136 [v0, v1, v2, v3, v4, v5, v6, vI u, vI x0, v9] [] I := runs_to (ins_of mI_220 (by rfl)) rfl rfl
theorem r220_136 : runs cal 220 136 [v0, v1, v2, v3, v4, v5, v6, v7, vI u, vI w] [] I = runs cal 220 139 [v0, v1, v2, v3, v4, v5, v6, v7, vI u, vI (iadd w (1))] [] I := runs_to (ins_of mI_220 (by rfl)) rfl rfl
theorem r220_139 : runs cal 220 139 [v0, v1, v2, v3, v4, v5, v6, v7, v8, v9] [] I = runs cal 220 49 [v0, v1, v2, v3, v4, v5, v6, v7, v8, v9] [] I := st_goto (ins_of mI_220 (by rfl)) (by decide)
theorem r220_142 : runs cal 220 142 [v0, v1, v2, v3, v4, v5, v6, v7, vI w, v9] [] I = runs cal 220 144 [v0, v1, v2, v3, v4, v5, v6, v7, vI w, v9] [vI w] I := runs_to (ins_of mI_220 (by rfl)) rfl rfl
theorem r220_144 : runs cal 220 144 [v0, v1, v2, v3, v4, v5, v6, v7, v8, v9] [vI x0] I = if x0 = 0 ∨ x0 = 1 then some (some (vI x0), I) else none := st_retZ (ins_of mI_220 (by rfl)) mR_220 (Or.inl rfl)
theorem r221_0 : runs cal 221 0 [vR 70, v1, v2] [] I = runs cal 221 1 [vR 70, v1, v2] [vR 70] I := runs_to (ins_of mI_221 (by rfl)) rfl rfl
theorem r221_1 : runs cal 221 1 [v0, v1, v2] [vR 70] I = runs cal 221 4 [v0, v1, v2] [vI (I 70 23)] I := st_getI (ins_of mI_221 (by rfl)) mC_221 (by decide) fr_11_314 cT_70 (wdc wid_221 wd_70) (Or.inl rfl)
theorem r221_4 : runs cal 221 4 [v0, v1, v2] [vI x0] I = runs cal 221 5 [v0, v1, v2] [vI (2), vI x0] I := runs_to (ins_of mI_221 (by rfl)) rfl rfl
theorem r221_5 : runs cal 221 5 [v0, v1, v2] [vI x0, vI x1] I = if x1 = x0 then runs cal 221 8 [v0, v1, v2] [] I else runs cal 221 23 [v0, v1, v2] [] I := st_cmp_ne (ins_of mI_221 (by rfl)) (by decide)
theorem r221_8 : runs cal 221 8 [vR 70, v1, v2] [] I = runs cal 221 9 [vR 70, v1, v2] [vR 70] I := runs_to (ins_of mI_221 (by rfl)) rfl rfl
theorem r221_9 : runs cal 221 9 [v0, v1, v2] [vR 70] I = runs cal 221 12 [v0, v1, v2] [vI (I 70 24)] I := st_getI (ins_of mI_221 (by rfl)) mC_221 (by decide) fr_11_317 cT_70 (wdc wid_221 wd_70) (Or.inl rfl)
theorem r221_12 : runs cal 221 12 [v0, v1, v2] [vI x0] I = runs cal 221 13 [v0, v1, v2] [vL x0] I := runs_to (ins_of mI_221 (by rfl)) rfl rfl
theorem r221_13 : runs cal 221 13 [v0, vI w, v2] [vL x0] I = runs cal 221 14 [v0, vI w, v2] [vI w, vL x0] I := runs_to (ins_of mI_221 (by rfl)) rfl rfl
theorem r221_14 : runs cal 221 14 [v0, v1, v2] [vI x0, vL x1] I = runs cal 221 15 [v0, v1, v2] [vL x0, vL x1] I := runs_to (ins_of mI_221 (by rfl)) rfl rfl
theorem r221_15 : runs cal 221 15 [v0, v1, vI w] [vL x0, vL x1] I = runs cal 221 16 [v0, v1, vI w] [vI w, vL x0, vL x1] I := runs_to (ins_of mI_221 (by rfl)) rfl rfl
theorem r221_16 : runs cal 221 16 [v0, v1, v2] [vI x0, vL x1, vL x2] I = runs cal 221 17 [v0, v1, v2] [vL x0, vL x1, vL x2] I := runs_to (ins_of mI_221 (by rfl)) rfl rfl
theorem r221_17 : runs cal 221 17 [v0, v1, v2] [vL x0, vL x1, vL x2] I = (cal 142 [vL x2, vL x1, vL x0] I).bind (fun q => runs cal 221 20 [v0, v1, v2] (pushR q.1 []) q.2) := st_call (st := true) (ins_of mI_221 (by rfl)) mC_221 mr_11_121 (by decide) mS_142 mN_142 rfl (Nat.le_of_ble_eq_true rfl) rfl rfl (Or.inl rfl) (Or.inl (wid_221.trans wid_142.symm))
theorem r221_20 : runs cal 221 20 [v0, v1, v2] [vI x0] I = if x0 = 0 then runs cal 221 23 [v0, v1, v2] [] I else runs cal 221 25 [v0, v1, v2] [] I := st_if_ne (ins_of mI_221 (by rfl)) (by decide)
theorem r221_23 : runs cal 221 23 [v0, v1, v2] [] I = runs cal 221 24 [v0, v1, v2] [vI (0)] I := runs_to (ins_of mI_221 (by rfl)) rfl rfl
theorem r221_24 : runs cal 221 24 [v0, v1, v2] [vI x0] I = if x0 = 0 ∨ x0 = 1 then some (some (vI x0), I) else none := st_retZ (ins_of mI_221 (by rfl)) mR_221 (Or.inl rfl)
theorem r221_25 : runs cal 221 25 [vR 70, v1, v2] [] I = runs cal 221 26 [vR 70, v1, v2] [vR 70] I := runs_to (ins_of mI_221 (by rfl)) rfl rfl
theorem r221_26 : runs cal 221 26 [vR 70, v1, v2] [vR 70] I = runs cal 221 27 [vR 70, v1, v2] [vR 70, vR 70] I := runs_to (ins_of mI_221 (by rfl)) rfl rfl
theorem r221_27 : runs cal 221 27 [v0, v1, v2] [vR 70, vR 70] I = runs cal 221 30 [v0, v1, v2] [vI (I 70 24), vR 70] I := st_getI (ins_of mI_221 (by rfl)) mC_221 (by decide) fr_11_317 cT_70 (wdc wid_221 wd_70) (Or.inl rfl)
theorem r221_30 : runs cal 221 30 [v0, v1, v2] [vI x0, vR 70] I = runs cal 221 33 [v0, v1, v2] [] (mset I 70 28 x0) := st_putI (ins_of mI_221 (by rfl)) mC_221 fr_11_329 cT_70 (wdc wid_221 wd_70) rfl
theorem r221_33 : runs cal 221 33 [vR 70, v1, v2] [] I = runs cal 221 34 [vR 70, v1, v2] [vR 70] I := runs_to (ins_of mI_221 (by rfl)) rfl rfl
theorem r221_34 : runs cal 221 34 [v0, v1, v2] [vR 70] I = (cal 219 [vR 70] I).bind (fun q => runs cal 221 37 [v0, v1, v2] (pushR q.1 []) q.2) := st_call (st := false) (ins_of mI_221 (by rfl)) mC_221 mr_11_332 (by decide) mS_219 mN_219 rfl (Nat.le_of_ble_eq_true rfl) rfl rfl (Or.inr ⟨_, _, rfl, rcv mC_219 rfl wid_221 (by decide +kernel)⟩) (Or.inl (wid_221.trans wid_219.symm))
theorem r221_37 : runs cal 221 37 [v0, v1, v2] [] I = runs cal 221 38 [v0, v1, v2] [vI (1)] I := runs_to (ins_of mI_221 (by rfl)) rfl rfl
theorem r221_38 : runs cal 221 38 [v0, v1, v2] [vI x0] I = if x0 = 0 ∨ x0 = 1 then some (some (vI x0), I) else none := st_retZ (ins_of mI_221 (by rfl)) mR_221 (Or.inl rfl)
theorem r222_0 : runs cal 222 0 [vR 70, v1] [] I = runs cal 222 1 [vR 70, v1] [vR 70] I := runs_to (ins_of mI_222 (by rfl)) rfl rfl
theorem r222_1 : runs cal 222 1 [v0, v1] [vR 70] I = runs cal 222 3 [v0, v1] [vI (108), vR 70] I := runs_to (ins_of mI_222 (by rfl)) rfl rfl
theorem r222_3 : runs cal 222 3 [v0, v1] [vI x0, vR 70] I = runs cal 222 5 [v0, v1] [vI (97), vI x0, vR 70] I := runs_to (ins_of mI_222 (by rfl)) rfl rfl
theorem r222_5 : runs cal 222 5 [v0, v1] [vI x0, vI x1, vR 70] I = runs cal 222 7 [v0, v1] [vI (115), vI x0, vI x1, vR 70] I := runs_to (ins_of mI_222 (by rfl)) rfl rfl
theorem r222_7 : runs cal 222 7 [v0, v1] [vI x0, vI x1, vI x2, vR 70] I = runs cal 222 9 [v0, v1] [vI (116), vI x0, vI x1, vI x2, vR 70] I := runs_to (ins_of mI_222 (by rfl)) rfl rfl
theorem r222_9 : runs cal 222 9 [v0, v1] [vI x0, vI x1, vI x2, vI x3, vR 70] I = runs cal 222 10 [v0, v1] [vI (0), vI x0, vI x1, vI x2, vI x3, vR 70] I := runs_to (ins_of mI_222 (by rfl)) rfl rfl
theorem r222_10 : runs cal 222 10 [v0, v1] [vI x0, vI x1, vI x2, vI x3, vI x4, vR 70] I = runs cal 222 11 [v0, v1] [vI (0), vI x0, vI x1, vI x2, vI x3, vI x4, vR 70] I := runs_to (ins_of mI_222 (by rfl)) rfl rfl
theorem r222_11 : runs cal 222 11 [v0, v1] [vI x0, vI x1, vI x2, vI x3, vI x4, vI x5, vR 70] I = (cal 220 [vR 70, vI x5, vI x4, vI x3, vI x2, vI x1, vI x0] I).bind (fun q => runs cal 222 14 [v0, v1] (pushR q.1 []) q.2) := st_call (st := false) (ins_of mI_222 (by rfl)) mC_222 mr_11_335 (by decide) mS_220 mN_220 rfl (Nat.le_of_ble_eq_true rfl) rfl rfl (Or.inr ⟨_, _, rfl, rcv mC_220 rfl wid_222 (by decide +kernel)⟩) (Or.inl (wid_222.trans wid_220.symm))
theorem r222_14 : runs cal 222 14 [v0, v1] [vI x0] I = if x0 = 0 then runs cal 222 17 [v0, v1] [] I else runs cal 222 19 [v0, v1] [] I := st_if_ne (ins_of mI_222 (by rfl)) (by decide)
theorem r222_17 : runs cal 222 17 [v0, v1] [] I = runs cal 222 18 [v0, v1] [vI (0)] I := runs_to (ins_of mI_222 (by rfl)) rfl rfl
theorem r222_18 : runs cal 222 18 [v0, v1] [vI x0] I = if x0 = 0 ∨ x0 = 1 then some (some (vI x0), I) else none := st_retZ (ins_of mI_222 (by rfl)) mR_222 (Or.inl rfl)
theorem r222_19 : runs cal 222 19 [vR 70, v1] [] I = runs cal 222 20 [vR 70, v1] [vR 70] I := runs_to (ins_of mI_222 (by rfl)) rfl rfl
theorem r222_20 : runs cal 222 20 [v0, v1] [vR 70] I = (cal 219 [vR 70] I).bind (fun q => runs cal 222 23 [v0, v1] (pushR q.1 []) q.2) := st_call (st := false) (ins_of mI_222 (by rfl)) mC_222 mr_11_332 (by decide) mS_219 mN_219 rfl (Nat.le_of_ble_eq_true rfl) rfl rfl (Or.inr ⟨_, _, rfl, rcv mC_219 rfl wid_222 (by decide +kernel)⟩) (Or.inl (wid_222.trans wid_219.symm))
theorem r222_23 : runs cal 222 23 [vR 70, v1] [] I = runs cal 222 24 [vR 70, v1] [vR 70] I := runs_to (ins_of mI_222 (by rfl)) rfl rfl
theorem r222_24 : runs cal 222 24 [v0, v1] [vR 70] I = runs cal 222 25 [v0, v1] [vI (1), vR 70] I := runs_to (ins_of mI_222 (by rfl)) rfl rfl
theorem r222_25 : runs cal 222 25 [v0, v1] [vI x0, vR 70] I = runs cal 222 27 [v0, v1] [vI (7), vI x0, vR 70] I := runs_to (ins_of mI_222 (by rfl)) rfl rfl
theorem r222_27 : runs cal 222 27 [v0, v1] [vI x0, vI x1, vR 70] I = (cal 221 [vR 70, vI x1, vI x0] I).bind (fun q => runs cal 222 30 [v0, v1] (pushR q.1 []) q.2) := st_call (st := false) (ins_of mI_222 (by rfl)) mC_222 mr_11_339 (by decide) mS_221 mN_221 rfl (Nat.le_of_ble_eq_true rfl) rfl rfl (Or.inr ⟨_, _, rfl, rcv mC_221 rfl wid_222 (by decide +kernel)⟩) (Or.inl (wid_222.trans wid_221.symm))
theorem r222_30 : runs cal 222 30 [v0, v1] [vI x0] I = if x0 = 0 then runs cal 222 33 [v0, v1] [] I else runs cal 222 35 [v0, v1] [] I := st_if_ne (ins_of mI_222 (by rfl)) (by decide)
theorem r222_33 : runs cal 222 33 [v0, v1] [] I = runs cal 222 34 [v0, v1] [vI (0)] I := runs_to (ins_of mI_222 (by rfl)) rfl rfl
theorem r222_34 : runs cal 222 34 [v0, v1] [vI x0] I = if x0 = 0 ∨ x0 = 1 then some (some (vI x0), I) else none := st_retZ (ins_of mI_222 (by rfl)) mR_222 (Or.inl rfl)
theorem r222_35 : runs cal 222 35 [vR 70, v1] [] I = runs cal 222 36 [vR 70, v1] [vR 70] I := runs_to (ins_of mI_222 (by rfl)) rfl rfl
theorem r222_36 : runs cal 222 36 [v0, v1] [vR 70] I = runs cal 222 39 [v0, v1] [vR 85] I := st_getR (ins_of mI_222 (by rfl)) mC_222 (by decide) fr_11_55 cT_70 (wdc wid_222 wd_70) rfl rfl
theorem r222_39 : runs cal 222 39 [v0, v1] [vR 85] I = runs cal 222 41 [v0, v1] [vI (8), vR 85] I := runs_to (ins_of mI_222 (by rfl)) rfl rfl
theorem r222_41 : runs cal 222 41 [vR 70, v1] [vI x0, vR 85] I = runs cal 222 42 [vR 70, v1] [vR 70, vI x0, vR 85] I := runs_to (ins_of mI_222 (by rfl)) rfl rfl
theorem r222_42 : runs cal 222 42 [v0, v1] [vR 70, vI x1, vR 85] I = runs cal 222 45 [v0, v1] [vI (I 70 28), vI x1, vR 85] I := st_getI (ins_of mI_222 (by rfl)) mC_222 (by decide) fr_11_329 cT_70 (wdc wid_222 wd_70) (Or.inl rfl)
theorem r222_45 : runs cal 222 45 [v0, v1] [vI x0, vI x1, vR 85] I = if 0 ≤ x1 ∧ x1 < 26 then runs cal 222 46 [v0, v1] [] (mset I 85 x1 x0) else none := st_iast (ins_of mI_222 (by rfl)) cT_85 (wdc wid_222 wd_85)
theorem r222_46 : runs cal 222 46 [v0, v1] [] I = runs cal 222 47 [v0, v1] [vI (0)] I := runs_to (ins_of mI_222 (by rfl)) rfl rfl
theorem r222_47 : runs cal 222 47 [vR b0, v1] [vI x0] I = runs cal 222 48 [vR b0, vI x0] [] I := runs_to (ins_of mI_222 (by rfl)) rfl rfl
theorem r222_48 : runs cal 222 48 [v0, vI w] [] I = runs cal 222 49 [v0, vI w] [vI w] I := runs_to (ins_of mI_222 (by rfl)) rfl rfl
theorem r222_49 : runs cal 222 49 [v0, v1] [vI x0] I = runs cal 222 51 [v0, v1] [vI (8), vI x0] I := runs_to (ins_of mI_222 (by rfl)) rfl rfl
theorem r222_51 : runs cal 222 51 [v0, v1] [vI x0, vI x1] I = if x1 < x0 then runs cal 222 54 [v0, v1] [] I else runs cal 222 85 [v0, v1] [] I := st_cmp_ge (ins_of mI_222 (by rfl)) (by decide)
theorem r222_54 : runs cal 222 54 [vR 70, v1] [] I = runs cal 222 55 [vR 70, v1] [vR 70] I := runs_to (ins_of mI_222 (by rfl)) rfl rfl
theorem r222_55 : runs cal 222 55 [v0, v1] [vR 70] I = runs cal 222 58 [v0, v1] [vR 85] I := st_getR (ins_of mI_222 (by rfl)) mC_222 (by decide) fr_11_55 cT_70 (wdc wid_222 wd_70) rfl rfl
theorem r222_58 : runs cal 222 58 [v0, v1] [vR 85] I = runs cal 222 59 [v0, v1] [vI (0), vR 85] I := runs_to (ins_of mI_222 (by rfl)) rfl rfl
theorem r222_59 : runs cal 222 59 [v0, vI w] [vI x0, vR 85] I = runs cal 222 60 [v0, vI w] [vI w, vI x0, vR 85] I := runs_to (ins_of mI_222 (by rfl)) rfl rfl
theorem r222_60 : runs cal 222 60 [v0, v1] [vI x0, vI x1, vR 85] I = runs cal 222 61 [v0, v1] [vI (iadd x1 x0), vR 85] I := runs_to (ins_of mI_222 (by rfl)) rfl rfl
theorem r222_61 : runs cal 222 61 [v0, vI w] [vI x0, vR 85] I = runs cal 222 62 [v0, vI w] [vI w, vI x0, vR 85] I := runs_to (ins_of mI_222 (by rfl)) rfl rfl
theorem r222_62 : runs cal 222 62 [v0, v1] [vI x0, vI x1, vR 85] I = if x0 = 0 then runs cal 222 73 [v0, v1] [vI x1, vR 85] I else runs cal 222 65 [v0, v1] [vI x1, vR 85] I := st_if_eq (ins_of mI_222 (by rfl)) (by decide)
theorem r222_65 : runs cal 222 65 [v0, vI w] [vI x0, vR 85] I = runs cal 222 66 [v0, vI w] [vI w, vI x0, vR 85] I := runs_to (ins_of mI_222 (by rfl)) rfl rfl
theorem r222_66 : runs cal 222 66 [vR 70, v1] [vI x0, vI x1, vR 85] I = runs cal 222 67 [vR 70, v1] [vR 70, vI x0, vI x1, vR 85] I := runs_to (ins_of mI_222 (by rfl)) rfl rfl
theorem r222_67 : runs cal 222 67 [v0, v1] [vR 70, vI x1, vI x2, vR 85] I = runs cal 222 70 [v0, v1] [vI (I 70 28), vI x1, vI x2, vR 85] I := st_getI (ins_of mI_222 (by rfl)) mC_222 (by decide) fr_11_329 cT_70 (wdc wid_222 wd_70) (Or.inl rfl)
theorem r222_70 : runs cal 222 70 [v0, v1] [vI x0, vI x1, vI x2, vR 85] I = if x1 < x0 then runs cal 222 77 [v0, v1] [vI x2, vR 85] I else runs cal 222 73 [v0, v1] [vI x2, vR 85] I := st_cmp_lt (ins_of mI_222 (by rfl)) (by decide)
theorem r222_73 : runs cal 222 73 [v0, v1] [vI x0, vR 85] I = runs cal 222 74 [v0, v1] [vI (0), vI x0, vR 85] I := runs_to (ins_of mI_222 (by rfl)) rfl rfl
theorem r222_74 : runs cal 222 74 [v0, v1] [vI x0, vI x1, vR 85] I = runs cal 222 78 [v0, v1] [vI x0, vI x1, vR 85] I := st_goto (ins_of mI_222 (by rfl)) (by decide)
theorem r222_77 : runs cal 222 77 [v0, v1] [vI x0, vR 85] I = runs cal 222 78 [v0, v1] [vI (2), vI x0, vR 85] I := runs_to (ins_of mI_222 (by rfl)) rfl rfl
theorem r222_78 : runs cal 222 78 [v0, v1] [vI x0, vI x1, vR 85] I = if 0 ≤ x1 ∧ x1 < 26 then runs cal 222 79 [v0, v1] [] (mset I 85 x1 x0) else none := st_iast (ins_of mI_222 (by rfl)) cT_85 (wdc wid_222 wd_85)
theorem r222_79 : runs cal 222 79 [vR b0, vI w] [] I = runs cal 222 82 [vR b0, vI (iadd w (1))] [] I := runs_to (ins_of mI_222 (by rfl)) rfl rfl
theorem r222_82 : runs cal 222 82 [v0, v1] [] I = runs cal 222 48 [v0, v1] [] I := st_goto (ins_of mI_222 (by rfl)) (by decide)
theorem r222_85 : runs cal 222 85 [v0, v1] [] I = runs cal 222 86 [v0, v1] [vI (1)] I := runs_to (ins_of mI_222 (by rfl)) rfl rfl
theorem r222_86 : runs cal 222 86 [v0, v1] [vI x0] I = if x0 = 0 ∨ x0 = 1 then some (some (vI x0), I) else none := st_retZ (ins_of mI_222 (by rfl)) mR_222 (Or.inl rfl)
theorem r223_0 : runs cal 223 0 [vR 70] [] I = runs cal 223 1 [vR 70] [vR 70] I := runs_to (ins_of mI_223 (by rfl)) rfl rfl
theorem r223_1 : runs cal 223 1 [v0] [vR 70] I = (cal 219 [vR 70] I).bind (fun q => runs cal 223 4 [v0] (pushR q.1 []) q.2) := st_call (st := false) (ins_of mI_223 (by rfl)) mC_223 mr_11_332 (by decide) mS_219 mN_219 rfl (Nat.le_of_ble_eq_true rfl) rfl rfl (Or.inr ⟨_, _, rfl, rcv mC_219 rfl wid_223 (by decide +kernel)⟩) (Or.inl (wid_223.trans wid_219.symm))
theorem r223_4 : runs cal 223 4 [vR 70] [] I = runs cal 223 5 [vR 70] [vR 70] I := runs_to (ins_of mI_223 (by rfl)) rfl rfl
theorem r223_5 : runs cal 223 5 [v0] [vR 70] I = runs cal 223 6 [v0] [vI (1), vR 70] I := runs_to (ins_of mI_223 (by rfl)) rfl rfl
theorem r223_6 : runs cal 223 6 [vR 70] [vI x0, vR 70] I = runs cal 223 7 [vR 70] [vR 70, vI x0, vR 70] I := runs_to (ins_of mI_223 (by rfl)) rfl rfl
theorem r223_7 : runs cal 223 7 [v0] [vR 70, vI x1, vR 70] I = runs cal 223 10 [v0] [vR 85, vI x1, vR 70] I := st_getR (ins_of mI_223 (by rfl)) mC_223 (by decide) fr_11_55 cT_70 (wdc wid_223 wd_70) rfl rfl
theorem r223_10 : runs cal 223 10 [v0] [vR 85, vI x1, vR 70] I = runs cal 223 12 [v0] [vI (8), vR 85, vI x1, vR 70] I := runs_to (ins_of mI_223 (by rfl)) rfl rfl
theorem r223_12 : runs cal 223 12 [v0] [vI x0, vR 85, vI x2, vR 70] I = if 0 ≤ x0 ∧ x0 < 26 then runs cal 223 13 [v0] [vI (I 85 x0), vI x2, vR 70] I else none := st_iald (ins_of mI_223 (by rfl)) cT_85 (wdc wid_223 wd_85)
theorem r223_13 : runs cal 223 13 [v0] [vI x0, vI x1, vR 70] I = runs cal 223 14 [v0] [vI (1), vI x0, vI x1, vR 70] I := runs_to (ins_of mI_223 (by rfl)) rfl rfl
theorem r223_14 : runs cal 223 14 [v0] [vI x0, vI x1, vI x2, vR 70] I = runs cal 223 15 [v0] [vI (isub x1 x0), vI x2, vR 70] I := runs_to (ins_of mI_223 (by rfl)) rfl rfl
theorem r223_15 : runs cal 223 15 [v0] [vI x0, vI x1, vR 70] I = (cal 221 [vR 70, vI x1, vI x0] I).bind (fun q => runs cal 223 18 [v0] (pushR q.1 []) q.2) := st_call (st := false) (ins_of mI_223 (by rfl)) mC_223 mr_11_339 (by decide) mS_221 mN_221 rfl (Nat.le_of_ble_eq_true rfl) rfl rfl (Or.inr ⟨_, _, rfl, rcv mC_221 rfl wid_223 (by decide +kernel)⟩) (Or.inl (wid_223.trans wid_221.symm))
theorem r223_18 : runs cal 223 18 [v0] [vI x0] I = if x0 = 0 then runs cal 223 21 [v0] [] I else runs cal 223 23 [v0] [] I := st_if_ne (ins_of mI_223 (by rfl)) (by decide)
theorem r223_21 : runs cal 223 21 [v0] [] I = runs cal 223 22 [v0] [vI (0)] I := runs_to (ins_of mI_223 (by rfl)) rfl rfl
theorem r223_22 : runs cal 223 22 [v0] [vI x0] I = if x0 = 0 ∨ x0 = 1 then some (some (vI x0), I) else none := st_retZ (ins_of mI_223 (by rfl)) mR_223 (Or.inl rfl)
theorem r223_23 : runs cal 223 23 [vR 70] [] I = runs cal 223 24 [vR 70] [vR 70] I := runs_to (ins_of mI_223 (by rfl)) rfl rfl
theorem r223_24 : runs cal 223 24 [v0] [vR 70] I = runs cal 223 27 [v0] [vR 85] I := st_getR (ins_of mI_223 (by rfl)) mC_223 (by decide) fr_11_55 cT_70 (wdc wid_223 wd_70) rfl rfl
theorem r223_27 : runs cal 223 27 [v0] [vR 85] I = runs cal 223 28 [v0] [vI (0), vR 85] I := runs_to (ins_of mI_223 (by rfl)) rfl rfl
theorem r223_28 : runs cal 223 28 [vR 70] [vI x0, vR 85] I = runs cal 223 29 [vR 70] [vR 70, vI x0, vR 85] I := runs_to (ins_of mI_223 (by rfl)) rfl rfl
theorem r223_29 : runs cal 223 29 [v0] [vR 70, vI x1, vR 85] I = runs cal 223 32 [v0] [vI (I 70 28), vI x1, vR 85] I := st_getI (ins_of mI_223 (by rfl)) mC_223 (by decide) fr_11_329 cT_70 (wdc wid_223 wd_70) (Or.inl rfl)
theorem r223_32 : runs cal 223 32 [v0] [vI x0, vI x1, vR 85] I = runs cal 223 33 [v0] [vI (iadd x1 x0), vR 85] I := runs_to (ins_of mI_223 (by rfl)) rfl rfl
theorem r223_33 : runs cal 223 33 [v0] [vI x0, vR 85] I = runs cal 223 34 [v0] [vI (1), vI x0, vR 85] I := runs_to (ins_of mI_223 (by rfl)) rfl rfl
theorem r223_34 : runs cal 223 34 [v0] [vI x0, vI x1, vR 85] I = if 0 ≤ x1 ∧ x1 < 26 then runs cal 223 35 [v0] [] (mset I 85 x1 x0) else none := st_iast (ins_of mI_223 (by rfl)) cT_85 (wdc wid_223 wd_85)
theorem r223_35 : runs cal 223 35 [v0] [] I = runs cal 223 36 [v0] [vI (1)] I := runs_to (ins_of mI_223 (by rfl)) rfl rfl
theorem r223_36 : runs cal 223 36 [v0] [vI x0] I = if x0 = 0 ∨ x0 = 1 then some (some (vI x0), I) else none := st_retZ (ins_of mI_223 (by rfl)) mR_223 (Or.inl rfl)
theorem r224_0 : runs cal 224 0 [vR 70, v1, v2] [] I = runs cal 224 1 [vR 70, v1, v2] [vR 70] I := runs_to (ins_of mI_224 (by rfl)) rfl rfl
theorem r224_1 : runs cal 224 1 [v0, v1, v2] [vR 70] I = runs cal 224 4 [v0, v1, v2] [vI (I 70 26)] I := st_getI (ins_of mI_224 (by rfl)) mC_224 (by decide) fr_11_342 cT_70 (wdc wid_224 wd_70) (Or.inl rfl)
theorem r224_4 : runs cal 224 4 [v0, v1, v2] [vI x0] I = runs cal 224 5 [v0, v1, v2] [vI (3), vI x0] I := runs_to (ins_of mI_224 (by rfl)) rfl rfl
theorem r224_5 : runs cal 224 5 [v0, v1, v2] [vI x0, vI x1] I = if x1 = x0 then runs cal 224 8 [v0, v1, v2] [] I else runs cal 224 10 [v0, v1, v2] [] I := st_cmp_ne (ins_of mI_224 (by rfl)) (by decide)
theorem r224_8 : runs cal 224 8 [v0, v1, v2] [] I = runs cal 224 9 [v0, v1, v2] [vI (0)] I := runs_to (ins_of mI_224 (by rfl)) rfl rfl
theorem r224_9 : runs cal 224 9 [v0, v1, v2] [vI x0] I = if x0 = 0 ∨ x0 = 1 then some (some (vI x0), I) else none := st_retZ (ins_of mI_224 (by rfl)) mR_224 (Or.inl rfl)
theorem r224_10 : runs cal 224 10 [vR 70, v1, v2] [] I = runs cal 224 11 [vR 70, v1, v2] [vR 70] I := runs_to (ins_of mI_224 (by rfl)) rfl rfl
theorem r224_11 : runs cal 224 11 [v0, v1, v2] [vR 70] I = (cal 219 [vR 70] I).bind (fun q => runs cal 224 14 [v0, v1, v2] (pushR q.1 []) q.2) := st_call (st := false) (ins_of mI_224 (by rfl)) mC_224 mr_11_332 (by decide) mS_219 mN_219 rfl (Nat.le_of_ble_eq_true rfl) rfl rfl (Or.inr ⟨_, _, rfl, rcv mC_219 rfl wid_224 (by decide +kernel)⟩) (Or.inl (wid_224.trans wid_219.symm))
theorem r224_14 : runs cal 224 14 [v0, v1, v2] [] I = runs cal 224 15 [v0, v1, v2] [vI (1)] I := runs_to (ins_of mI_224 (by rfl)) rfl rfl
theorem r224_15 : runs cal 224 15 [vR b0, v1, v2] [vI x0] I = runs cal 224 16 [vR b0, vI x0, v2] [] I := runs_to (ins_of mI_224 (by rfl)) rfl rfl
theorem r224_16 : runs cal 224 16 [v0, v1, v2] [] I = runs cal 224 17 [v0, v1, v2] [vI (0)] I := runs_to (ins_of mI_224 (by rfl)) rfl rfl
theorem r224_17 : runs cal 224 17 [v0, vI u, v2] [vI x0] I = runs cal 224 18 [v0, vI u, vI x0] [] I := runs_to (ins_of mI_224 (by rfl)) rfl rfl
theorem r224_18 : runs cal 224 18 [v0, v1, vI w] [] I = runs cal 224 19 [v0, v1, vI w] [vI w] I := runs_to (ins_of mI_224 (by rfl)) rfl rfl
theorem r224_19 : runs cal 224 19 [v0, v1, v2] [vI x0] I = runs cal 224 20 [v0, v1, v2] [vI (3), vI x0] I := runs_to (ins_of mI_224 (by rfl)) rfl rfl
theorem r224_20 : runs cal 224 20 [v0, v1, v2] [vI x0, vI x1] I = if x1 < x0 then runs cal 224 23 [v0, v1, v2] [] I else runs cal 224 92 [v0, v1, v2] [] I := st_cmp_ge (ins_of mI_224 (by rfl)) (by decide)
theorem r224_23 : runs cal 224 23 [v0, vI w, v2] [] I = runs cal 224 24 [v0, vI w, v2] [vI w] I := runs_to (ins_of mI_224 (by rfl)) rfl rfl
theorem r224_24 : runs cal 224 24 [v0, v1, v2] [vI x0] I = if x0 = 0 then runs cal 224 92 [v0, v1, v2] [] I else runs cal 224 27 [v0, v1, v2] [] I := st_if_eq (ins_of mI_224 (by rfl)) (by decide)
theorem r224_27 : runs cal 224 27 [vR 70, v1, v2] [] I = runs cal 224 28 [vR 70, v1, v2] [vR 70] I := runs_to (ins_of mI_224 (by rfl)) rfl rfl
theorem r224_28 : runs cal 224 28 [v0, v1, vI w] [vR 70] I = runs cal 224 29 [v0, v1, vI w] [vI w, vR 70] I := runs_to (ins_of mI_224 (by rfl)) rfl rfl
theorem r224_29 : runs cal 224 29 [v0, v1, v2] [vI x0, vR 70] I = if x0 = 0 then runs cal 224 32 [v0, v1, v2] [vR 70] I else runs cal 224 36 [v0, v1, v2] [vR 70] I := st_if_ne (ins_of mI_224 (by rfl)) (by decide)
theorem r224_32 : runs cal 224 32 [v0, v1, v2] [vR 70] I = runs cal 224 33 [v0, v1, v2] [vI (1), vR 70] I := runs_to (ins_of mI_224 (by rfl)) rfl rfl
theorem r224_33 : runs cal 224 33 [v0, v1, v2] [vI x0, vR 70] I = runs cal 224 37 [v0, v1, v2] [vI x0, vR 70] I := st_goto (ins_of mI_224 (by rfl)) (by decide)
theorem r224_36 : runs cal 224 36 [v0, v1, v2] [vR 70] I = runs cal 224 37 [v0, v1, v2] [vI (0), vR 70] I := runs_to (ins_of mI_224 (by rfl)) rfl rfl
theorem r224_37 : runs cal 224 37 [v0, v1, vI w] [vI x0, vR 70] I = runs cal 224 38 [v0, v1, vI w] [vI w, vI x0, vR 70] I := runs_to (ins_of mI_224 (by rfl)) rfl rfl
theorem r224_38 : runs cal 224 38 [v0, v1, v2] [vI x0, vI x1, vR 70] I = if x0 = 0 then runs cal 224 41 [v0, v1, v2] [vI x1, vR 70] I else runs cal 224 46 [v0, v1, v2] [vI x1, vR 70] I := st_if_ne (ins_of mI_224 (by rfl)) (by decide)
theorem r224_41 : runs cal 224 41 [v0, v1, v2] [vI x0, vR 70] I = runs cal 224 43 [v0, v1, v2] [vI (9), vI x0, vR 70] I := runs_to (ins_of mI_224 (by rfl)) rfl rfl
theorem r224_43 : runs cal 224 43 [v0, v1, v2] [vI x0, vI x1, vR 70] I = runs cal 224 62 [v0, v1, v2] [vI x0, vI x1, vR 70] I := st_goto (ins_of mI_224 (by rfl)) (by decide)
theorem r224_46 : runs cal 224 46 [v0, v1, vI w] [vI x0, vR 70] I = runs cal 224 47 [v0, v1, vI w] [vI w, vI x0, vR 70] I := runs_to (ins_of mI_224 (by rfl)) rfl rfl
theorem r224_47 : runs cal 224 47 [v0, v1, v2] [vI x0, vI x1, vR 70] I = runs cal 224 48 [v0, v1, v2] [vI (1), vI x0, vI x1, vR 70] I := runs_to (ins_of mI_224 (by rfl)) rfl rfl
theorem r224_48 : runs cal 224 48 [v0, v1, v2] [vI x0, vI x1, vI x2, vR 70] I = if x1 = x0 then runs cal 224 51 [v0, v1, v2] [vI x2, vR 70] I else runs cal 224 61 [v0, v1, v2] [vI x2, vR 70] I := st_cmp_ne (ins_of mI_224 (by rfl)) (by decide)
theorem r224_51 : runs cal 224 51 [vR 70, v1, v2] [vI x0, vR 70] I = runs cal 224 52 [vR 70, v1, v2] [vR 70, vI x0, vR 70] I := runs_to (ins_of mI_224 (by rfl)) rfl rfl
theorem r224_52 : runs cal 224 52 [v0, v1, v2] [vR 70, vI x1, vR 70] I = runs cal 224 55 [v0, v1, v2] [vR 85, vI x1, vR 70] I := st_getR (ins_of mI_224 (by rfl)) mC_224 (by decide) fr_11_55 cT_70 (wdc wid_224 wd_70) rfl rfl
theorem r224_55 : runs cal 224 55 [v0, v1, v2] [vR 85, vI x1, vR 70] I = runs cal 224 57 [v0, v1, v2] [vI (8), vR 85, vI x1, vR 70] I := runs_to (ins_of mI_224 (by rfl)) rfl rfl
theorem r224_57 : runs cal 224 57 [v0, v1, v2] [vI x0, vR 85, vI x2, vR 70] I = if 0 ≤ x0 ∧ x0 < 26 then runs cal 224 58 [v0, v1, v2] [vI (I 85 x0), vI x2, vR 70] I else none := st_iald (ins_of mI_224 (by rfl)) cT_85 (wdc wid_224 wd_85)
theorem r224_58 : runs cal 224 58 [v0, v1, v2] [vI x0, vI x1, vR 70] I = runs cal 224 62 [v0, v1, v2] [vI x0, vI x1, vR 70] I := st_goto (ins_of mI_224 (by rfl)) (by decide)
theorem r224_61 : runs cal 224 61 [v0, v1, v2] [vI x0, vR 70] I = runs cal 224 62 [v0, v1, v2] [vI (1), vI x0, vR 70] I := runs_to (ins_of mI_224 (by rfl)) rfl rfl
theorem r224_62 : runs cal 224 62 [v0, v1, v2] [vI x0, vI x1, vR 70] I = (cal 221 [vR 70, vI x1, vI x0] I).bind (fun q => runs cal 224 65 [v0, v1, v2] (pushR q.1 []) q.2) := st_call (st := false) (ins_of mI_224 (by rfl)) mC_224 mr_11_339 (by decide) mS_221 mN_221 rfl (Nat.le_of_ble_eq_true rfl) rfl rfl (Or.inr ⟨_, _, rfl, rcv mC_221 rfl wid_224 (by decide +kernel)⟩) (Or.inl (wid_224.trans wid_221.symm))
theorem r224_65 : runs cal 224 65 [vR b0, v1, v2] [vI x0] I = runs cal 224 66 [vR b0, vI x0, v2] [] I := runs_to (ins_of mI_224 (by rfl)) rfl rfl
theorem r224_66 : runs cal 224 66 [vR 70, v1, v2] [] I = runs cal 224 67 [vR 70, v1, v2] [vR 70] I := runs_to (ins_of mI_224 (by rfl)) rfl rfl
theorem r224_67 : runs cal 224 67 [v0, v1, v2] [vR 70] I = runs cal 224 70 [v0, v1, v2] [vR 85] I := st_getR (ins_of mI_224 (by rfl)) mC_224 (by decide) fr_11_55 cT_70 (wdc wid_224 wd_70) rfl rfl
theorem r224_70 : runs cal 224 70 [v0, v1, v2] [vR 85] I = runs cal 224 72 [v0, v1, v2] [vI (9), vR 85] I := runs_to (ins_of mI_224 (by rfl)) rfl rfl
theorem r224_72 : runs cal 224 72 [v0, v1, v2] [vI x0, vR 85] I = runs cal 224 73 [v0, v1, v2] [vI (3), vI x0, vR 85] I := runs_to (ins_of mI_224 (by rfl)) rfl rfl
theorem r224_73 : runs cal 224 73 [vR 70, v1, v2] [vI x0, vI x1, vR 85] I = runs cal 224 74 [vR 70, v1, v2] [vR 70, vI x0, vI x1, vR 85] I := runs_to (ins_of mI_224 (by rfl)) rfl rfl
theorem r224_74 : runs cal 224 74 [v0, v1, v2] [vR 70, vI x1, vI x2, vR 85] I = runs cal 224 77 [v0, v1, v2] [vI (I 70 26), vI x1, vI x2, vR 85] I := st_getI (ins_of mI_224 (by rfl)) mC_224 (by decide) fr_11_342 cT_70 (wdc wid_224 wd_70) (Or.inl rfl)
theorem r224_77 : runs cal 224 77 [v0, v1, v2] [vI x0, vI x1, vI x2, vR 85] I = runs cal 224 78 [v0, v1, v2] [vI (imul x1 x0), vI x2, vR 85] I := runs_to (ins_of mI_224 (by rfl)) rfl rfl
theorem r224_78 : runs cal 224 78 [v0, v1, v2] [vI x0, vI x1, vR 85] I = runs cal 224 79 [v0, v1, v2] [vI (iadd x1 x0), vR 85] I := runs_to (ins_of mI_224 (by rfl)) rfl rfl
theorem r224_79 : runs cal 224 79 [v0, v1, vI w] [vI x0, vR 85] I = runs cal 224 80 [v0, v1, vI w] [vI w, vI x0, vR 85] I := runs_to (ins_of mI_224 (by rfl)) rfl rfl
theorem r224_80 : runs cal 224 80 [v0, v1, v2] [vI x0, vI x1, vR 85] I = runs cal 224 81 [v0, v1, v2] [vI (iadd x1 x0), vR 85] I := runs_to (ins_of mI_224 (by rfl)) rfl rfl
theorem r224_81 : runs cal 224 81 [vR 70, v1, v2] [vI x0, vR 85] I = runs cal 224 82 [vR 70, v1, v2] [vR 70, vI x0, vR 85] I := runs_to (ins_of mI_224 (by rfl)) rfl rfl
theorem r224_82 : runs cal 224 82 [v0, v1, v2] [vR 70, vI x1, vR 85] I = runs cal 224 85 [v0, v1, v2] [vI (I 70 28), vI x1, vR 85] I := st_getI (ins_of mI_224 (by rfl)) mC_224 (by decide) fr_11_329 cT_70 (wdc wid_224 wd_70) (Or.inl rfl)
theorem r224_85 : runs cal 224 85 [v0, v1, v2] [vI x0, vI x1, vR 85] I = if 0 ≤ x1 ∧ x1 < 26 then runs cal 224 86 [v0, v1, v2] [] (mset I 85 x1 x0) else none := st_iast (ins_of mI_224 (by rfl)) cT_85 (wdc wid_224 wd_85)
theorem r224_86 : runs cal 224 86 [v0, vI u, vI w] [] I = runs cal 224 89 [v0, vI u, vI (iadd w (1))] [] I := runs_to (ins_of mI_224 (by rfl)) rfl rfl
theorem r224_89 : runs cal 224 89 [v0, v1, v2] [] I = runs cal 224 18 [v0, v1, v2] [] I := st_goto (ins_of mI_224 (by rfl)) (by decide)
theorem r224_92 : runs cal 224 92 [vR 70, v1, v2] [] I = runs cal 224 93 [vR 70, v1, v2] [vR 70] I := runs_to (ins_of mI_224 (by rfl)) rfl rfl
theorem r224_93 : runs cal 224 93 [v0, v1, v2] [vR 70] I = runs cal 224 94 [v0, v1, v2] [vR 70, vR 70] I := runs_to (ins_of mI_224 (by rfl)) rfl rfl
theorem r224_94 : runs cal 224 94 [v0, v1, v2] [vR 70, vR 70] I = runs cal 224 97 [v0, v1, v2] [vI (I 70 26), vR 70] I := st_getI (ins_of mI_224 (by rfl)) mC_224 (by decide) fr_11_342 cT_70 (wdc wid_224 wd_70) (Or.inl rfl)
theorem r224_97 : runs cal 224 97 [v0, v1, v2] [vI x0, vR 70] I = runs cal 224 98 [v0, v1, v2] [vI (1), vI x0, vR 70] I := runs_to (ins_of mI_224 (by rfl)) rfl rfl
theorem r224_98 : runs cal 224 98 [v0, v1, v2] [vI x0, vI x1, vR 70] I = runs cal 224 99 [v0, v1, v2] [vI (iadd x1 x0), vR 70] I := runs_to (ins_of mI_224 (by rfl)) rfl rfl
theorem r224_99 : runs cal 224 99 [v0, v1, v2] [vI x0, vR 70] I = runs cal 224 102 [v0, v1, v2] [] (mset I 70 26 x0) := st_putI (ins_of mI_224 (by rfl)) mC_224 fr_11_342 cT_70 (wdc wid_224 wd_70) rfl
theorem r224_102 : runs cal 224 102 [v0, vI w, v2] [] I = runs cal 224 103 [v0, vI w, v2] [vI w] I := runs_to (ins_of mI_224 (by rfl)) rfl rfl
theorem r224_103 : runs cal 224 103 [v0, v1, v2] [vI x0] I = if x0 = 0 ∨ x0 = 1 then some (some (vI x0), I) else none := st_retZ (ins_of mI_224 (by rfl)) mR_224 (Or.inl rfl)
theorem r225_0 : runs cal 225 0 [vR 70, v1, v2, v3] [] I = runs cal 225 1 [vR 70, v1, v2, v3] [vR 70] I := runs_to (ins_of mI_225 (by rfl)) rfl rfl
theorem r225_1 : runs cal 225 1 [v0, v1, v2, v3] [vR 70] I = runs cal 225 4 [v0, v1, v2, v3] [vI (I 70 27)] I := st_getI (ins_of mI_225 (by rfl)) mC_225 (by decide) fr_11_345 cT_70 (wdc wid_225 wd_70) (Or.inl rfl)
theorem r225_4 : runs cal 225 4 [v0, v1, v2, v3] [vI x0] I = runs cal 225 5 [v0, v1, v2, v3] [vI (2), vI x0] I := runs_to (ins_of mI_225 (by rfl)) rfl rfl
theorem r225_5 : runs cal 225 5 [v0, v1, v2, v3] [vI x0, vI x1] I = if x1 = x0 then runs cal 225 8 [v0, v1, v2, v3] [] I else runs cal 225 10 [v0, v1, v2, v3] [] I := st_cmp_ne (ins_of mI_225 (by rfl)) (by decide)
theorem r225_8 : runs cal 225 8 [v0, v1, v2, v3] [] I = runs cal 225 9 [v0, v1, v2, v3] [vI (0)] I := runs_to (ins_of mI_225 (by rfl)) rfl rfl
theorem r225_9 : runs cal 225 9 [v0, v1, v2, v3] [vI x0] I = if x0 = 0 ∨ x0 = 1 then some (some (vI x0), I) else none := st_retZ (ins_of mI_225 (by rfl)) mR_225 (Or.inl rfl)
theorem r225_10 : runs cal 225 10 [vR 70, v1, v2, v3] [] I = runs cal 225 11 [vR 70, v1, v2, v3] [vR 70] I := runs_to (ins_of mI_225 (by rfl)) rfl rfl
theorem r225_11 : runs cal 225 11 [v0, v1, v2, v3] [vR 70] I = (cal 219 [vR 70] I).bind (fun q => runs cal 225 14 [v0, v1, v2, v3] (pushR q.1 []) q.2) := st_call (st := false) (ins_of mI_225 (by rfl)) mC_225 mr_11_332 (by decide) mS_219 mN_219 rfl (Nat.le_of_ble_eq_true rfl) rfl rfl (Or.inr ⟨_, _, rfl, rcv mC_219 rfl wid_225 (by decide +kernel)⟩) (Or.inl (wid_225.trans wid_219.symm))
theorem r225_14 : runs cal 225 14 [v0, v1, v2, v3] [] I = runs cal 225 16 [v0, v1, v2, v3] [vI (18)] I := runs_to (ins_of mI_225 (by rfl)) rfl rfl
theorem r225_16 : runs cal 225 16 [v0, v1, v2, v3] [vI x0] I = runs cal 225 17 [v0, v1, v2, v3] [vI (4), vI x0] I := runs_to (ins_of mI_225 (by rfl)) rfl rfl
theorem r225_17 : runs cal 225 17 [vR 70, v1, v2, v3] [vI x0, vI x1] I = runs cal 225 18 [vR 70, v1, v2, v3] [vR 70, vI x0, vI x1] I := runs_to (ins_of mI_225 (by rfl)) rfl rfl
theorem r225_18 : runs cal 225 18 [v0, v1, v2, v3] [vR 70, vI x1, vI x2] I = runs cal 225 21 [v0, v1, v2, v3] [vI (I 70 27), vI x1, vI x2] I := st_getI (ins_of mI_225 (by rfl)) mC_225 (by decide) fr_11_345 cT_70 (wdc wid_225 wd_70) (Or.inl rfl)
theorem r225_21 : runs cal 225 21 [v0, v1, v2, v3] [vI x0, vI x1, vI x2] I = runs cal 225 22 [v0, v1, v2, v3] [vI (imul x1 x0), vI x2] I := runs_to (ins_of mI_225 (by rfl)) rfl rfl
theorem r225_22 : runs cal 225 22 [v0, v1, v2, v3] [vI x0, vI x1] I = runs cal 225 23 [v0, v1, v2, v3] [vI (iadd x1 x0)] I := runs_to (ins_of mI_225 (by rfl)) rfl rfl
theorem r225_23 : runs cal 225 23 [vR b0, v1, v2, v3] [vI x0] I = runs cal 225 24 [vR b0, vI x0, v2, v3] [] I := runs_to (ins_of mI_225 (by rfl)) rfl rfl
theorem r225_24 : runs cal 225 24 [v0, v1, v2, v3] [] I = runs cal 225 25 [v0, v1, v2, v3] [vI (1)] I := runs_to (ins_of mI_225 (by rfl)) rfl rfl
theorem r225_25 : runs cal 225 25 [v0, vI u, v2, v3] [vI x0] I = runs cal 225 26 [v0, vI u, vI x0, v3] [] I := runs_to (ins_of mI_225 (by rfl)) rfl rfl
theorem r225_26 : runs cal 225 26 [v0, v1, v2, v3] [] I = runs cal 225 27 [v0, v1, v2, v3] [vI (0)] I := runs_to (ins_of mI_225 (by rfl)) rfl rfl
theorem r225_27 : runs cal 225 27 [v0, v1, vI u, v3] [vI x0] I = runs cal 225 28 [v0, v1, vI u, vI x0] [] I := runs_to (ins_of mI_225 (by rfl)) rfl rfl
theorem r225_28 : runs cal 225 28 [v0, v1, v2, vI w] [] I = runs cal 225 29 [v0, v1, v2, vI w] [vI w] I := runs_to (ins_of mI_225 (by rfl)) rfl rfl
theorem r225_29 : runs cal 225 29 [v0, v1, v2, v3] [vI x0] I = runs cal 225 30 [v0, v1, v2, v3] [vI (3), vI x0] I := runs_to (ins_of mI_225 (by rfl)) rfl rfl
theorem r225_30 : runs cal 225 30 [v0, v1, v2, v3] [vI x0, vI x1] I = if x1 < x0 then runs cal 225 33 [v0, v1, v2, v3] [] I else runs cal 225 88 [v0, v1, v2, v3] [] I := st_cmp_ge (ins_of mI_225 (by rfl)) (by decide)
theorem r225_33 : runs cal 225 33 [v0, v1, vI w, v3] [] I = runs cal 225 34 [v0, v1, vI w, v3] [vI w] I := runs_to (ins_of mI_225 (by rfl)) rfl rfl
theorem r225_34 : runs cal 225 34 [v0, v1, v2, v3] [vI x0] I = if x0 = 0 then runs cal 225 88 [v0, v1, v2, v3] [] I else runs cal 225 37 [v0, v1, v2, v3] [] I := st_if_eq (ins_of mI_225 (by rfl)) (by decide)
theorem r225_37 : runs cal 225 37 [vR 70, v1, v2, v3] [] I = runs cal 225 38 [vR 70, v1, v2, v3] [vR 70] I := runs_to (ins_of mI_225 (by rfl)) rfl rfl
theorem r225_38 : runs cal 225 38 [v0, v1, v2, vI w] [vR 70] I = runs cal 225 39 [v0, v1, v2, vI w] [vI w, vR 70] I := runs_to (ins_of mI_225 (by rfl)) rfl rfl
theorem r225_39 : runs cal 225 39 [v0, v1, v2, v3] [vI x0, vR 70] I = if x0 = 0 then runs cal 225 42 [v0, v1, v2, v3] [vR 70] I else runs cal 225 46 [v0, v1, v2, v3] [vR 70] I := st_if_ne (ins_of mI_225 (by rfl)) (by decide)
theorem r225_42 : runs cal 225 42 [v0, v1, v2, v3] [vR 70] I = runs cal 225 43 [v0, v1, v2, v3] [vI (0), vR 70] I := runs_to (ins_of mI_225 (by rfl)) rfl rfl
theorem r225_43 : runs cal 225 43 [v0, v1, v2, v3] [vI x0, vR 70] I = runs cal 225 47 [v0, v1, v2, v3] [vI x0, vR 70] I := st_goto (ins_of mI_225 (by rfl)) (by decide)
theorem r225_46 : runs cal 225 46 [v0, v1, v2, v3] [vR 70] I = runs cal 225 47 [v0, v1, v2, v3] [vI (1), vR 70] I := runs_to (ins_of mI_225 (by rfl)) rfl rfl
theorem r225_47 : runs cal 225 47 [v0, v1, v2, vI w] [vI x0, vR 70] I = runs cal 225 48 [v0, v1, v2, vI w] [vI w, vI x0, vR 70] I := runs_to (ins_of mI_225 (by rfl)) rfl rfl
theorem r225_48 : runs cal 225 48 [v0, v1, v2, v3] [vI x0, vI x1, vR 70] I = if x0 = 0 then runs cal 225 51 [v0, v1, v2, v3] [vI x1, vR 70] I else runs cal 225 55 [v0, v1, v2, v3] [vI x1, vR 70] I := st_if_ne (ins_of mI_225 (by rfl)) (by decide)
theorem r225_51 : runs cal 225 51 [v0, v1, v2, v3] [vI x0, vR 70] I = runs cal 225 52 [v0, v1, v2, v3] [vI (5), vI x0, vR 70] I := runs_to (ins_of mI_225 (by rfl)) rfl rfl
theorem r225_52 : runs cal 225 52 [v0, v1, v2, v3] [vI x0, vI x1, vR 70] I = runs cal 225 66 [v0, v1, v2, v3] [vI x0, vI x1, vR 70] I := st_goto (ins_of mI_225 (by rfl)) (by decide)
theorem r225_55 : runs cal 225 55 [v0, v1, v2, vI w] [vI x0, vR 70] I = runs cal 225 56 [v0, v1, v2, vI w] [vI w, vI x0, vR 70] I := runs_to (ins_of mI_225 (by rfl)) rfl rfl
theorem r225_56 : runs cal 225 56 [v0, v1, v2, v3] [vI x0, vI x1, vR 70] I = runs cal 225 57 [v0, v1, v2, v3] [vI (1), vI x0, vI x1, vR 70] I := runs_to (ins_of mI_225 (by rfl)) rfl rfl
theorem r225_57 : runs cal 225 57 [v0, v1, v2, v3] [vI x0, vI x1, vI x2, vR 70] I = if x1 = x0 then runs cal 225 60 [v0, v1, v2, v3] [vI x2, vR 70] I else runs cal 225 64 [v0, v1, v2, v3] [vI x2, vR 70] I := st_cmp_ne (ins_of mI_225 (by rfl)) (by decide)
theorem r225_60 : runs cal 225 60 [v0, v1, v2, v3] [vI x0, vR 70] I = runs cal 225 61 [v0, v1, v2, v3] [vI (3), vI x0, vR 70] I := runs_to (ins_of mI_225 (by rfl)) rfl rfl
theorem r225_61 : runs cal 225 61 [v0, v1, v2, v3] [vI x0, vI x1, vR 70] I = runs cal 225 66 [v0, v1, v2, v3] [vI x0, vI x1, vR 70] I := st_goto (ins_of mI_225 (by rfl)) (by decide)
theorem r225_64 : runs cal 225 64 [v0, v1, v2, v3] [vI x0, vR 70] I = runs cal 225 66 [v0, v1, v2, v3] [vI (30), vI x0, vR 70] I := runs_to (ins_of mI_225 (by rfl)) rfl rfl
theorem r225_66 : runs cal 225 66 [v0, v1, v2, v3] [vI x0, vI x1, vR 70] I = (cal 221 [vR 70, vI x1, vI x0] I).bind (fun q => runs cal 225 69 [v0, v1, v2, v3] (pushR q.1 []) q.2) := st_call (st := false) (ins_of mI_225 (by rfl)) mC_225 mr_11_339 (by decide) mS_221 mN_221 rfl (Nat.le_of_ble_eq_true rfl) rfl rfl (Or.inr ⟨_, _, rfl, rcv mC_221 rfl wid_225 (by decide +kernel)⟩) (Or.inl (wid_225.trans wid_221.symm))
theorem r225_69 : runs cal 225 69 [v0, vI u, v2, v3] [vI x0] I = runs cal 225 70 [v0, vI u, vI x0, v3] [] I := runs_to (ins_of mI_225 (by rfl)) rfl rfl
theorem r225_70 : runs cal 225 70 [vR 70, v1, v2, v3] [] I = runs cal 225 71 [vR 70, v1, v2, v3] [vR 70] I := runs_to (ins_of mI_225 (by rfl)) rfl rfl
theorem r225_71 : runs cal 225 71 [v0, v1, v2, v3] [vR 70] I = runs cal 225 74 [v0, v1, v2, v3] [vR 85] I := st_getR (ins_of mI_225 (by rfl)) mC_225 (by decide) fr_11_55 cT_70 (wdc wid_225 wd_70) rfl rfl
theorem r225_74 : runs cal 225 74 [v0, vI w, v2, v3] [vR 85] I = runs cal 225 75 [v0, vI w, v2, v3] [vI w, vR 85] I := runs_to (ins_of mI_225 (by rfl)) rfl rfl
theorem r225_75 : runs cal 225 75 [v0, v1, v2, vI w] [vI x0, vR 85] I = runs cal 225 76 [v0, v1, v2, vI w] [vI w, vI x0, vR 85] I := runs_to (ins_of mI_225 (by rfl)) rfl rfl
theorem r225_76 : runs cal 225 76 [v0, v1, v2, v3] [vI x0, vI x1, vR 85] I = runs cal 225 77 [v0, v1, v2, v3] [vI (iadd x1 x0), vR 85] I := runs_to (ins_of mI_225 (by rfl)) rfl rfl
theorem r225_77 : runs cal 225 77 [vR 70, v1, v2, v3] [vI x0, vR 85] I = runs cal 225 78 [vR 70, v1, v2, v3] [vR 70, vI x0, vR 85] I := runs_to (ins_of mI_225 (by rfl)) rfl rfl
theorem r225_78 : runs cal 225 78 [v0, v1, v2, v3] [vR 70, vI x1, vR 85] I = runs cal 225 81 [v0, v1, v2, v3] [vI (I 70 28), vI x1, vR 85] I := st_getI (ins_of mI_225 (by rfl)) mC_225 (by decide) fr_11_329 cT_70 (wdc wid_225 wd_70) (Or.inl rfl)
theorem r225_81 : runs cal 225 81 [v0, v1, v2, v3] [vI x0, vI x1, vR 85] I = if 0 ≤ x1 ∧ x1 < 26 then runs cal 225 82 [v0, v1, v2, v3] [] (mset I 85 x1 x0) else none := st_iast (ins_of mI_225 (by rfl)) cT_85 (wdc wid_225 wd_85)
theorem r225_82 : runs cal 225 82 [v0, v1, vI u, vI w] [] I = runs cal 225 85 [v0, v1, vI u, vI (iadd w (1))] [] I := runs_to (ins_of mI_225 (by rfl)) rfl rfl
theorem r225_85 : runs cal 225 85 [v0, v1, v2, v3] [] I = runs cal 225 28 [v0, v1, v2, v3] [] I := st_goto (ins_of mI_225 (by rfl)) (by decide)
theorem r225_88 : runs cal 225 88 [v0, v1, vI w, v3] [] I = runs cal 225 89 [v0, v1, vI w, v3] [vI w] I := runs_to (ins_of mI_225 (by rfl)) rfl rfl
theorem r225_89 : runs cal 225 89 [v0, v1, v2, v3] [vI x0] I = if x0 = 0 then runs cal 225 92 [v0, v1, v2, v3] [] I else runs cal 225 94 [v0, v1, v2, v3] [] I := st_if_ne (ins_of mI_225 (by rfl)) (by decide)
theorem r225_92 : runs cal 225 92 [v0, v1, v2, v3] [] I = runs cal 225 93 [v0, v1, v2, v3] [vI (0)] I := runs_to (ins_of mI_225 (by rfl)) rfl rfl
theorem r225_93 : runs cal 225 93 [v0, v1, v2, v3] [vI x0] I = if x0 = 0 ∨ x0 = 1 then some (some (vI x0), I) else none := st_retZ (ins_of mI_225 (by rfl)) mR_225 (Or.inl rfl)
theorem r225_94 : runs cal 225 94 [vR 70, v1, v2, v3] [] I = runs cal 225 95 [vR 70, v1, v2, v3] [vR 70] I := runs_to (ins_of mI_225 (by rfl)) rfl rfl
theorem r225_95 : runs cal 225 95 [v0, v1, v2, v3] [vR 70] I = runs cal 225 98 [v0, v1, v2, v3] [vR 85] I := st_getR (ins_of mI_225 (by rfl)) mC_225 (by decide) fr_11_55 cT_70 (wdc wid_225 wd_70) rfl rfl
theorem r225_98 : runs cal 225 98 [v0, vI w, v2, v3] [vR 85] I = runs cal 225 99 [v0, vI w, v2, v3] [vI w, vR 85] I := runs_to (ins_of mI_225 (by rfl)) rfl rfl
theorem r225_99 : runs cal 225 99 [v0, v1, v2, v3] [vI x0, vR 85] I = if 0 ≤ x0 ∧ x0 < 26 then runs cal 225 100 [v0, v1, v2, v3] [vI (I 85 x0)] I else none := st_iald (ins_of mI_225 (by rfl)) cT_85 (wdc wid_225 wd_85)
theorem r225_100 : runs cal 225 100 [vR 70, v1, v2, v3] [vI x0] I = runs cal 225 101 [vR 70, v1, v2, v3] [vR 70, vI x0] I := runs_to (ins_of mI_225 (by rfl)) rfl rfl
theorem r225_101 : runs cal 225 101 [v0, v1, v2, v3] [vR 70, vI x1] I = runs cal 225 104 [v0, v1, v2, v3] [vR 85, vI x1] I := st_getR (ins_of mI_225 (by rfl)) mC_225 (by decide) fr_11_55 cT_70 (wdc wid_225 wd_70) rfl rfl
theorem r225_104 : runs cal 225 104 [v0, vI w, v2, v3] [vR 85, vI x1] I = runs cal 225 105 [v0, vI w, v2, v3] [vI w, vR 85, vI x1] I := runs_to (ins_of mI_225 (by rfl)) rfl rfl
theorem r225_105 : runs cal 225 105 [v0, v1, v2, v3] [vI x0, vR 85, vI x2] I = runs cal 225 106 [v0, v1, v2, v3] [vI (1), vI x0, vR 85, vI x2] I := runs_to (ins_of mI_225 (by rfl)) rfl rfl
theorem r225_106 : runs cal 225 106 [v0, v1, v2, v3] [vI x0, vI x1, vR 85, vI x3] I = runs cal 225 107 [v0, v1, v2, v3] [vI (iadd x1 x0), vR 85, vI x3] I := runs_to (ins_of mI_225 (by rfl)) rfl rfl
theorem r225_107 : runs cal 225 107 [v0, v1, v2, v3] [vI x0, vR 85, vI x2] I = if 0 ≤ x0 ∧ x0 < 26 then runs cal 225 108 [v0, v1, v2, v3] [vI (I 85 x0), vI x2] I else none := st_iald (ins_of mI_225 (by rfl)) cT_85 (wdc wid_225 wd_85)
theorem r225_108 : runs cal 225 108 [v0, v1, v2, v3] [vI x0, vI x1] I = (cal 166 [vI x1, vI x0] I).bind (fun q => runs cal 225 111 [v0, v1, v2, v3] (pushR q.1 []) q.2) := st_call (st := true) (ins_of mI_225 (by rfl)) mC_225 mr_11_128 (by decide) mS_166 mN_166 rfl (Nat.le_of_ble_eq_true rfl) rfl rfl (Or.inl rfl) (Or.inl (wid_225.trans wid_166.symm))
theorem r225_111 : runs cal 225 111 [v0, v1, vI u, v3] [vI x0] I = runs cal 225 112 [v0, v1, vI u, vI x0] [] I := runs_to (ins_of mI_225 (by rfl)) rfl rfl
theorem r225_112 : runs cal 225 112 [vR 70, v1, v2, v3] [] I = runs cal 225 113 [vR 70, v1, v2, v3] [vR 70] I := runs_to (ins_of mI_225 (by rfl)) rfl rfl
theorem r225_113 : runs cal 225 113 [v0, v1, v2, v3] [vR 70] I = runs cal 225 116 [v0, v1, v2, v3] [vI (I 70 23)] I := st_getI (ins_of mI_225 (by rfl)) mC_225 (by decide) fr_11_314 cT_70 (wdc wid_225 wd_70) (Or.inl rfl)
theorem r225_116 : runs cal 225 116 [v0, v1, v2, v3] [vI x0] I = runs cal 225 117 [v0, v1, v2, v3] [vI (2), vI x0] I := runs_to (ins_of mI_225 (by rfl)) rfl rfl
theorem r225_117 : runs cal 225 117 [v0, v1, v2, v3] [vI x0, vI x1] I = if x1 = x0 then runs cal 225 120 [v0, v1, v2, v3] [] I else runs cal 225 156 [v0, v1, v2, v3] [] I := st_cmp_ne (ins_of mI_225 (by rfl)) (by decide)
theorem r225_120 : runs cal 225 120 [vR 70, v1, v2, v3] [] I = runs cal 225 121 [vR 70, v1, v2, v3] [vR 70] I := runs_to (ins_of mI_225 (by rfl)) rfl rfl
theorem r225_121 : runs cal 225 121 [v0, v1, v2, v3] [vR 70] I = runs cal 225 124 [v0, v1, v2, v3] [vI (I 70 24)] I := st_getI (ins_of mI_225 (by rfl)) mC_225 (by decide) fr_11_317 cT_70 (wdc wid_225 wd_70) (Or.inl rfl)
theorem r225_124 : runs cal 225 124 [v0, v1, v2, v3] [vI x0] I = runs cal 225 125 [v0, v1, v2, v3] [vL x0] I := runs_to (ins_of mI_225 (by rfl)) rfl rfl
theorem r225_125 : runs cal 225 125 [v0, v1, v2, v3] [vL x0] I = runs cal 225 126 [v0, v1, v2, v3] [vL 0, vL x0] I := runs_to (ins_of mI_225 (by rfl)) rfl rfl
theorem r225_126 : runs cal 225 126 [vR 70, v1, v2, v3] [vL x0, vL x1] I = runs cal 225 127 [vR 70, v1, v2, v3] [vR 70, vL x0, vL x1] I := runs_to (ins_of mI_225 (by rfl)) rfl rfl
theorem r225_127 : runs cal 225 127 [v0, v1, v2, v3] [vR 70, vL x1, vL x2] I = runs cal 225 130 [v0, v1, v2, v3] [vR 85, vL x1, vL x2] I := st_getR (ins_of mI_225 (by rfl)) mC_225 (by decide) fr_11_55 cT_70 (wdc wid_225 wd_70) rfl rfl
theorem r225_130 : runs cal 225 130 [v0, v1, v2, v3] [vR 85, vL x1, vL x2] I = runs cal 225 132 [v0, v1, v2, v3] [vI (8), vR 85, vL x1, vL x2] I := runs_to (ins_of mI_225 (by rfl)) rfl rfl
theorem r225_132 : runs cal 225 132 [v0, v1, v2, v3] [vI x0, vR 85, vL x2, vL x3] I = if 0 ≤ x0 ∧ x0 < 26 then runs cal 225 133 [v0, v1, v2, v3] [vI (I 85 x0), vL x2, vL x3] I else none := st_iald (ins_of mI_225 (by rfl)) cT_85 (wdc wid_225 wd_85)
theorem r225_133 : runs cal 225 133 [v0, v1, v2, vI w] [vI x0, vL x1, vL x2] I = runs cal 225 134 [v0, v1, v2, vI w] [vI w, vI x0, vL x1, vL x2] I := runs_to (ins_of mI_225 (by rfl)) rfl rfl
theorem r225_134 : runs cal 225 134 [v0, v1, v2, v3] [vI x0, vI x1, vL x2, vL x3] I = runs cal 225 135 [v0, v1, v2, v3] [vI (isub x1 x0), vL x2, vL x3] I := runs_to (ins_of mI_225 (by rfl)) rfl rfl
theorem r225_135 : runs cal 225 135 [v0, v1, v2, v3] [vI x0, vL x1, vL x2] I = runs cal 225 136 [v0, v1, v2, v3] [vI (1), vI x0, vL x1, vL x2] I := runs_to (ins_of mI_225 (by rfl)) rfl rfl
theorem r225_136 : runs cal 225 136 [v0, v1, v2, v3] [vI x0, vI x1, vL x2, vL x3] I = runs cal 225 137 [v0, v1, v2, v3] [vI (iadd x1 x0), vL x2, vL x3] I := runs_to (ins_of mI_225 (by rfl)) rfl rfl
theorem r225_137 : runs cal 225 137 [v0, v1, v2, v3] [vI x0, vL x1, vL x2] I = runs cal 225 138 [v0, v1, v2, v3] [vL x0, vL x1, vL x2] I := runs_to (ins_of mI_225 (by rfl)) rfl rfl
theorem r225_138 : runs cal 225 138 [v0, v1, v2, v3] [vL x0, vL x1, vL x2] I = (cal 142 [vL x2, vL x1, vL x0] I).bind (fun q => runs cal 225 141 [v0, v1, v2, v3] (pushR q.1 []) q.2) := st_call (st := true) (ins_of mI_225 (by rfl)) mC_225 mr_11_121 (by decide) mS_142 mN_142 rfl (Nat.le_of_ble_eq_true rfl) rfl rfl (Or.inl rfl) (Or.inl (wid_225.trans wid_142.symm))
theorem r225_141 : runs cal 225 141 [v0, v1, v2, v3] [vI x0] I = if x0 = 0 then runs cal 225 156 [v0, v1, v2, v3] [] I else runs cal 225 144 [v0, v1, v2, v3] [] I := st_if_eq (ins_of mI_225 (by rfl)) (by decide)
theorem r225_144 : runs cal 225 144 [vR 70, v1, v2, v3] [] I = runs cal 225 145 [vR 70, v1, v2, v3] [vR 70] I := runs_to (ins_of mI_225 (by rfl)) rfl rfl
theorem r225_145 : runs cal 225 145 [vR 70, v1, v2, v3] [vR 70] I = runs cal 225 146 [vR 70, v1, v2, v3] [vR 70, vR 70] I := runs_to (ins_of mI_225 (by rfl)) rfl rfl
theorem r225_146 : runs cal 225 146 [v0, v1, v2, v3] [vR 70, vR 70] I = runs cal 225 149 [v0, v1, v2, v3] [vI (I 70 24), vR 70] I := st_getI (ins_of mI_225 (by rfl)) mC_225 (by decide) fr_11_317 cT_70 (wdc wid_225 wd_70) (Or.inl rfl)
theorem r225_149 : runs cal 225 149 [v0, v1, v2, vI w] [vI x0, vR 70] I = runs cal 225 150 [v0, v1, v2, vI w] [vI w, vI x0, vR 70] I := runs_to (ins_of mI_225 (by rfl)) rfl rfl
theorem r225_150 : runs cal 225 150 [v0, v1, v2, v3] [vI x0, vI x1, vR 70] I = (cal 226 [vR 70, vI x1, vI x0] I).bind (fun q => runs cal 225 153 [v0, v1, v2, v3] (pushR q.1 []) q.2) := st_call (st := false) (ins_of mI_225 (by rfl)) mC_225 mr_11_348 (by decide) mS_226 mN_226 rfl (Nat.le_of_ble_eq_true rfl) rfl rfl (Or.inr ⟨_, _, rfl, rcv mC_226 rfl wid_225 (by decide +kernel)⟩) (Or.inl (wid_225.trans wid_226.symm))
theorem r225_153 : runs cal 225 153 [v0, v1, v2, v3] [vI x0] I = if x0 = 0 then runs cal 225 158 [v0, v1, v2, v3] [] I else runs cal 225 156 [v0, v1, v2, v3] [] I := st_if_eq (ins_of mI_225 (by rfl)) (by decide)
theorem r225_156 : runs cal 225 156 [v0, v1, v2, v3] [] I = runs cal 225 157 [v0, v1, v2, v3] [vI (0)] I := runs_to (ins_of mI_225 (by rfl)) rfl rfl
theorem r225_157 : runs cal 225 157 [v0, v1, v2, v3] [vI x0] I = if x0 = 0 ∨ x0 = 1 then some (some (vI x0), I) else none := st_retZ (ins_of mI_225 (by rfl)) mR_225 (Or.inl rfl)
theorem r225_158 : runs cal 225 158 [vR 70, v1, v2, v3] [] I = runs cal 225 159 [vR 70, v1, v2, v3] [vR 70] I := runs_to (ins_of mI_225 (by rfl)) rfl rfl
theorem r225_159 : runs cal 225 159 [v0, v1, v2, v3] [vR 70] I = runs cal 225 162 [v0, v1, v2, v3] [vR 85] I := st_getR (ins_of mI_225 (by rfl)) mC_225 (by decide) fr_11_55 cT_70 (wdc wid_225 wd_70) rfl rfl
theorem r225_162 : runs cal 225 162 [v0, vI w, v2, v3] [vR 85] I = runs cal 225 163 [v0, vI w, v2, v3] [vI w, vR 85] I := runs_to (ins_of mI_225 (by rfl)) rfl rfl
theorem r225_163 : runs cal 225 163 [v0, v1, v2, v3] [vI x0, vR 85] I = runs cal 225 164 [v0, v1, v2, v3] [vI (3), vI x0, vR 85] I := runs_to (ins_of mI_225 (by rfl)) rfl rfl
theorem r225_164 : runs cal 225 164 [v0, v1, v2, v3] [vI x0, vI x1, vR 85] I = runs cal 225 165 [v0, v1, v2, v3] [vI (iadd x1 x0), vR 85] I := runs_to (ins_of mI_225 (by rfl)) rfl rfl
theorem r225_165 : runs cal 225 165 [vR 70, v1, v2, v3] [vI x0, vR 85] I = runs cal 225 166 [vR 70, v1, v2, v3] [vR 70, vI x0, vR 85] I := runs_to (ins_of mI_225 (by rfl)) rfl rfl
theorem r225_166 : runs cal 225 166 [v0, v1, v2, v3] [vR 70, vI x1, vR 85] I = runs cal 225 169 [v0, v1, v2, v3] [vI (I 70 24), vI x1, vR 85] I := st_getI (ins_of mI_225 (by rfl)) mC_225 (by decide) fr_11_317 cT_70 (wdc wid_225 wd_70) (Or.inl rfl)
theorem r225_169 : runs cal 225 169 [v0, v1, v2, v3] [vI x0, vI x1, vR 85] I = if 0 ≤ x1 ∧ x1 < 26 then runs cal 225 170 [v0, v1, v2, v3] [] (mset I 85 x1 x0) else none := st_iast (ins_of mI_225 (by rfl)) cT_85 (wdc wid_225 wd_85)
theorem r225_170 : runs cal 225 170 [vR 70, v1, v2, v3] [] I = runs cal 225 171 [vR 70, v1, v2, v3] [vR 70] I := runs_to (ins_of mI_225 (by rfl)) rfl rfl
theorem r225_171 : runs cal 225 171 [v0, v1, v2, v3] [vR 70] I = runs cal 225 172 [v0, v1, v2, v3] [vR 70, vR 70] I := runs_to (ins_of mI_225 (by rfl)) rfl rfl
theorem r225_172 : runs cal 225 172 [v0, v1, v2, v3] [vR 70, vR 70] I = runs cal 225 175 [v0, v1, v2, v3] [vI (I 70 27), vR 70] I := st_getI (ins_of mI_225 (by rfl)) mC_225 (by decide) fr_11_345 cT_70 (wdc wid_225 wd_70) (Or.inl rfl)
theorem r225_175 : runs cal 225 175 [v0, v1, v2, v3] [vI x0, vR 70] I = runs cal 225 176 [v0, v1, v2, v3] [vI (1), vI x0, vR 70] I := runs_to (ins_of mI_225 (by rfl)) rfl rfl
theorem r225_176 : runs cal 225 176 [v0, v1, v2, v3] [vI x0, vI x1, vR 70] I = runs cal 225 177 [v0, v1, v2, v3] [vI (iadd x1 x0), vR 70] I := runs_to (ins_of mI_225 (by rfl)) rfl rfl
theorem r225_177 : runs cal 225 177 [v0, v1, v2, v3] [vI x0, vR 70] I = runs cal 225 180 [v0, v1, v2, v3] [] (mset I 70 27 x0) := st_putI (ins_of mI_225 (by rfl)) mC_225 fr_11_345 cT_70 (wdc wid_225 wd_70) rfl
theorem r225_180 : runs cal 225 180 [vR 70, v1, v2, v3] [] I = runs cal 225 181 [vR 70, v1, v2, v3] [vR 70] I := runs_to (ins_of mI_225 (by rfl)) rfl rfl
theorem r225_181 : runs cal 225 181 [v0, v1, v2, v3] [vR 70] I = (cal 219 [vR 70] I).bind (fun q => runs cal 225 184 [v0, v1, v2, v3] (pushR q.1 []) q.2) := st_call (st := false) (ins_of mI_225 (by rfl)) mC_225 mr_11_332 (by decide) mS_219 mN_219 rfl (Nat.le_of_ble_eq_true rfl) rfl rfl (Or.inr ⟨_, _, rfl, rcv mC_219 rfl wid_225 (by decide +kernel)⟩) (Or.inl (wid_225.trans wid_219.symm))
theorem r225_184 : runs cal 225 184 [v0, v1, v2, v3] [] I = runs cal 225 185 [v0, v1, v2, v3] [vI (1)] I := runs_to (ins_of mI_225 (by rfl)) rfl rfl
theorem r225_185 : runs cal 225 185 [v0, v1, v2, v3] [vI x0] I = if x0 = 0 ∨ x0 = 1 then some (some (vI x0), I) else none := st_retZ (ins_of mI_225 (by rfl)) mR_225 (Or.inl rfl)
theorem r226_0 : runs cal 226 0 [vR 70, v1, v2, v3, v4] [] I = runs cal 226 1 [vR 70, v1, v2, v3, v4] [vR 70] I := runs_to (ins_of mI_226 (by rfl)) rfl rfl
theorem r226_1 : runs cal 226 1 [v0, v1, v2, v3, v4] [vR 70] I = runs cal 226 4 [v0, v1, v2, v3, v4] [vR 85] I := st_getR (ins_of mI_226 (by rfl)) mC_226 (by decide) fr_11_55 cT_70 (wdc wid_226 wd_70) rfl rfl
theorem r226_4 : runs cal 226 4 [v0, v1, v2, v3, v4] [vR 85] I = runs cal 226 6 [v0, v1, v2, v3, v4] [vI (21), vR 85] I := runs_to (ins_of mI_226 (by rfl)) rfl rfl
theorem r226_6 : runs cal 226 6 [v0, v1, v2, v3, v4] [vI x0, vR 85] I = if 0 ≤ x0 ∧ x0 < 26 then runs cal 226 7 [v0, v1, v2, v3, v4] [vI (I 85 x0)] I else none := st_iald (ins_of mI_226 (by rfl)) cT_85 (wdc wid_226 wd_85)
theorem r226_7 : runs cal 226 7 [v0, v1, vI u, v3, v4] [vI x0] I = runs cal 226 8 [v0, v1, vI u, vI x0, v4] [] I := runs_to (ins_of mI_226 (by rfl)) rfl rfl
theorem r226_8 : runs cal 226 8 [v0, v1, v2, vI w, v4] [] I = runs cal 226 9 [v0, v1, v2, vI w, v4] [vI w] I := runs_to (ins_of mI_226 (by rfl)) rfl rfl
theorem r226_9 : runs cal 226 9 [vR 70, v1, v2, v3, v4] [vI x0] I = runs cal 226 10 [vR 70, v1, v2, v3, v4] [vR 70, vI x0] I := runs_to (ins_of mI_226 (by rfl)) rfl rfl
theorem r226_10 : runs cal 226 10 [v0, v1, v2, v3, v4] [vR 70, vI x1] I = runs cal 226 13 [v0, v1, v2, v3, v4] [vR 85, vI x1] I := st_getR (ins_of mI_226 (by rfl)) mC_226 (by decide) fr_11_55 cT_70 (wdc wid_226 wd_70) rfl rfl
theorem r226_13 : runs cal 226 13 [v0, v1, v2, v3, v4] [vR 85, vI x1] I = runs cal 226 15 [v0, v1, v2, v3, v4] [vI (18), vR 85, vI x1] I := runs_to (ins_of mI_226 (by rfl)) rfl rfl
theorem r226_15 : runs cal 226 15 [v0, v1, v2, v3, v4] [vI x0, vR 85, vI x2] I = if 0 ≤ x0 ∧ x0 < 26 then runs cal 226 16 [v0, v1, v2, v3, v4] [vI (I 85 x0), vI x2] I else none := st_iald (ins_of mI_226 (by rfl)) cT_85 (wdc wid_226 wd_85)
theorem r226_16 : runs cal 226 16 [vR 70, v1, v2, v3, v4] [vI x0, vI x1] I = runs cal 226 17 [vR 70, v1, v2, v3, v4] [vR 70, vI x0, vI x1] I := runs_to (ins_of mI_226 (by rfl)) rfl rfl
theorem r226_17 : runs cal 226 17 [v0, v1, v2, v3, v4] [vR 70, vI x1, vI x2] I = runs cal 226 20 [v0, v1, v2, v3, v4] [vR 85, vI x1, vI x2] I := st_getR (ins_of mI_226 (by rfl)) mC_226 (by decide) fr_11_55 cT_70 (wdc wid_226 wd_70) rfl rfl
theorem r226_20 : runs cal 226 20 [v0, v1, v2, v3, v4] [vR 85, vI x1, vI x2] I = runs cal 226 22 [v0, v1, v2, v3, v4] [vI (19), vR 85, vI x1, vI x2] I := runs_to (ins_of mI_226 (by rfl)) rfl rfl
theorem r226_22 : runs cal 226 22 [v0, v1, v2, v3, v4] [vI x0, vR 85, vI x2, vI x3] I = if 0 ≤ x0 ∧ x0 < 26 then runs cal 226 23 [v0, v1, v2, v3, v4] [vI (I 85 x0), vI x2, vI x3] I else none := st_iald (ins_of mI_226 (by rfl)) cT_85 (wdc wid_226 wd_85)
theorem r226_23 : runs cal 226 23 [v0, v1, v2, v3, v4] [vI x0, vI x1, vI x2] I = (cal 166 [vI x1, vI x0] I).bind (fun q => runs cal 226 26 [v0, v1, v2, v3, v4] (pushR q.1 [vI x2]) q.2) := st_call (st := true) (ins_of mI_226 (by rfl)) mC_226 mr_11_128 (by decide) mS_166 mN_166 rfl (Nat.le_of_ble_eq_true rfl) rfl rfl (Or.inl rfl) (Or.inl (wid_226.trans wid_166.symm))
theorem r226_26 : runs cal 226 26 [v0, v1, v2, v3, v4] [vI x0, vI x1] I = runs cal 226 27 [v0, v1, v2, v3, v4] [vI (iadd x1 x0)] I := runs_to (ins_of mI_226 (by rfl)) rfl rfl
theorem r226_27 : runs cal 226 27 [v0, v1, v2, v3, v4] [vI x0] I = runs cal 226 28 [v0, v1, v2, v3, v4] [vI (1), vI x0] I := runs_to (ins_of mI_226 (by rfl)) rfl rfl
theorem r226_28 : runs cal 226 28 [v0, v1, v2, v3, v4] [vI x0, vI x1] I = runs cal 226 29 [v0, v1, v2, v3, v4] [vI (isub x1 x0)] I := runs_to (ins_of mI_226 (by rfl)) rfl rfl
theorem r226_29 : runs cal 226 29 [v0, v1, v2, vI u, v4] [vI x0] I = runs cal 226 31 [v0, v1, v2, vI u, vI x0] [] I := runs_to (ins_of mI_226 (by rfl)) rfl rfl
theorem r226_31 : runs cal 226 31 [vR 70, v1, v2, v3, v4] [] I = runs cal 226 32 [vR 70, v1, v2, v3, v4] [vR 70] I := runs_to (ins_of mI_226 (by rfl)) rfl rfl
theorem r226_32 : runs cal 226 32 [v0, v1, v2, v3, v4] [vR 70] I = runs cal 226 35 [v0, v1, v2, v3, v4] [vI (I 70 27)] I := st_getI (ins_of mI_226 (by rfl)) mC_226 (by decide) fr_11_345 cT_70 (wdc wid_226 wd_70) (Or.inl rfl)
theorem r226_35 : runs cal 226 35 [v0, v1, v2, v3, v4] [vI x0] I = if 0 < x0 then runs cal 226 38 [v0, v1, v2, v3, v4] [] I else runs cal 226 57 [v0, v1, v2, v3, v4] [] I := st_if_le (ins_of mI_226 (by rfl)) (by decide)
theorem r226_38 : runs cal 226 38 [v0, vI w, v2, v3, v4] [] I = runs cal 226 39 [v0, vI w, v2, v3, v4] [vI w] I := runs_to (ins_of mI_226 (by rfl)) rfl rfl
theorem r226_39 : runs cal 226 39 [v0, v1, v2, v3, vI w] [vI x0] I = runs cal 226 41 [v0, v1, v2, v3, vI w] [vI w, vI x0] I := runs_to (ins_of mI_226 (by rfl)) rfl rfl
theorem r226_41 : runs cal 226 41 [v0, v1, v2, v3, v4] [vI x0, vI x1] I = if x0 < x1 then runs cal 226 57 [v0, v1, v2, v3, v4] [] I else runs cal 226 44 [v0, v1, v2, v3, v4] [] I := st_cmp_gt (ins_of mI_226 (by rfl)) (by decide)
theorem r226_44 : runs cal 226 44 [v0, vI w, v2, v3, v4] [] I = runs cal 226 45 [v0, vI w, v2, v3, v4] [vI w] I := runs_to (ins_of mI_226 (by rfl)) rfl rfl
theorem r226_45 : runs cal 226 45 [v0, v1, vI w, v3, v4] [vI x0] I = runs cal 226 46 [v0, v1, vI w, v3, v4] [vI w, vI x0] I := runs_to (ins_of mI_226 (by rfl)) rfl rfl
theorem r226_46 : runs cal 226 46 [v0, v1, v2, v3, v4] [vI x0, vI x1] I = runs cal 226 47 [v0, v1, v2, v3, v4] [vI (iadd x1 x0)] I := runs_to (ins_of mI_226 (by rfl)) rfl rfl
theorem r226_47 : runs cal 226 47 [v0, v1, v2, v3, v4] [vI x0] I = runs cal 226 48 [v0, v1, v2, v3, v4] [vI (1), vI x0] I := runs_to (ins_of mI_226 (by rfl)) rfl rfl
theorem r226_48 : runs cal 226 48 [v0, v1, v2, v3, v4] [vI x0, vI x1] I = runs cal 226 49 [v0, v1, v2, v3, v4] [vI (isub x1 x0)] I := runs_to (ins_of mI_226 (by rfl)) rfl rfl
theorem r226_49 : runs cal 226 49 [v0, v1, v2, vI w, v4] [vI x0] I = runs cal 226 50 [v0, v1, v2, vI w, v4] [vI w, vI x0] I := runs_to (ins_of mI_226 (by rfl)) rfl rfl
theorem r226_50 : runs cal 226 50 [v0, v1, v2, v3, v4] [vI x0, vI x1] I = if x1 < x0 then runs cal 226 57 [v0, v1, v2, v3, v4] [] I else runs cal 226 53 [v0, v1, v2, v3, v4] [] I := st_cmp_lt (ins_of mI_226 (by rfl)) (by decide)
theorem r226_53 : runs cal 226 53 [v0, v1, v2, v3, v4] [] I = runs cal 226 54 [v0, v1, v2, v3, v4] [vI (1)] I := runs_to (ins_of mI_226 (by rfl)) rfl rfl
theorem r226_54 : runs cal 226 54 [v0, v1, v2, v3, v4] [vI x0] I = runs cal 226 58 [v0, v1, v2, v3, v4] [vI x0] I := st_goto (ins_of mI_226 (by rfl)) (by decide)
theorem r226_57 : runs cal 226 57 [v0, v1, v2, v3, v4] [] I = runs cal 226 58 [v0, v1, v2, v3, v4] [vI (0)] I := runs_to (ins_of mI_226 (by rfl)) rfl rfl
theorem r226_58 : runs cal 226 58 [v0, v1, v2, v3, v4] [vI x0] I = if x0 = 0 ∨ x0 = 1 then some (some (vI x0), I) else none := st_retZ (ins_of mI_226 (by rfl)) mR_226 (Or.inl rfl)
theorem r227_0 : runs cal 227 0 [vR 70] [] I = runs cal 227 1 [vR 70] [vR 70] I := runs_to (ins_of mI_227 (by rfl)) rfl rfl
theorem r227_1 : runs cal 227 1 [v0] [vR 70] I = runs cal 227 3 [v0] [vI (105), vR 70] I := runs_to (ins_of mI_227 (by rfl)) rfl rfl
theorem r227_3 : runs cal 227 3 [v0] [vI x0, vR 70] I = runs cal 227 5 [v0] [vI (115), vI x0, vR 70] I := runs_to (ins_of mI_227 (by rfl)) rfl rfl
theorem r227_5 : runs cal 227 5 [v0] [vI x0, vI x1, vR 70] I = runs cal 227 7 [v0] [vI (108), vI x0, vI x1, vR 70] I := runs_to (ins_of mI_227 (by rfl)) rfl rfl
theorem r227_7 : runs cal 227 7 [v0] [vI x0, vI x1, vI x2, vR 70] I = runs cal 227 9 [v0] [vI (97), vI x0, vI x1, vI x2, vR 70] I := runs_to (ins_of mI_227 (by rfl)) rfl rfl
theorem r227_9 : runs cal 227 9 [v0] [vI x0, vI x1, vI x2, vI x3, vR 70] I = runs cal 227 11 [v0] [vI (110), vI x0, vI x1, vI x2, vI x3, vR 70] I := runs_to (ins_of mI_227 (by rfl)) rfl rfl
theorem r227_11 : runs cal 227 11 [v0] [vI x0, vI x1, vI x2, vI x3, vI x4, vR 70] I = runs cal 227 13 [v0] [vI (100), vI x0, vI x1, vI x2, vI x3, vI x4, vR 70] I := runs_to (ins_of mI_227 (by rfl)) rfl rfl
theorem r227_13 : runs cal 227 13 [v0] [vI x0, vI x1, vI x2, vI x3, vI x4, vI x5, vR 70] I = (cal 220 [vR 70, vI x5, vI x4, vI x3, vI x2, vI x1, vI x0] I).bind (fun q => runs cal 227 16 [v0] (pushR q.1 []) q.2) := st_call (st := false) (ins_of mI_227 (by rfl)) mC_227 mr_11_335 (by decide) mS_220 mN_220 rfl (Nat.le_of_ble_eq_true rfl) rfl rfl (Or.inr ⟨_, _, rfl, rcv mC_220 rfl wid_227 (by decide +kernel)⟩) (Or.inl (wid_227.trans wid_220.symm))
theorem r227_16 : runs cal 227 16 [v0] [vI x0] I = if x0 = 0 then runs cal 227 24 [v0] [] I else runs cal 227 19 [v0] [] I := st_if_eq (ins_of mI_227 (by rfl)) (by decide)
theorem r227_19 : runs cal 227 19 [vR 70] [] I = runs cal 227 20 [vR 70] [vR 70] I := runs_to (ins_of mI_227 (by rfl)) rfl rfl
theorem r227_20 : runs cal 227 20 [v0] [vR 70] I = (cal 223 [vR 70] I).bind (fun q => runs cal 227 23 [v0] (pushR q.1 []) q.2) := st_call (st := false) (ins_of mI_227 (by rfl)) mC_227 mr_11_351 (by decide) mS_223 mN_223 rfl (Nat.le_of_ble_eq_true rfl) rfl rfl (Or.inr ⟨_, _, rfl, rcv mC_223 rfl wid_227 (by decide +kernel)⟩) (Or.inl (wid_227.trans wid_223.symm))
theorem r227_23 : runs cal 227 23 [v0] [vI x0] I = if x0 = 0 ∨ x0 = 1 then some (some (vI x0), I) else none := st_retZ (ins_of mI_227 (by rfl)) mR_227 (Or.inl rfl)
theorem r227_24 : runs cal 227 24 [vR 70] [] I = runs cal 227 25 [vR 70] [vR 70] I := runs_to (ins_of mI_227 (by rfl)) rfl rfl
theorem r227_25 : runs cal 227 25 [v0] [vR 70] I = runs cal 227 27 [v0] [vI (119), vR 70] I := runs_to (ins_of mI_227 (by rfl)) rfl rfl
theorem r227_27 : runs cal 227 27 [v0] [vI x0, vR 70] I = runs cal 227 29 [v0] [vI (97), vI x0, vR 70] I := runs_to (ins_of mI_227 (by rfl)) rfl rfl
theorem r227_29 : runs cal 227 29 [v0] [vI x0, vI x1, vR 70] I = runs cal 227 31 [v0] [vI (108), vI x0, vI x1, vR 70] I := runs_to (ins_of mI_227 (by rfl)) rfl rfl
theorem r227_31 : runs cal 227 31 [v0] [vI x0, vI x1, vI x2, vR 70] I = runs cal 227 33 [v0] [vI (107), vI x0, vI x1, vI x2, vR 70] I := runs_to (ins_of mI_227 (by rfl)) rfl rfl
theorem r227_33 : runs cal 227 33 [v0] [vI x0, vI x1, vI x2, vI x3, vR 70] I = runs cal 227 35 [v0] [vI (101), vI x0, vI x1, vI x2, vI x3, vR 70] I := runs_to (ins_of mI_227 (by rfl)) rfl rfl
theorem r227_35 : runs cal 227 35 [v0] [vI x0, vI x1, vI x2, vI x3, vI x4, vR 70] I = runs cal 227 37 [v0] [vI (114), vI x0, vI x1, vI x2, vI x3, vI x4, vR 70] I := runs_to (ins_of mI_227 (by rfl)) rfl rfl
theorem r227_37 : runs cal 227 37 [v0] [vI x0, vI x1, vI x2, vI x3, vI x4, vI x5, vR 70] I = (cal 220 [vR 70, vI x5, vI x4, vI x3, vI x2, vI x1, vI x0] I).bind (fun q => runs cal 227 40 [v0] (pushR q.1 []) q.2) := st_call (st := false) (ins_of mI_227 (by rfl)) mC_227 mr_11_335 (by decide) mS_220 mN_220 rfl (Nat.le_of_ble_eq_true rfl) rfl rfl (Or.inr ⟨_, _, rfl, rcv mC_220 rfl wid_227 (by decide +kernel)⟩) (Or.inl (wid_227.trans wid_220.symm))
theorem r227_40 : runs cal 227 40 [v0] [vI x0] I = if x0 = 0 then runs cal 227 48 [v0] [] I else runs cal 227 43 [v0] [] I := st_if_eq (ins_of mI_227 (by rfl)) (by decide)
theorem r227_43 : runs cal 227 43 [vR 70] [] I = runs cal 227 44 [vR 70] [vR 70] I := runs_to (ins_of mI_227 (by rfl)) rfl rfl
theorem r227_44 : runs cal 227 44 [v0] [vR 70] I = (cal 224 [vR 70] I).bind (fun q => runs cal 227 47 [v0] (pushR q.1 []) q.2) := st_call (st := false) (ins_of mI_227 (by rfl)) mC_227 mr_11_354 (by decide) mS_224 mN_224 rfl (Nat.le_of_ble_eq_true rfl) rfl rfl (Or.inr ⟨_, _, rfl, rcv mC_224 rfl wid_227 (by decide +kernel)⟩) (Or.inl (wid_227.trans wid_224.symm))
theorem r227_47 : runs cal 227 47 [v0] [vI x0] I = if x0 = 0 ∨ x0 = 1 then some (some (vI x0), I) else none := st_retZ (ins_of mI_227 (by rfl)) mR_227 (Or.inl rfl)
theorem r227_48 : runs cal 227 48 [vR 70] [] I = runs cal 227 49 [vR 70] [vR 70] I := runs_to (ins_of mI_227 (by rfl)) rfl rfl
theorem r227_49 : runs cal 227 49 [v0] [vR 70] I = runs cal 227 51 [v0] [vI (98), vR 70] I := runs_to (ins_of mI_227 (by rfl)) rfl rfl
theorem r227_51 : runs cal 227 51 [v0] [vI x0, vR 70] I = runs cal 227 53 [v0] [vI (111), vI x0, vR 70] I := runs_to (ins_of mI_227 (by rfl)) rfl rfl
theorem r227_53 : runs cal 227 53 [v0] [vI x0, vI x1, vR 70] I = runs cal 227 55 [v0] [vI (97), vI x0, vI x1, vR 70] I := runs_to (ins_of mI_227 (by rfl)) rfl rfl
theorem r227_55 : runs cal 227 55 [v0] [vI x0, vI x1, vI x2, vR 70] I = runs cal 227 57 [v0] [vI (114), vI x0, vI x1, vI x2, vR 70] I := runs_to (ins_of mI_227 (by rfl)) rfl rfl
theorem r227_57 : runs cal 227 57 [v0] [vI x0, vI x1, vI x2, vI x3, vR 70] I = runs cal 227 59 [v0] [vI (100), vI x0, vI x1, vI x2, vI x3, vR 70] I := runs_to (ins_of mI_227 (by rfl)) rfl rfl
theorem r227_59 : runs cal 227 59 [v0] [vI x0, vI x1, vI x2, vI x3, vI x4, vR 70] I = runs cal 227 60 [v0] [vI (0), vI x0, vI x1, vI x2, vI x3, vI x4, vR 70] I := runs_to (ins_of mI_227 (by rfl)) rfl rfl
theorem r227_60 : runs cal 227 60 [v0] [vI x0, vI x1, vI x2, vI x3, vI x4, vI x5, vR 70] I = (cal 220 [vR 70, vI x5, vI x4, vI x3, vI x2, vI x1, vI x0] I).bind (fun q => runs cal 227 63 [v0] (pushR q.1 []) q.2) := st_call (st := false) (ins_of mI_227 (by rfl)) mC_227 mr_11_335 (by decide) mS_220 mN_220 rfl (Nat.le_of_ble_eq_true rfl) rfl rfl (Or.inr ⟨_, _, rfl, rcv mC_220 rfl wid_227 (by decide +kernel)⟩) (Or.inl (wid_227.trans wid_220.symm))
theorem r227_63 : runs cal 227 63 [v0] [vI x0] I = if x0 = 0 then runs cal 227 77 [v0] [] I else runs cal 227 66 [v0] [] I := st_if_eq (ins_of mI_227 (by rfl)) (by decide)
theorem r227_66 : runs cal 227 66 [vR 70] [] I = runs cal 227 67 [vR 70] [vR 70] I := runs_to (ins_of mI_227 (by rfl)) rfl rfl
theorem r227_67 : runs cal 227 67 [v0] [vR 70] I = (cal 225 [vR 70] I).bind (fun q => runs cal 227 70 [v0] (pushR q.1 []) q.2) := st_call (st := false) (ins_of mI_227 (by rfl)) mC_227 mr_11_357 (by decide) mS_225 mN_225 rfl (Nat.le_of_ble_eq_true rfl) rfl rfl (Or.inr ⟨_, _, rfl, rcv mC_225 rfl wid_227 (by decide +kernel)⟩) (Or.inl (wid_227.trans wid_225.symm))
theorem r227_70 : runs cal 227 70 [v0] [vI x0] I = if x0 = 0 then runs cal 227 77 [v0] [] I else runs cal 227 73 [v0] [] I := st_if_eq (ins_of mI_227 (by rfl)) (by decide)
theorem r227_73 : runs cal 227 73 [v0] [] I = runs cal 227 74 [v0] [vI (1)] I := runs_to (ins_of mI_227 (by rfl)) rfl rfl
theorem r227_74 : runs cal 227 74 [v0] [vI x0] I = runs cal 227 78 [v0] [vI x0] I := st_goto (ins_of mI_227 (by rfl)) (by decide)
theorem r227_77 : runs cal 227 77 [v0] [] I = runs cal 227 78 [v0] [vI (0)] I := runs_to (ins_of mI_227 (by rfl)) rfl rfl
theorem r227_78 : runs cal 227 78 [v0] [vI x0] I = if x0 = 0 ∨ x0 = 1 then some (some (vI x0), I) else none := st_retZ (ins_of mI_227 (by rfl)) mR_227 (Or.inl rfl)
theorem r228_0 : runs cal 228 0 [vR 70, v1, v2] [] I = runs cal 228 1 [vR 70, v1, v2] [vR 70] I := runs_to (ins_of mI_228 (by rfl)) rfl rfl
theorem r228_1 : runs cal 228 1 [v0, v1, v2] [vR 70] I = runs cal 228 2 [v0, v1, v2] [vI (0), vR 70] I := runs_to (ins_of mI_228 (by rfl)) rfl rfl
theorem r228_2 : runs cal 228 2 [v0, v1, v2] [vI x0, vR 70] I = runs cal 228 5 [v0, v1, v2] [] (mset I 70 26 x0) := st_putI (ins_of mI_228 (by rfl)) mC_228 fr_11_342 cT_70 (wdc wid_228 wd_70) rfl
theorem r228_5 : runs cal 228 5 [vR 70, v1, v2] [] I = runs cal 228 6 [vR 70, v1, v2] [vR 70] I := runs_to (ins_of mI_228 (by rfl)) rfl rfl
theorem r228_6 : runs cal 228 6 [v0, v1, v2] [vR 70] I = runs cal 228 7 [v0, v1, v2] [vI (0), vR 70] I := runs_to (ins_of mI_228 (by rfl)) rfl rfl
theorem r228_7 : runs cal 228 7 [v0, v1, v2] [vI x0, vR 70] I = runs cal 228 10 [v0, v1, v2] [] (mset I 70 27 x0) := st_putI (ins_of mI_228 (by rfl)) mC_228 fr_11_345 cT_70 (wdc wid_228 wd_70) rfl
theorem r228_10 : runs cal 228 10 [vR 70, v1, v2] [] I = runs cal 228 11 [vR 70, v1, v2] [vR 70] I := runs_to (ins_of mI_228 (by rfl)) rfl rfl
theorem r228_11 : runs cal 228 11 [v0, v1, v2] [vR 70] I = runs cal 228 12 [v0, v1, v2] [vI (0), vR 70] I := runs_to (ins_of mI_228 (by rfl)) rfl rfl
theorem r228_12 : runs cal 228 12 [v0, v1, v2] [vI x0, vR 70] I = (cal 218 [vR 70, vI x0] I).bind (fun q => runs cal 228 15 [v0, v1, v2] (pushR q.1 []) q.2) := st_call (st := false) (ins_of mI_228 (by rfl)) mC_228 mr_11_326 (by decide) mS_218 mN_218 rfl (Nat.le_of_ble_eq_true rfl) rfl rfl (Or.inr ⟨_, _, rfl, rcv mC_218 rfl wid_228 (by decide +kernel)⟩) (Or.inl (wid_228.trans wid_218.symm))
theorem r228_15 : runs cal 228 15 [vR 70, v1, v2] [] I = runs cal 228 16 [vR 70, v1, v2] [vR 70] I := runs_to (ins_of mI_228 (by rfl)) rfl rfl
theorem r228_16 : runs cal 228 16 [v0, v1, v2] [vR 70] I = (cal 222 [vR 70] I).bind (fun q => runs cal 228 19 [v0, v1, v2] (pushR q.1 []) q.2) := st_call (st := false) (ins_of mI_228 (by rfl)) mC_228 mr_11_360 (by decide) mS_222 mN_222 rfl (Nat.le_of_ble_eq_true rfl) rfl rfl (Or.inr ⟨_, _, rfl, rcv mC_222 rfl wid_228 (by decide +kernel)⟩) (Or.inl (wid_228.trans wid_222.symm))
theorem r228_19 : runs cal 228 19 [v0, v1, v2] [vI x0] I = if x0 = 0 then runs cal 228 34 [v0, v1, v2] [] I else runs cal 228 22 [v0, v1, v2] [] I := st_if_eq (ins_of mI_228 (by rfl)) (by decide)
theorem r228_22 : runs cal 228 22 [vR 70, v1, v2] [] I = runs cal 228 23 [vR 70, v1, v2] [vR 70] I := runs_to (ins_of mI_228 (by rfl)) rfl rfl
theorem r228_23 : runs cal 228 23 [v0, v1, v2] [vR 70] I = runs cal 228 26 [v0, v1, v2] [vI (I 70 23)] I := st_getI (ins_of mI_228 (by rfl)) mC_228 (by decide) fr_11_314 cT_70 (wdc wid_228 wd_70) (Or.inl rfl)
theorem r228_26 : runs cal 228 26 [v0, v1, v2] [vI x0] I = runs cal 228 27 [v0, v1, v2] [vI (3), vI x0] I := runs_to (ins_of mI_228 (by rfl)) rfl rfl
theorem r228_27 : runs cal 228 27 [v0, v1, v2] [vI x0, vI x1] I = if x1 = x0 then runs cal 228 30 [v0, v1, v2] [] I else runs cal 228 34 [v0, v1, v2] [] I := st_cmp_ne (ins_of mI_228 (by rfl)) (by decide)
theorem r228_30 : runs cal 228 30 [v0, v1, v2] [] I = runs cal 228 31 [v0, v1, v2] [vI (1)] I := runs_to (ins_of mI_228 (by rfl)) rfl rfl
theorem r228_31 : runs cal 228 31 [v0, v1, v2] [vI x0] I = runs cal 228 35 [v0, v1, v2] [vI x0] I := st_goto (ins_of mI_228 (by rfl)) (by decide)
theorem r228_34 : runs cal 228 34 [v0, v1, v2] [] I = runs cal 228 35 [v0, v1, v2] [vI (0)] I := runs_to (ins_of mI_228 (by rfl)) rfl rfl
theorem r228_35 : runs cal 228 35 [vR b0, v1, v2] [vI x0] I = runs cal 228 36 [vR b0, vI x0, v2] [] I := runs_to (ins_of mI_228 (by rfl)) rfl rfl
theorem r228_36 : runs cal 228 36 [v0, v1, v2] [] I = runs cal 228 37 [v0, v1, v2] [vI (0)] I := runs_to (ins_of mI_228 (by rfl)) rfl rfl
theorem r228_37 : runs cal 228 37 [v0, vI u, v2] [vI x0] I = runs cal 228 38 [v0, vI u, vI x0] [] I := runs_to (ins_of mI_228 (by rfl)) rfl rfl
theorem r228_38 : runs cal 228 38 [v0, vI w, v2] [] I = runs cal 228 39 [v0, vI w, v2] [vI w] I := runs_to (ins_of mI_228 (by rfl)) rfl rfl
theorem r228_39 : runs cal 228 39 [v0, v1, v2] [vI x0] I = if x0 = 0 then runs cal 228 88 [v0, v1, v2] [] I else runs cal 228 42 [v0, v1, v2] [] I := st_if_eq (ins_of mI_228 (by rfl)) (by decide)
theorem r228_42 : runs cal 228 42 [vR 70, v1, v2] [] I = runs cal 228 43 [vR 70, v1, v2] [vR 70] I := runs_to (ins_of mI_228 (by rfl)) rfl rfl
theorem r228_43 : runs cal 228 43 [v0, v1, v2] [vR 70] I = runs cal 228 46 [v0, v1, v2] [vI (I 70 23)] I := st_getI (ins_of mI_228 (by rfl)) mC_228 (by decide) fr_11_314 cT_70 (wdc wid_228 wd_70) (Or.inl rfl)
theorem r228_46 : runs cal 228 46 [v0, v1, v2] [vI x0] I = runs cal 228 47 [v0, v1, v2] [vI (3), vI x0] I := runs_to (ins_of mI_228 (by rfl)) rfl rfl
theorem r228_47 : runs cal 228 47 [v0, v1, v2] [vI x0, vI x1] I = if x1 = x0 then runs cal 228 50 [v0, v1, v2] [] I else runs cal 228 88 [v0, v1, v2] [] I := st_cmp_ne (ins_of mI_228 (by rfl)) (by decide)
theorem r228_50 : runs cal 228 50 [v0, vI u, vI w] [] I = runs cal 228 53 [v0, vI u, vI (iadd w (1))] [] I := runs_to (ins_of mI_228 (by rfl)) rfl rfl
theorem r228_53 : runs cal 228 53 [vR 70, v1, v2] [] I = runs cal 228 54 [vR 70, v1, v2] [vR 70] I := runs_to (ins_of mI_228 (by rfl)) rfl rfl
theorem r228_54 : runs cal 228 54 [v0, v1, v2] [vR 70] I = (cal 219 [vR 70] I).bind (fun q => runs cal 228 57 [v0, v1, v2] (pushR q.1 []) q.2) := st_call (st := false) (ins_of mI_228 (by rfl)) mC_228 mr_11_332 (by decide) mS_219 mN_219 rfl (Nat.le_of_ble_eq_true rfl) rfl rfl (Or.inr ⟨_, _, rfl, rcv mC_219 rfl wid_228 (by decide +kernel)⟩) (Or.inl (wid_228.trans wid_219.symm))
theorem r228_57 : runs cal 228 57 [vR 70, v1, v2] [] I = runs cal 228 58 [vR 70, v1, v2] [vR 70] I := runs_to (ins_of mI_228 (by rfl)) rfl rfl
theorem r228_58 : runs cal 228 58 [v0, v1, v2] [vR 70] I = runs cal 228 61 [v0, v1, v2] [vI (I 70 23)] I := st_getI (ins_of mI_228 (by rfl)) mC_228 (by decide) fr_11_314 cT_70 (wdc wid_228 wd_70) (Or.inl rfl)
theorem r228_61 : runs cal 228 61 [v0, v1, v2] [vI x0] I = if x0 = 0 then runs cal 228 79 [v0, v1, v2] [] I else runs cal 228 64 [v0, v1, v2] [] I := st_if_eq (ins_of mI_228 (by rfl)) (by decide)
theorem r228_64 : runs cal 228 64 [vR 70, v1, v2] [] I = runs cal 228 65 [vR 70, v1, v2] [vR 70] I := runs_to (ins_of mI_228 (by rfl)) rfl rfl
theorem r228_65 : runs cal 228 65 [v0, v1, v2] [vR 70] I = (cal 227 [vR 70] I).bind (fun q => runs cal 228 68 [v0, v1, v2] (pushR q.1 []) q.2) := st_call (st := false) (ins_of mI_228 (by rfl)) mC_228 mr_11_363 (by decide) mS_227 mN_227 rfl (Nat.le_of_ble_eq_true rfl) rfl rfl (Or.inr ⟨_, _, rfl, rcv mC_227 rfl wid_228 (by decide +kernel)⟩) (Or.inl (wid_228.trans wid_227.symm))
theorem r228_68 : runs cal 228 68 [v0, v1, v2] [vI x0] I = if x0 = 0 then runs cal 228 83 [v0, v1, v2] [] I else runs cal 228 71 [v0, v1, v2] [] I := st_if_eq (ins_of mI_228 (by rfl)) (by decide)
theorem r228_71 : runs cal 228 71 [vR 70, v1, v2] [] I = runs cal 228 72 [vR 70, v1, v2] [vR 70] I := runs_to (ins_of mI_228 (by rfl)) rfl rfl
theorem r228_72 : runs cal 228 72 [v0, v1, v2] [vR 70] I = runs cal 228 75 [v0, v1, v2] [vI (I 70 23)] I := st_getI (ins_of mI_228 (by rfl)) mC_228 (by decide) fr_11_314 cT_70 (wdc wid_228 wd_70) (Or.inl rfl)
theorem r228_75 : runs cal 228 75 [v0, v1, v2] [vI x0] I = runs cal 228 76 [v0, v1, v2] [vI (3), vI x0] I := runs_to (ins_of mI_228 (by rfl)) rfl rfl
theorem r228_76 : runs cal 228 76 [v0, v1, v2] [vI x0, vI x1] I = if x1 = x0 then runs cal 228 79 [v0, v1, v2] [] I else runs cal 228 83 [v0, v1, v2] [] I := st_cmp_ne (ins_of mI_228 (by rfl)) (by decide)
theorem r228_79 : runs cal 228 79 [v0, v1, v2] [] I = runs cal 228 80 [v0, v1, v2] [vI (1)] I := runs_to (ins_of mI_228 (by rfl)) rfl rfl
theorem r228_80 : runs cal 228 80 [v0, v1, v2] [vI x0] I = runs cal 228 84 [v0, v1, v2] [vI x0] I := st_goto (ins_of mI_228 (by rfl)) (by decide)
theorem r228_83 : runs cal 228 83 [v0, v1, v2] [] I = runs cal 228 84 [v0, v1, v2] [vI (0)] I := runs_to (ins_of mI_228 (by rfl)) rfl rfl
theorem r228_84 : runs cal 228 84 [vR b0, v1, v2] [vI x0] I = runs cal 228 85 [vR b0, vI x0, v2] [] I := runs_to (ins_of mI_228 (by rfl)) rfl rfl
theorem r228_85 : runs cal 228 85 [v0, v1, v2] [] I = runs cal 228 38 [v0, v1, v2] [] I := st_goto (ins_of mI_228 (by rfl)) (by decide)
theorem r228_88 : runs cal 228 88 [v0, vI w, v2] [] I = runs cal 228 89 [v0, vI w, v2] [vI w] I := runs_to (ins_of mI_228 (by rfl)) rfl rfl
theorem r228_89 : runs cal 228 89 [v0, v1, v2] [vI x0] I = if x0 = 0 then runs cal 228 99 [v0, v1, v2] [] I else runs cal 228 92 [v0, v1, v2] [] I := st_if_eq (ins_of mI_228 (by rfl)) (by decide)
theorem r228_92 : runs cal 228 92 [vR 70, v1, v2] [] I = runs cal 228 93 [vR 70, v1, v2] [vR 70] I := runs_to (ins_of mI_228 (by rfl)) rfl rfl
theorem r228_93 : runs cal 228 93 [v0, v1, v2] [vR 70] I = runs cal 228 96 [v0, v1, v2] [vI (I 70 23)] I := st_getI (ins_of mI_228 (by rfl)) mC_228 (by decide) fr_11_314 cT_70 (wdc wid_228 wd_70) (Or.inl rfl)
theorem r228_96 : runs cal 228 96 [v0, v1, v2] [vI x0] I = if x0 = 0 then runs cal 228 107 [v0, v1, v2] [] I else runs cal 228 99 [v0, v1, v2] [] I := st_if_eq (ins_of mI_228 (by rfl)) (by decide)
theorem r228_99 : runs cal 228 99 [v0, v1, v2] [] I = runs cal 228 101 [v0, v1, v2] [vI (-10)] I := runs_to (ins_of mI_228 (by rfl)) rfl rfl
theorem r228_101 : runs cal 228 101 [vR 70, v1, v2] [vI x0] I = runs cal 228 102 [vR 70, v1, v2] [vR 70, vI x0] I := runs_to (ins_of mI_228 (by rfl)) rfl rfl
theorem r228_102 : runs cal 228 102 [v0, v1, v2] [vR 70, vI x1] I = runs cal 228 105 [v0, v1, v2] [vI (I 70 21), vI x1] I := st_getI (ins_of mI_228 (by rfl)) mC_228 (by decide) fr_11_308 cT_70 (wdc wid_228 wd_70) (Or.inl rfl)
theorem r228_105 : runs cal 228 105 [v0, v1, v2] [vI x0, vI x1] I = runs cal 228 106 [v0, v1, v2] [vI (isub x1 x0)] I := runs_to (ins_of mI_228 (by rfl)) rfl rfl
theorem r228_106 : runs cal 228 106 [v0, v1, v2] [vI x0] I = some (some (vI x0), I) := st_ret (q := some (vI x0)) (k := 0) (ins_of mI_228 (by rfl)) rfl (by decide) mR_228 rfl trivial
theorem r228_107 : runs cal 228 107 [vR 70, v1, v2] [] I = runs cal 228 108 [vR 70, v1, v2] [vR 70] I := runs_to (ins_of mI_228 (by rfl)) rfl rfl
theorem r228_108 : runs cal 228 108 [v0, v1, v2] [vR 70] I = (cal 229 [vR 70] I).bind (fun q => runs cal 228 111 [v0, v1, v2] (pushR q.1 []) q.2) := st_call (st := false) (ins_of mI_228 (by rfl)) mC_228 mr_11_366 (by decide) mS_229 mN_229 rfl (Nat.le_of_ble_eq_true rfl) rfl rfl (Or.inr ⟨_, _, rfl, rcv mC_229 rfl wid_228 (by decide +kernel)⟩) (Or.inl (wid_228.trans wid_229.symm))
theorem r228_111 : runs cal 228 111 [v0, v1, v2] [vI x0] I = if x0 = 0 then runs cal 228 118 [v0, v1, v2] [] I else runs cal 228 114 [v0, v1, v2] [] I := st_if_eq (ins_of mI_228 (by rfl)) (by decide)
theorem r228_114 : runs cal 228 114 [v0, v1, vI w] [] I = runs cal 228 115 [v0, v1, vI w] [vI w] I := runs_to (ins_of mI_228 (by rfl)) rfl rfl
theorem r228_115 : runs cal 228 115 [v0, v1, v2] [vI x0] I = runs cal 228 122 [v0, v1, v2] [vI x0] I := st_goto (ins_of mI_228 (by rfl)) (by decide)
theorem r228_118 : runs cal 228 118 [vR 70, v1, v2] [] I = runs cal 228 119 [vR 70, v1, v2] [vR 70] I := runs_to (ins_of mI_228 (by rfl)) rfl rfl
theorem r228_119 : runs cal 228 119 [v0, v1, v2] [vR 70] I = (cal 144 [vR 70] I).bind (fun q => runs cal 228 122 [v0, v1, v2] (pushR q.1 []) q.2) := st_call (st := false) (ins_of mI_228 (by rfl)) mC_228 mr_11_242 (by decide) mS_144 mN_144 rfl (Nat.le_of_ble_eq_true rfl) rfl rfl (Or.inr ⟨_, _, rfl, rcv mC_144 rfl wid_228 (by decide +kernel)⟩) (Or.inl (wid_228.trans wid_144.symm))
theorem r228_122 : runs cal 228 122 [v0, v1, v2] [vI x0] I = some (some (vI x0), I) := st_ret (q := some (vI x0)) (k := 0) (ins_of mI_228 (by rfl)) rfl (by decide) mR_228 rfl trivial
theorem r229_0 : runs cal 229 0 [v0, v1, v2, v3, v4] [] I = runs cal 229 1 [v0, v1, v2, v3, v4] [vI (0)] I := runs_to (ins_of mI_229 (by rfl)) rfl rfl
theorem r229_1 : runs cal 229 1 [vR b0, v1, v2, v3, v4] [vI x0] I = runs cal 229 2 [vR b0, vI x0, v2, v3, v4] [] I := runs_to (ins_of mI_229 (by rfl)) rfl rfl
theorem r229_2 : runs cal 229 2 [v0, vI w, v2, v3, v4] [] I = runs cal 229 3 [v0, vI w, v2, v3, v4] [vI w] I := runs_to (ins_of mI_229 (by rfl)) rfl rfl
theorem r229_3 : runs cal 229 3 [v0, v1, v2, v3, v4] [vI x0] I = runs cal 229 5 [v0, v1, v2, v3, v4] [vI (26), vI x0] I := runs_to (ins_of mI_229 (by rfl)) rfl rfl
theorem r229_5 : runs cal 229 5 [v0, v1, v2, v3, v4] [vI x0, vI x1] I = if x1 < x0 then runs cal 229 8 [v0, v1, v2, v3, v4] [] I else runs cal 229 40 [v0, v1, v2, v3, v4] [] I := st_cmp_ge (ins_of mI_229 (by rfl)) (by decide)
theorem r229_8 : runs cal 229 8 [vR 70, v1, v2, v3, v4] [] I = runs cal 229 9 [vR 70, v1, v2, v3, v4] [vR 70] I := runs_to (ins_of mI_229 (by rfl)) rfl rfl
theorem r229_9 : runs cal 229 9 [v0, v1, v2, v3, v4] [vR 70] I = runs cal 229 12 [v0, v1, v2, v3, v4] [vR 71] I := st_getR (ins_of mI_229 (by rfl)) mC_229 (by decide) fr_11_7 cT_70 (wdc wid_229 wd_70) rfl rfl
theorem r229_12 : runs cal 229 12 [v0, vI w, v2, v3, v4] [vR 71] I = runs cal 229 13 [v0, vI w, v2, v3, v4] [vI w, vR 71] I := runs_to (ins_of mI_229 (by rfl)) rfl rfl
theorem r229_13 : runs cal 229 13 [v0, v1, v2, v3, v4] [vI x0, vR 71] I = if 0 ≤ x0 ∧ x0 < 110 then runs cal 229 14 [v0, v1, v2, v3, v4] [vI (I 71 x0)] I else none := st_iald (ins_of mI_229 (by rfl)) cT_71 (wdc wid_229 wd_71)
theorem r229_14 : runs cal 229 14 [v0, vI u, v2, v3, v4] [vI x0] I = runs cal 229 15 [v0, vI u, vI x0, v3, v4] [] I := runs_to (ins_of mI_229 (by rfl)) rfl rfl
theorem r229_15 : runs cal 229 15 [vR 70, v1, v2, v3, v4] [] I = runs cal 229 16 [vR 70, v1, v2, v3, v4] [vR 70] I := runs_to (ins_of mI_229 (by rfl)) rfl rfl
theorem r229_16 : runs cal 229 16 [v0, v1, v2, v3, v4] [vR 70] I = runs cal 229 19 [v0, v1, v2, v3, v4] [vR 71] I := st_getR (ins_of mI_229 (by rfl)) mC_229 (by decide) fr_11_7 cT_70 (wdc wid_229 wd_70) rfl rfl
theorem r229_19 : runs cal 229 19 [v0, vI w, v2, v3, v4] [vR 71] I = runs cal 229 20 [v0, vI w, v2, v3, v4] [vI w, vR 71] I := runs_to (ins_of mI_229 (by rfl)) rfl rfl
theorem r229_20 : runs cal 229 20 [vR 70, v1, v2, v3, v4] [vI x0, vR 71] I = runs cal 229 21 [vR 70, v1, v2, v3, v4] [vR 70, vI x0, vR 71] I := runs_to (ins_of mI_229 (by rfl)) rfl rfl
theorem r229_21 : runs cal 229 21 [v0, v1, v2, v3, v4] [vR 70, vI x1, vR 71] I = runs cal 229 24 [v0, v1, v2, v3, v4] [vR 85, vI x1, vR 71] I := st_getR (ins_of mI_229 (by rfl)) mC_229 (by decide) fr_11_55 cT_70 (wdc wid_229 wd_70) rfl rfl
theorem r229_24 : runs cal 229 24 [v0, vI w, v2, v3, v4] [vR 85, vI x1, vR 71] I = runs cal 229 25 [v0, vI w, v2, v3, v4] [vI w, vR 85, vI x1, vR 71] I := runs_to (ins_of mI_229 (by rfl)) rfl rfl
theorem r229_25 : runs cal 229 25 [v0, v1, v2, v3, v4] [vI x0, vR 85, vI x2, vR 71] I = if 0 ≤ x0 ∧ x0 < 26 then runs cal 229 26 [v0, v1, v2, v3, v4] [vI (I 85 x0), vI x2, vR 71] I else none := st_iald (ins_of mI_229 (by rfl)) cT_85 (wdc wid_229 wd_85)
theorem r229_26 : runs cal 229 26 [v0, v1, v2, v3, v4] [vI x0, vI x1, vR 71] I = if 0 ≤ x1 ∧ x1 < 110 then runs cal 229 27 [v0, v1, v2, v3, v4] [] (mset I 71 x1 x0) else none := st_iast (ins_of mI_229 (by rfl)) cT_71 (wdc wid_229 wd_71)
theorem r229_27 : runs cal 229 27 [vR 70, v1, v2, v3, v4] [] I = runs cal 229 28 [vR 70, v1, v2, v3, v4] [vR 70] I := runs_to (ins_of mI_229 (by rfl)) rfl rfl
theorem r229_28 : runs cal 229 28 [v0, v1, v2, v3, v4] [vR 70] I = runs cal 229 31 [v0, v1, v2, v3, v4] [vR 85] I := st_getR (ins_of mI_229 (by rfl)) mC_229 (by decide) fr_11_55 cT_70 (wdc wid_229 wd_70) rfl rfl
theorem r229_31 : runs cal 229 31 [v0, vI w, v2, v3, v4] [vR 85] I = runs cal 229 32 [v0, vI w, v2, v3, v4] [vI w, vR 85] I := runs_to (ins_of mI_229 (by rfl)) rfl rfl
theorem r229_32 : runs cal 229 32 [v0, v1, vI w, v3, v4] [vI x0, vR 85] I = runs cal 229 33 [v0, v1, vI w, v3, v4] [vI w, vI x0, vR 85] I := runs_to (ins_of mI_229 (by rfl)) rfl rfl
theorem r229_33 : runs cal 229 33 [v0, v1, v2, v3, v4] [vI x0, vI x1, vR 85] I = if 0 ≤ x1 ∧ x1 < 26 then runs cal 229 34 [v0, v1, v2, v3, v4] [] (mset I 85 x1 x0) else none := st_iast (ins_of mI_229 (by rfl)) cT_85 (wdc wid_229 wd_85)
theorem r229_34 : runs cal 229 34 [vR b0, vI w, v2, v3, v4] [] I = runs cal 229 37 [vR b0, vI (iadd w (1)), v2, v3, v4] [] I := runs_to (ins_of mI_229 (by rfl)) rfl rfl
theorem r229_37 : runs cal 229 37 [v0, v1, v2, v3, v4] [] I = runs cal 229 2 [v0, v1, v2, v3, v4] [] I := st_goto (ins_of mI_229 (by rfl)) (by decide)
theorem r229_40 : runs cal 229 40 [vR 70, v1, v2, v3, v4] [] I = runs cal 229 41 [vR 70, v1, v2, v3, v4] [vR 70] I := runs_to (ins_of mI_229 (by rfl)) rfl rfl
theorem r229_41 : runs cal 229 41 [v0, v1, v2, v3, v4] [vR 70] I = (cal 159 [vR 70] I).bind (fun q => runs cal 229 44 [v0, v1, v2, v3, v4] (pushR q.1 []) q.2) := st_call (st := false) (ins_of mI_229 (by rfl)) mC_229 mr_11_117 (by decide) mS_159 mN_159 rfl (Nat.le_of_ble_eq_true rfl) rfl rfl (Or.inr ⟨_, _, rfl, rcv mC_159 rfl wid_229 (by decide +kernel)⟩) (Or.inl (wid_229.trans wid_159.symm))
theorem r229_44 : runs cal 229 44 [vR b0, v1, v2, v3, v4] [vI x0] I = runs cal 229 45 [vR b0, vI x0, v2, v3, v4] [] I := runs_to (ins_of mI_229 (by rfl)) rfl rfl
theorem r229_45 : runs cal 229 45 [vR 70, v1, v2, v3, v4] [] I = runs cal 229 46 [vR 70, v1, v2, v3, v4] [vR 70] I := runs_to (ins_of mI_229 (by rfl)) rfl rfl
theorem r229_46 : runs cal 229 46 [v0, v1, v2, v3, v4] [vR 70] I = (cal 160 [vR 70] I).bind (fun q => runs cal 229 49 [v0, v1, v2, v3, v4] (pushR q.1 []) q.2) := st_call (st := false) (ins_of mI_229 (by rfl)) mC_229 mr_11_125 (by decide) mS_160 mN_160 rfl (Nat.le_of_ble_eq_true rfl) rfl rfl (Or.inr ⟨_, _, rfl, rcv mC_160 rfl wid_229 (by decide +kernel)⟩) (Or.inl (wid_229.trans wid_160.symm))
theorem r229_49 : runs cal 229 49 [v0, vI u, v2, v3, v4] [vI x0] I = runs cal 229 50 [v0, vI u, vI x0, v3, v4] [] I := runs_to (ins_of mI_229 (by rfl)) rfl rfl
theorem r229_50 : runs cal 229 50 [vR 70, v1, v2, v3, v4] [] I = runs cal 229 51 [vR 70, v1, v2, v3, v4] [vR 70] I := runs_to (ins_of mI_229 (by rfl)) rfl rfl
theorem r229_51 : runs cal 229 51 [v0, v1, v2, v3, v4] [vR 70] I = runs cal 229 54 [v0, v1, v2, v3, v4] [vR 71] I := st_getR (ins_of mI_229 (by rfl)) mC_229 (by decide) fr_11_7 cT_70 (wdc wid_229 wd_70) rfl rfl
theorem r229_54 : runs cal 229 54 [v0, v1, v2, v3, v4] [vR 71] I = runs cal 229 56 [v0, v1, v2, v3, v4] [vI (67), vR 71] I := runs_to (ins_of mI_229 (by rfl)) rfl rfl
theorem r229_56 : runs cal 229 56 [vR 70, v1, v2, v3, v4] [vI x0, vR 71] I = runs cal 229 57 [vR 70, v1, v2, v3, v4] [vR 70, vI x0, vR 71] I := runs_to (ins_of mI_229 (by rfl)) rfl rfl
theorem r229_57 : runs cal 229 57 [v0, v1, v2, v3, v4] [vR 70, vI x1, vR 71] I = runs cal 229 60 [v0, v1, v2, v3, v4] [vI (I 70 26), vI x1, vR 71] I := st_getI (ins_of mI_229 (by rfl)) mC_229 (by decide) fr_11_342 cT_70 (wdc wid_229 wd_70) (Or.inl rfl)
theorem r229_60 : runs cal 229 60 [v0, v1, v2, v3, v4] [vI x0, vI x1, vR 71] I = if 0 ≤ x1 ∧ x1 < 110 then runs cal 229 61 [v0, v1, v2, v3, v4] [] (mset I 71 x1 x0) else none := st_iast (ins_of mI_229 (by rfl)) cT_71 (wdc wid_229 wd_71)
theorem r229_61 : runs cal 229 61 [vR 70, v1, v2, v3, v4] [] I = runs cal 229 62 [vR 70, v1, v2, v3, v4] [vR 70] I := runs_to (ins_of mI_229 (by rfl)) rfl rfl
theorem r229_62 : runs cal 229 62 [v0, v1, v2, v3, v4] [vR 70] I = runs cal 229 65 [v0, v1, v2, v3, v4] [vR 71] I := st_getR (ins_of mI_229 (by rfl)) mC_229 (by decide) fr_11_7 cT_70 (wdc wid_229 wd_70) rfl rfl
theorem r229_65 : runs cal 229 65 [v0, v1, v2, v3, v4] [vR 71] I = runs cal 229 67 [v0, v1, v2, v3, v4] [vI (68), vR 71] I := runs_to (ins_of mI_229 (by rfl)) rfl rfl
theorem r229_67 : runs cal 229 67 [vR 70, v1, v2, v3, v4] [vI x0, vR 71] I = runs cal 229 68 [vR 70, v1, v2, v3, v4] [vR 70, vI x0, vR 71] I := runs_to (ins_of mI_229 (by rfl)) rfl rfl
theorem r229_68 : runs cal 229 68 [v0, v1, v2, v3, v4] [vR 70, vI x1, vR 71] I = runs cal 229 71 [v0, v1, v2, v3, v4] [vI (I 70 27), vI x1, vR 71] I := st_getI (ins_of mI_229 (by rfl)) mC_229 (by decide) fr_11_345 cT_70 (wdc wid_229 wd_70) (Or.inl rfl)
theorem r229_71 : runs cal 229 71 [v0, v1, v2, v3, v4] [vI x0, vI x1, vR 71] I = if 0 ≤ x1 ∧ x1 < 110 then runs cal 229 72 [v0, v1, v2, v3, v4] [] (mset I 71 x1 x0) else none := st_iast (ins_of mI_229 (by rfl)) cT_71 (wdc wid_229 wd_71)
theorem r229_72 : runs cal 229 72 [vR 70, v1, v2, v3, v4] [] I = runs cal 229 73 [vR 70, v1, v2, v3, v4] [vR 70] I := runs_to (ins_of mI_229 (by rfl)) rfl rfl
theorem r229_73 : runs cal 229 73 [v0, v1, v2, v3, v4] [vR 70] I = (cal 164 [vR 70] I).bind (fun q => runs cal 229 76 [v0, v1, v2, v3, v4] (pushR q.1 []) q.2) := st_call (st := false) (ins_of mI_229 (by rfl)) mC_229 mr_11_230 (by decide) mS_164 mN_164 rfl (Nat.le_of_ble_eq_true rfl) rfl rfl (Or.inr ⟨_, _, rfl, rcv mC_164 rfl wid_229 (by decide +kernel)⟩) (Or.inl (wid_229.trans wid_164.symm))
theorem r229_76 : runs cal 229 76 [vR 70, v1, v2, v3, v4] [] I = runs cal 229 77 [vR 70, v1, v2, v3, v4] [vR 70] I := runs_to (ins_of mI_229 (by rfl)) rfl rfl
theorem r229_77 : runs cal 229 77 [v0, v1, v2, v3, v4] [vR 70] I = (cal 176 [vR 70] I).bind (fun q => runs cal 229 80 [v0, v1, v2, v3, v4] (pushR q.1 []) q.2) := st_call (st := false) (ins_of mI_229 (by rfl)) mC_229 mr_11_222 (by decide) mS_176 mN_176 rfl (Nat.le_of_ble_eq_true rfl) rfl rfl (Or.inr ⟨_, _, rfl, rcv mC_176 rfl wid_229 (by decide +kernel)⟩) (Or.inl (wid_229.trans wid_176.symm))
theorem r229_80 : runs cal 229 80 [v0, v1, vI u, v3, v4] [vI x0] I = runs cal 229 81 [v0, v1, vI u, vI x0, v4] [] I := runs_to (ins_of mI_229 (by rfl)) rfl rfl
theorem r229_81 : runs cal 229 81 [v0, v1, v2, vI w, v4] [] I = runs cal 229 82 [v0, v1, v2, vI w, v4] [vI w] I := runs_to (ins_of mI_229 (by rfl)) rfl rfl
theorem r229_82 : runs cal 229 82 [v0, v1, v2, v3, v4] [vI x0] I = if x0 = 0 then runs cal 229 95 [v0, v1, v2, v3, v4] [] I else runs cal 229 85 [v0, v1, v2, v3, v4] [] I := st_if_eq (ins_of mI_229 (by rfl)) (by decide)
theorem r229_85 : runs cal 229 85 [vR 70, v1, v2, v3, v4] [] I = runs cal 229 86 [vR 70, v1, v2, v3, v4] [vR 70] I := runs_to (ins_of mI_229 (by rfl)) rfl rfl
theorem r229_86 : runs cal 229 86 [v0, v1, v2, v3, v4] [vR 70] I = runs cal 229 89 [v0, v1, v2, v3, v4] [vR 71] I := st_getR (ins_of mI_229 (by rfl)) mC_229 (by decide) fr_11_7 cT_70 (wdc wid_229 wd_70) rfl rfl
theorem r229_89 : runs cal 229 89 [v0, v1, v2, v3, v4] [vR 71] I = runs cal 229 91 [v0, v1, v2, v3, v4] [vI (69), vR 71] I := runs_to (ins_of mI_229 (by rfl)) rfl rfl
theorem r229_91 : runs cal 229 91 [v0, v1, v2, v3, v4] [vI x0, vR 71] I = runs cal 229 92 [v0, v1, v2, v3, v4] [vI (0), vI x0, vR 71] I := runs_to (ins_of mI_229 (by rfl)) rfl rfl
theorem r229_92 : runs cal 229 92 [v0, v1, v2, v3, v4] [vI x0, vI x1, vR 71] I = if 0 ≤ x1 ∧ x1 < 110 then runs cal 229 93 [v0, v1, v2, v3, v4] [] (mset I 71 x1 x0) else none := st_iast (ins_of mI_229 (by rfl)) cT_71 (wdc wid_229 wd_71)
theorem r229_93 : runs cal 229 93 [v0, v1, v2, v3, v4] [] I = runs cal 229 94 [v0, v1, v2, v3, v4] [vI (1)] I := runs_to (ins_of mI_229 (by rfl)) rfl rfl
theorem r229_94 : runs cal 229 94 [v0, v1, v2, v3, v4] [vI x0] I = if x0 = 0 ∨ x0 = 1 then some (some (vI x0), I) else none := st_retZ (ins_of mI_229 (by rfl)) mR_229 (Or.inl rfl)
theorem r229_95 : runs cal 229 95 [vR 70, v1, v2, v3, v4] [] I = runs cal 229 96 [vR 70, v1, v2, v3, v4] [vR 70] I := runs_to (ins_of mI_229 (by rfl)) rfl rfl
theorem r229_96 : runs cal 229 96 [v0, v1, v2, v3, v4] [vR 70] I = runs cal 229 99 [v0, v1, v2, v3, v4] [vR 71] I := st_getR (ins_of mI_229 (by rfl)) mC_229 (by decide) fr_11_7 cT_70 (wdc wid_229 wd_70) rfl rfl
theorem r229_99 : runs cal 229 99 [v0, v1, v2, v3, v4] [vR 71] I = runs cal 229 101 [v0, v1, v2, v3, v4] [vI (67), vR 71] I := runs_to (ins_of mI_229 (by rfl)) rfl rfl
theorem r229_101 : runs cal 229 101 [v0, vI w, v2, v3, v4] [vI x0, vR 71] I = runs cal 229 102 [v0, vI w, v2, v3, v4] [vI w, vI x0, vR 71] I := runs_to (ins_of mI_229 (by rfl)) rfl rfl
theorem r229_102 : runs cal 229 102 [v0, v1, v2, v3, v4] [vI x0, vI x1, vR 71] I = if 0 ≤ x1 ∧ x1 < 110 then runs cal 229 103 [v0, v1, v2, v3, v4] [] (mset I 71 x1 x0) else none := st_iast (ins_of mI_229 (by rfl)) cT_71 (wdc wid_229 wd_71)
theorem r229_103 : runs cal 229 103 [vR 70, v1, v2, v3, v4] [] I = runs cal 229 104 [vR 70, v1, v2, v3, v4] [vR 70] I := runs_to (ins_of mI_229 (by rfl)) rfl rfl
theorem r229_104 : runs cal 229 104 [v0, v1, v2, v3, v4] [vR 70] I = runs cal 229 107 [v0, v1, v2, v3, v4] [vR 71] I := st_getR (ins_of mI_229 (by rfl)) mC_229 (by decide) fr_11_7 cT_70 (wdc wid_229 wd_70) rfl rfl
theorem r229_107 : runs cal 229 107 [v0, v1, v2, v3, v4] [vR 71] I = runs cal 229 109 [v0, v1, v2, v3, v4] [vI (68), vR 71] I := runs_to (ins_of mI_229 (by rfl)) rfl rfl
theorem r229_109 : runs cal 229 109 [v0, v1, vI w, v3, v4] [vI x0, vR 71] I = runs cal 229 110 [v0, v1, vI w, v3, v4] [vI w, vI x0, vR 71] I := runs_to (ins_of mI_229 (by rfl)) rfl rfl
theorem r229_110 : runs cal 229 110 [v0, v1, v2, v3, v4] [vI x0, vI x1, vR 71] I = if 0 ≤ x1 ∧ x1 < 110 then runs cal 229 111 [v0, v1, v2, v3, v4] [] (mset I 71 x1 x0) else none := st_iast (ins_of mI_229 (by rfl)) cT_71 (wdc wid_229 wd_71)
theorem r229_111 : runs cal 229 111 [v0, v1, v2, v3, v4] [] I = runs cal 229 112 [v0, v1, v2, v3, v4] [vI (0)] I := runs_to (ins_of mI_229 (by rfl)) rfl rfl
theorem r229_112 : runs cal 229 112 [v0, v1, v2, vI u, v4] [vI x0] I = runs cal 229 114 [v0, v1, v2, vI u, vI x0] [] I := runs_to (ins_of mI_229 (by rfl)) rfl rfl
theorem r229_114 : runs cal 229 114 [v0, v1, v2, v3, vI w] [] I = runs cal 229 116 [v0, v1, v2, v3, vI w] [vI w] I := runs_to (ins_of mI_229 (by rfl)) rfl rfl
theorem r229_116 : runs cal 229 116 [v0, v1, v2, v3, v4] [vI x0] I = runs cal 229 118 [v0, v1, v2, v3, v4] [vI (26), vI x0] I := runs_to (ins_of mI_229 (by rfl)) rfl rfl
theorem r229_118 : runs cal 229 118 [v0, v1, v2, v3, v4] [vI x0, vI x1] I = if x1 < x0 then runs cal 229 121 [v0, v1, v2, v3, v4] [] I else runs cal 229 141 [v0, v1, v2, v3, v4] [] I := st_cmp_ge (ins_of mI_229 (by rfl)) (by decide)
theorem r229_121 : runs cal 229 121 [vR 70, v1, v2, v3, v4] [] I = runs cal 229 122 [vR 70, v1, v2, v3, v4] [vR 70] I := runs_to (ins_of mI_229 (by rfl)) rfl rfl
theorem r229_122 : runs cal 229 122 [v0, v1, v2, v3, v4] [vR 70] I = runs cal 229 125 [v0, v1, v2, v3, v4] [vR 71] I := st_getR (ins_of mI_229 (by rfl)) mC_229 (by decide) fr_11_7 cT_70 (wdc wid_229 wd_70) rfl rfl
theorem r229_125 : runs cal 229 125 [v0, v1, v2, v3, vI w] [vR 71] I = runs cal 229 127 [v0, v1, v2, v3, vI w] [vI w, vR 71] I := runs_to (ins_of mI_229 (by rfl)) rfl rfl
theorem r229_127 : runs cal 229 127 [vR 70, v1, v2, v3, v4] [vI x0, vR 71] I = runs cal 229 128 [vR 70, v1, v2, v3, v4] [vR 70, vI x0, vR 71] I := runs_to (ins_of mI_229 (by rfl)) rfl rfl
theorem r229_128 : runs cal 229 128 [v0, v1, v2, v3, v4] [vR 70, vI x1, vR 71] I = runs cal 229 131 [v0, v1, v2, v3, v4] [vR 85, vI x1, vR 71] I := st_getR (ins_of mI_229 (by rfl)) mC_229 (by decide) fr_11_55 cT_70 (wdc wid_229 wd_70) rfl rfl
theorem r229_131 : runs cal 229 131 [v0, v1, v2, v3, vI w] [vR 85, vI x1, vR 71] I = runs cal 229 133 [v0, v1, v2, v3, vI w] [vI w, vR 85, vI x1, vR 71] I := runs_to (ins_of mI_229 (by rfl)) rfl rfl
theorem r229_133 : runs cal 229 133 [v0, v1, v2, v3, v4] [vI x0, vR 85, vI x2, vR 71] I = if 0 ≤ x0 ∧ x0 < 26 then runs cal 229 134 [v0, v1, v2, v3, v4] [vI (I 85 x0), vI x2, vR 71] I else none := st_iald (ins_of mI_229 (by rfl)) cT_85 (wdc wid_229 wd_85)
theorem r229_134 : runs cal 229 134 [v0, v1, v2, v3, v4] [vI x0, vI x1, vR 71] I = if 0 ≤ x1 ∧ x1 < 110 then runs cal 229 135 [v0, v1, v2, v3, v4] [] (mset I 71 x1 x0) else none := st_iast (ins_of mI_229 (by rfl)) cT_71 (wdc wid_229 wd_71)
theorem r229_135 : runs cal 229 135 [v0, v1, v2, vI u, vI w] [] I = runs cal 229 138 [v0, v1, v2, vI u, vI (iadd w (1))] [] I := runs_to (ins_of mI_229 (by rfl)) rfl rfl
theorem r229_138 : runs cal 229 138 [v0, v1, v2, v3, v4] [] I = runs cal 229 114 [v0, v1, v2, v3, v4] [] I := st_goto (ins_of mI_229 (by rfl)) (by decide)
theorem r229_141 : runs cal 229 141 [v0, v1, v2, v3, v4] [] I = runs cal 229 142 [v0, v1, v2, v3, v4] [vI (0)] I := runs_to (ins_of mI_229 (by rfl)) rfl rfl
theorem r229_142 : runs cal 229 142 [v0, v1, v2, v3, v4] [vI x0] I = if x0 = 0 ∨ x0 = 1 then some (some (vI x0), I) else none := st_retZ (ins_of mI_229 (by rfl)) mR_229 (Or.inl rfl)
theorem r230_0 : runs cal 230 0 [v0, vI w] [] I = runs cal 230 1 [v0, vI w] [vI w] I := runs_to (ins_of mI_230 (by rfl)) rfl rfl
theorem r230_1 : runs cal 230 1 [v0, v1] [vI x0] I = runs cal 230 2 [v0, v1] [vL x0] I := runs_to (ins_of mI_230 (by rfl)) rfl rfl
theorem r230_2 : runs cal 230 2 [v0, v1] [vL x0] I = runs cal 230 3 [v0, v1] [vL 0, vL x0] I := runs_to (ins_of mI_230 (by rfl)) rfl rfl
theorem r230_3 : runs cal 230 3 [vR 70, v1] [vL x0, vL x1] I = runs cal 230 4 [vR 70, v1] [vR 70, vL x0, vL x1] I := runs_to (ins_of mI_230 (by rfl)) rfl rfl
theorem r230_4 : runs cal 230 4 [v0, v1] [vR 70, vL x1, vL x2] I = (cal 163 [vR 70] I).bind (fun q => runs cal 230 7 [v0, v1] (pushR q.1 [vL x1, vL x2]) q.2) := st_call (st := false) (ins_of mI_230 (by rfl)) mC_230 mr_11_142 (by decide) mS_163 mN_163 rfl (Nat.le_of_ble_eq_true rfl) rfl rfl (Or.inr ⟨_, _, rfl, rcv mC_163 rfl wid_230 (by decide +kernel)⟩) (Or.inl (wid_230.trans wid_163.symm))
theorem r230_7 : runs cal 230 7 [v0, v1] [vI x0, vL x1, vL x2] I = runs cal 230 8 [v0, v1] [vL x0, vL x1, vL x2] I := runs_to (ins_of mI_230 (by rfl)) rfl rfl
theorem r230_8 : runs cal 230 8 [v0, v1] [vL x0, vL x1, vL x2] I = (cal 142 [vL x2, vL x1, vL x0] I).bind (fun q => runs cal 230 11 [v0, v1] (pushR q.1 []) q.2) := st_call (st := true) (ins_of mI_230 (by rfl)) mC_230 mr_11_121 (by decide) mS_142 mN_142 rfl (Nat.le_of_ble_eq_true rfl) rfl rfl (Or.inl rfl) (Or.inl (wid_230.trans wid_142.symm))
theorem r230_11 : runs cal 230 11 [v0, v1] [vI x0] I = if x0 = 0 then runs cal 230 25 [v0, v1] [] I else runs cal 230 14 [v0, v1] [] I := st_if_eq (ins_of mI_230 (by rfl)) (by decide)
theorem r230_14 : runs cal 230 14 [vR 70, v1] [] I = runs cal 230 15 [vR 70, v1] [vR 70] I := runs_to (ins_of mI_230 (by rfl)) rfl rfl
theorem r230_15 : runs cal 230 15 [v0, v1] [vR 70] I = runs cal 230 18 [v0, v1] [vR 71] I := st_getR (ins_of mI_230 (by rfl)) mC_230 (by decide) fr_11_7 cT_70 (wdc wid_230 wd_70) rfl rfl
theorem r230_18 : runs cal 230 18 [v0, v1] [vR 71] I = runs cal 230 19 [v0, v1] [vI (0), vR 71] I := runs_to (ins_of mI_230 (by rfl)) rfl rfl
theorem r230_19 : runs cal 230 19 [v0, vI w] [vI x0, vR 71] I = runs cal 230 20 [v0, vI w] [vI w, vI x0, vR 71] I := runs_to (ins_of mI_230 (by rfl)) rfl rfl
theorem r230_20 : runs cal 230 20 [v0, v1] [vI x0, vI x1, vR 71] I = runs cal 230 21 [v0, v1] [vI (iadd x1 x0), vR 71] I := runs_to (ins_of mI_230 (by rfl)) rfl rfl
theorem r230_21 : runs cal 230 21 [v0, v1] [vI x0, vR 71] I = if 0 ≤ x0 ∧ x0 < 110 then runs cal 230 22 [v0, v1] [vI (I 71 x0)] I else none := st_iald (ins_of mI_230 (by rfl)) cT_71 (wdc wid_230 wd_71)
theorem r230_22 : runs cal 230 22 [v0, v1] [vI x0] I = runs cal 230 31 [v0, v1] [vI x0] I := st_goto (ins_of mI_230 (by rfl)) (by decide)
theorem r230_25 : runs cal 230 25 [vR 70, v1] [] I = runs cal 230 26 [vR 70, v1] [vR 70] I := runs_to (ins_of mI_230 (by rfl)) rfl rfl
theorem r230_26 : runs cal 230 26 [v0, v1] [vR 70] I = runs cal 230 28 [v0, v1] [vI (-2), vR 70] I := runs_to (ins_of mI_230 (by rfl)) rfl rfl
theorem r230_28 : runs cal 230 28 [v0, v1] [vI x0, vR 70] I = (cal 143 [vR 70, vI x0] I).bind (fun q => runs cal 230 31 [v0, v1] (pushR q.1 []) q.2) := st_call (st := false) (ins_of mI_230 (by rfl)) mC_230 mr_11_251 (by decide) mS_143 mN_143 rfl (Nat.le_of_ble_eq_true rfl) rfl rfl (Or.inr ⟨_, _, rfl, rcv mC_143 rfl wid_230 (by decide +kernel)⟩) (Or.inl (wid_230.trans wid_143.symm))
theorem r230_31 : runs cal 230 31 [v0, v1] [vI x0] I = some (some (vI x0), I) := st_ret (q := some (vI x0)) (k := 0) (ins_of mI_230 (by rfl)) rfl (by decide) mR_230 rfl trivial
theorem r231_0 : runs cal 231 0 [v0, vI w] [] I = runs cal 231 1 [v0, vI w] [vI w] I := runs_to (ins_of mI_231 (by rfl)) rfl rfl
theorem r231_1 : runs cal 231 1 [v0, v1] [vI x0] I = runs cal 231 2 [v0, v1] [vL x0] I := runs_to (ins_of mI_231 (by rfl)) rfl rfl
theorem r231_2 : runs cal 231 2 [v0, v1] [vL x0] I = runs cal 231 3 [v0, v1] [vL 0, vL x0] I := runs_to (ins_of mI_231 (by rfl)) rfl rfl
theorem r231_3 : runs cal 231 3 [vR 70, v1] [vL x0, vL x1] I = runs cal 231 4 [vR 70, v1] [vR 70, vL x0, vL x1] I := runs_to (ins_of mI_231 (by rfl)) rfl rfl
theorem r231_4 : runs cal 231 4 [v0, v1] [vR 70, vL x1, vL x2] I = (cal 163 [vR 70] I).bind (fun q => runs cal 231 7 [v0, v1] (pushR q.1 [vL x1, vL x2]) q.2) := st_call (st := false) (ins_of mI_231 (by rfl)) mC_231 mr_11_142 (by decide) mS_163 mN_163 rfl (Nat.le_of_ble_eq_true rfl) rfl rfl (Or.inr ⟨_, _, rfl, rcv mC_163 rfl wid_231 (by decide +kernel)⟩) (Or.inl (wid_231.trans wid_163.symm))
theorem r231_7 : runs cal 231 7 [v0, v1] [vI x0, vL x1, vL x2] I = runs cal 231 8 [v0, v1] [vL x0, vL x1, vL x2] I := runs_to (ins_of mI_231 (by rfl)) rfl rfl
theorem r231_8 : runs cal 231 8 [v0, v1] [vL x0, vL x1, vL x2] I = (cal 142 [vL x2, vL x1, vL x0] I).bind (fun q => runs cal 231 11 [v0, v1] (pushR q.1 []) q.2) := st_call (st := true) (ins_of mI_231 (by rfl)) mC_231 mr_11_121 (by decide) mS_142 mN_142 rfl (Nat.le_of_ble_eq_true rfl) rfl rfl (Or.inl rfl) (Or.inl (wid_231.trans wid_142.symm))
theorem r231_11 : runs cal 231 11 [v0, v1] [vI x0] I = if x0 = 0 then runs cal 231 14 [v0, v1] [] I else runs cal 231 21 [v0, v1] [] I := st_if_ne (ins_of mI_231 (by rfl)) (by decide)
theorem r231_14 : runs cal 231 14 [vR 70, v1] [] I = runs cal 231 15 [vR 70, v1] [vR 70] I := runs_to (ins_of mI_231 (by rfl)) rfl rfl
theorem r231_15 : runs cal 231 15 [v0, v1] [vR 70] I = runs cal 231 17 [v0, v1] [vI (-2), vR 70] I := runs_to (ins_of mI_231 (by rfl)) rfl rfl
theorem r231_17 : runs cal 231 17 [v0, v1] [vI x0, vR 70] I = (cal 143 [vR 70, vI x0] I).bind (fun q => runs cal 231 20 [v0, v1] (pushR q.1 []) q.2) := st_call (st := false) (ins_of mI_231 (by rfl)) mC_231 mr_11_251 (by decide) mS_143 mN_143 rfl (Nat.le_of_ble_eq_true rfl) rfl rfl (Or.inr ⟨_, _, rfl, rcv mC_143 rfl wid_231 (by decide +kernel)⟩) (Or.inl (wid_231.trans wid_143.symm))
theorem r231_20 : runs cal 231 20 [v0, v1] [vI x0] I = some (some (vI x0), I) := st_ret (q := some (vI x0)) (k := 0) (ins_of mI_231 (by rfl)) rfl (by decide) mR_231 rfl trivial
theorem r231_21 : runs cal 231 21 [vR 70, v1] [] I = runs cal 231 22 [vR 70, v1] [vR 70] I := runs_to (ins_of mI_231 (by rfl)) rfl rfl
theorem r231_22 : runs cal 231 22 [v0, v1] [vR 70] I = (cal 164 [vR 70] I).bind (fun q => runs cal 231 25 [v0, v1] (pushR q.1 []) q.2) := st_call (st := false) (ins_of mI_231 (by rfl)) mC_231 mr_11_230 (by decide) mS_164 mN_164 rfl (Nat.le_of_ble_eq_true rfl) rfl rfl (Or.inr ⟨_, _, rfl, rcv mC_164 rfl wid_231 (by decide +kernel)⟩) (Or.inl (wid_231.trans wid_164.symm))
theorem r231_25 : runs cal 231 25 [vR 70, v1] [] I = runs cal 231 26 [vR 70, v1] [vR 70] I := runs_to (ins_of mI_231 (by rfl)) rfl rfl
theorem r231_26 : runs cal 231 26 [v0, vI w] [vR 70] I = runs cal 231 27 [v0, vI w] [vI w, vR 70] I := runs_to (ins_of mI_231 (by rfl)) rfl rfl
theorem r231_27 : runs cal 231 27 [v0, v1] [vI x0, vR 70] I = (cal 172 [vR 70, vI x0] I).bind (fun q => runs cal 231 30 [v0, v1] (pushR q.1 []) q.2) := st_call (st := false) (ins_of mI_231 (by rfl)) mC_231 mr_11_154 (by decide) mS_172 mN_172 rfl (Nat.le_of_ble_eq_true rfl) rfl rfl (Or.inr ⟨_, _, rfl, rcv mC_172 rfl wid_231 (by decide +kernel)⟩) (Or.inl (wid_231.trans wid_172.symm))
theorem r231_30 : runs cal 231 30 [v0, v1] [vI x0] I = if x0 = 0 then runs cal 231 37 [v0, v1] [] I else runs cal 231 33 [v0, v1] [] I := st_if_eq (ins_of mI_231 (by rfl)) (by decide)
theorem r231_33 : runs cal 231 33 [v0, v1] [] I = runs cal 231 34 [v0, v1] [vI (1)] I := runs_to (ins_of mI_231 (by rfl)) rfl rfl
theorem r231_34 : runs cal 231 34 [v0, v1] [vI x0] I = runs cal 231 38 [v0, v1] [vI x0] I := st_goto (ins_of mI_231 (by rfl)) (by decide)
theorem r231_37 : runs cal 231 37 [v0, v1] [] I = runs cal 231 38 [v0, v1] [vI (0)] I := runs_to (ins_of mI_231 (by rfl)) rfl rfl
theorem r231_38 : runs cal 231 38 [v0, v1] [vI x0] I = some (some (vI x0), I) := st_ret (q := some (vI x0)) (k := 0) (ins_of mI_231 (by rfl)) rfl (by decide) mR_231 rfl trivial
theorem r232_0 : runs cal 232 0 [vR 70, v1, v2] [] I = runs cal 232 1 [vR 70, v1, v2] [vR 70] I := runs_to (ins_of mI_232 (by rfl)) rfl rfl
theorem r232_1 : runs cal 232 1 [v0, vI w, v2] [vR 70] I = runs cal 232 2 [v0, vI w, v2] [vI w, vR 70] I := runs_to (ins_of mI_232 (by rfl)) rfl rfl
theorem r232_2 : runs cal 232 2 [v0, v1, v2] [vI x0, vR 70] I = (cal 161 [vR 70, vI x0] I).bind (fun q => runs cal 232 5 [v0, v1, v2] (pushR q.1 []) q.2) := st_call (st := false) (ins_of mI_232 (by rfl)) mC_232 mr_11_169 (by decide) mS_161 mN_161 rfl (Nat.le_of_ble_eq_true rfl) rfl rfl (Or.inr ⟨_, _, rfl, rcv mC_161 rfl wid_232 (by decide +kernel)⟩) (Or.inl (wid_232.trans wid_161.symm))
theorem r232_5 : runs cal 232 5 [v0, v1, v2] [vI x0] I = if x0 = 0 then runs cal 232 20 [v0, v1, v2] [] I else runs cal 232 8 [v0, v1, v2] [] I := st_if_eq (ins_of mI_232 (by rfl)) (by decide)
theorem r232_8 : runs cal 232 8 [v0, v1, vI w] [] I = runs cal 232 9 [v0, v1, vI w] [vI w] I := runs_to (ins_of mI_232 (by rfl)) rfl rfl
theorem r232_9 : runs cal 232 9 [v0, v1, v2] [vI x0] I = runs cal 232 10 [v0, v1, v2] [vL x0] I := runs_to (ins_of mI_232 (by rfl)) rfl rfl
theorem r232_10 : runs cal 232 10 [v0, v1, v2] [vL x0] I = runs cal 232 11 [v0, v1, v2] [vL 0, vL x0] I := runs_to (ins_of mI_232 (by rfl)) rfl rfl
theorem r232_11 : runs cal 232 11 [v0, v1, v2] [vL x0, vL x1] I = runs cal 232 14 [v0, v1, v2] [vL (3), vL x0, vL x1] I := runs_to (ins_of mI_232 (by rfl)) rfl (by simp only [stepI, ldk2, mC_232]; rfl)
theorem r232_14 : runs cal 232 14 [v0, v1, v2] [vL x0, vL x1, vL x2] I = (cal 142 [vL x2, vL x1, vL x0] I).bind (fun q => runs cal 232 17 [v0, v1, v2] (pushR q.1 []) q.2) := st_call (st := true) (ins_of mI_232 (by rfl)) mC_232 mr_11_121 (by decide) mS_142 mN_142 rfl (Nat.le_of_ble_eq_true rfl) rfl rfl (Or.inl rfl) (Or.inl (wid_232.trans wid_142.symm))
theorem r232_17 : runs cal 232 17 [v0, v1, v2] [vI x0] I = if x0 = 0 then runs cal 232 20 [v0, v1, v2] [] I else runs cal 232 27 [v0, v1, v2] [] I := st_if_ne (ins_of mI_232 (by rfl)) (by decide)
theorem r232_20 : runs cal 232 20 [vR 70, v1, v2] [] I = runs cal 232 21 [vR 70, v1, v2] [vR 70] I := runs_to (ins_of mI_232 (by rfl)) rfl rfl
theorem r232_21 : runs cal 232 21 [v0, v1, v2] [vR 70] I = runs cal 232 23 [v0, v1, v2] [vI (-10), vR 70] I := runs_to (ins_of mI_232 (by rfl)) rfl rfl
theorem r232_23 : runs cal 232 23 [v0, v1, v2] [vI x0, vR 70] I = (cal 143 [vR 70, vI x0] I).bind (fun q => runs cal 232 26 [v0, v1, v2] (pushR q.1 []) q.2) := st_call (st := false) (ins_of mI_232 (by rfl)) mC_232 mr_11_251 (by decide) mS_143 mN_143 rfl (Nat.le_of_ble_eq_true rfl) rfl rfl (Or.inr ⟨_, _, rfl, rcv mC_143 rfl wid_232 (by decide +kernel)⟩) (Or.inl (wid_232.trans wid_143.symm))
theorem r232_26 : runs cal 232 26 [v0, v1, v2] [vI x0] I = some (some (vI x0), I) := st_ret (q := some (vI x0)) (k := 0) (ins_of mI_232 (by rfl)) rfl (by decide) mR_232 rfl trivial
theorem r232_27 : runs cal 232 27 [vR 70, v1, v2] [] I = runs cal 232 28 [vR 70, v1, v2] [vR 70] I := runs_to (ins_of mI_232 (by rfl)) rfl rfl
theorem r232_28 : runs cal 232 28 [v0, v1, v2] [vR 70] I = (cal 164 [vR 70] I).bind (fun q => runs cal 232 31 [v0, v1, v2] (pushR q.1 []) q.2) := st_call (st := false) (ins_of mI_232 (by rfl)) mC_232 mr_11_230 (by decide) mS_164 mN_164 rfl (Nat.le_of_ble_eq_true rfl) rfl rfl (Or.inr ⟨_, _, rfl, rcv mC_164 rfl wid_232 (by decide +kernel)⟩) (Or.inl (wid_232.trans wid_164.symm))
theorem r232_31 : runs cal 232 31 [v0, v1, vI w] [] I = runs cal 232 32 [v0, v1, vI w] [vI w] I := runs_to (ins_of mI_232 (by rfl)) rfl rfl
theorem r232_32 : runs cal 232 32 [v0, v1, v2] [vI x0] I = if x0 = 0 then runs cal 232 35 [v0, v1, v2] [] I else runs cal 232 44 [v0, v1, v2] [] I := st_if_ne (ins_of mI_232 (by rfl)) (by decide)
theorem r232_35 : runs cal 232 35 [vR 70, v1, v2] [] I = runs cal 232 36 [vR 70, v1, v2] [vR 70] I := runs_to (ins_of mI_232 (by rfl)) rfl rfl
theorem r232_36 : runs cal 232 36 [v0, v1, v2] [vR 70] I = runs cal 232 39 [v0, v1, v2] [vR 77] I := st_getR (ins_of mI_232 (by rfl)) mC_232 (by decide) fr_11_30 cT_70 (wdc wid_232 wd_70) rfl rfl
theorem r232_39 : runs cal 232 39 [v0, vI w, v2] [vR 77] I = runs cal 232 40 [v0, vI w, v2] [vI w, vR 77] I := runs_to (ins_of mI_232 (by rfl)) rfl rfl
theorem r232_40 : runs cal 232 40 [v0, v1, v2] [vI x0, vR 77] I = if 0 ≤ x0 ∧ x0 < 3 then runs cal 232 41 [v0, v1, v2] [vI (I 77 x0)] I else none := st_iald (ins_of mI_232 (by rfl)) cT_77 (wdc wid_232 wd_77)
theorem r232_41 : runs cal 232 41 [v0, v1, v2] [vI x0] I = runs cal 232 75 [v0, v1, v2] [vI x0] I := st_goto (ins_of mI_232 (by rfl)) (by decide)
theorem r232_44 : runs cal 232 44 [v0, v1, vI w] [] I = runs cal 232 45 [v0, v1, vI w] [vI w] I := runs_to (ins_of mI_232 (by rfl)) rfl rfl
theorem r232_45 : runs cal 232 45 [v0, v1, v2] [vI x0] I = runs cal 232 46 [v0, v1, v2] [vI (1), vI x0] I := runs_to (ins_of mI_232 (by rfl)) rfl rfl
theorem r232_46 : runs cal 232 46 [v0, v1, v2] [vI x0, vI x1] I = if x1 = x0 then runs cal 232 49 [v0, v1, v2] [] I else runs cal 232 57 [v0, v1, v2] [] I := st_cmp_ne (ins_of mI_232 (by rfl)) (by decide)
theorem r232_49 : runs cal 232 49 [vR 70, v1, v2] [] I = runs cal 232 50 [vR 70, v1, v2] [vR 70] I := runs_to (ins_of mI_232 (by rfl)) rfl rfl
theorem r232_50 : runs cal 232 50 [v0, vI w, v2] [vR 70] I = runs cal 232 51 [v0, vI w, v2] [vI w, vR 70] I := runs_to (ins_of mI_232 (by rfl)) rfl rfl
theorem r232_51 : runs cal 232 51 [v0, v1, v2] [vI x0, vR 70] I = (cal 177 [vR 70, vI x0] I).bind (fun q => runs cal 232 54 [v0, v1, v2] (pushR q.1 []) q.2) := st_call (st := false) (ins_of mI_232 (by rfl)) mC_232 mr_11_163 (by decide) mS_177 mN_177 rfl (Nat.le_of_ble_eq_true rfl) rfl rfl (Or.inr ⟨_, _, rfl, rcv mC_177 rfl wid_232 (by decide +kernel)⟩) (Or.inl (wid_232.trans wid_177.symm))
theorem r232_54 : runs cal 232 54 [v0, v1, v2] [vI x0] I = runs cal 232 75 [v0, v1, v2] [vI x0] I := st_goto (ins_of mI_232 (by rfl)) (by decide)
theorem r232_57 : runs cal 232 57 [v0, v1, vI w] [] I = runs cal 232 58 [v0, v1, vI w] [vI w] I := runs_to (ins_of mI_232 (by rfl)) rfl rfl
theorem r232_58 : runs cal 232 58 [v0, v1, v2] [vI x0] I = runs cal 232 59 [v0, v1, v2] [vI (2), vI x0] I := runs_to (ins_of mI_232 (by rfl)) rfl rfl
theorem r232_59 : runs cal 232 59 [v0, v1, v2] [vI x0, vI x1] I = if x1 = x0 then runs cal 232 62 [v0, v1, v2] [] I else runs cal 232 70 [v0, v1, v2] [] I := st_cmp_ne (ins_of mI_232 (by rfl)) (by decide)
theorem r232_62 : runs cal 232 62 [vR 70, v1, v2] [] I = runs cal 232 63 [vR 70, v1, v2] [vR 70] I := runs_to (ins_of mI_232 (by rfl)) rfl rfl
theorem r232_63 : runs cal 232 63 [v0, vI w, v2] [vR 70] I = runs cal 232 64 [v0, vI w, v2] [vI w, vR 70] I := runs_to (ins_of mI_232 (by rfl)) rfl rfl
theorem r232_64 : runs cal 232 64 [v0, v1, v2] [vI x0, vR 70] I = (cal 173 [vR 70, vI x0] I).bind (fun q => runs cal 232 67 [v0, v1, v2] (pushR q.1 []) q.2) := st_call (st := false) (ins_of mI_232 (by rfl)) mC_232 mr_11_148 (by decide) mS_173 mN_173 rfl (Nat.le_of_ble_eq_true rfl) rfl rfl (Or.inr ⟨_, _, rfl, rcv mC_173 rfl wid_232 (by decide +kernel)⟩) (Or.inl (wid_232.trans wid_173.symm))
theorem r232_67 : runs cal 232 67 [v0, v1, v2] [vI x0] I = runs cal 232 75 [v0, v1, v2] [vI x0] I := st_goto (ins_of mI_232 (by rfl)) (by decide)
theorem r232_70 : runs cal 232 70 [vR 70, v1, v2] [] I = runs cal 232 71 [vR 70, v1, v2] [vR 70] I := runs_to (ins_of mI_232 (by rfl)) rfl rfl
theorem r232_71 : runs cal 232 71 [v0, vI w, v2] [vR 70] I = runs cal 232 72 [v0, vI w, v2] [vI w, vR 70] I := runs_to (ins_of mI_232 (by rfl)) rfl rfl
theorem r232_72 : runs cal 232 72 [v0, v1, v2] [vI x0, vR 70] I = (cal 174 [vR 70, vI x0] I).bind (fun q => runs cal 232 75 [v0, v1, v2] (pushR q.1 []) q.2) := st_call (st := false) (ins_of mI_232 (by rfl)) mC_232 mr_11_151 (by decide) mS_174 mN_174 rfl (Nat.le_of_ble_eq_true rfl) rfl rfl (Or.inr ⟨_, _, rfl, rcv mC_174 rfl wid_232 (by decide +kernel)⟩) (Or.inl (wid_232.trans wid_174.symm))
theorem r232_75 : runs cal 232 75 [v0, v1, v2] [vI x0] I = some (some (vI x0), I) := st_ret (q := some (vI x0)) (k := 0) (ins_of mI_232 (by rfl)) rfl (by decide) mR_232 rfl trivial
theorem r233_0 : runs cal 233 0 [vR 70, v1, v2] [] I = runs cal 233 1 [vR 70, v1, v2] [vR 70] I := runs_to (ins_of mI_233 (by rfl)) rfl rfl
theorem r233_1 : runs cal 233 1 [v0, vI w, v2] [vR 70] I = runs cal 233 2 [v0, vI w, v2] [vI w, vR 70] I := runs_to (ins_of mI_233 (by rfl)) rfl rfl
theorem r233_2 : runs cal 233 2 [v0, v1, v2] [vI x0, vR 70] I = (cal 162 [vR 70, vI x0] I).bind (fun q => runs cal 233 5 [v0, v1, v2] (pushR q.1 []) q.2) := st_call (st := false) (ins_of mI_233 (by rfl)) mC_233 mr_11_181 (by decide) mS_162 mN_162 rfl (Nat.le_of_ble_eq_true rfl) rfl rfl (Or.inr ⟨_, _, rfl, rcv mC_162 rfl wid_233 (by decide +kernel)⟩) (Or.inl (wid_233.trans wid_162.symm))
theorem r233_5 : runs cal 233 5 [v0, v1, v2] [vI x0] I = if x0 = 0 then runs cal 233 20 [v0, v1, v2] [] I else runs cal 233 8 [v0, v1, v2] [] I := st_if_eq (ins_of mI_233 (by rfl)) (by decide)
theorem r233_8 : runs cal 233 8 [v0, v1, vI w] [] I = runs cal 233 9 [v0, v1, vI w] [vI w] I := runs_to (ins_of mI_233 (by rfl)) rfl rfl
theorem r233_9 : runs cal 233 9 [v0, v1, v2] [vI x0] I = runs cal 233 10 [v0, v1, v2] [vL x0] I := runs_to (ins_of mI_233 (by rfl)) rfl rfl
theorem r233_10 : runs cal 233 10 [v0, v1, v2] [vL x0] I = runs cal 233 11 [v0, v1, v2] [vL 0, vL x0] I := runs_to (ins_of mI_233 (by rfl)) rfl rfl
theorem r233_11 : runs cal 233 11 [v0, v1, v2] [vL x0, vL x1] I = runs cal 233 14 [v0, v1, v2] [vL (3), vL x0, vL x1] I := runs_to (ins_of mI_233 (by rfl)) rfl (by simp only [stepI, ldk2, mC_233]; rfl)
theorem r233_14 : runs cal 233 14 [v0, v1, v2] [vL x0, vL x1, vL x2] I = (cal 142 [vL x2, vL x1, vL x0] I).bind (fun q => runs cal 233 17 [v0, v1, v2] (pushR q.1 []) q.2) := st_call (st := true) (ins_of mI_233 (by rfl)) mC_233 mr_11_121 (by decide) mS_142 mN_142 rfl (Nat.le_of_ble_eq_true rfl) rfl rfl (Or.inl rfl) (Or.inl (wid_233.trans wid_142.symm))
theorem r233_17 : runs cal 233 17 [v0, v1, v2] [vI x0] I = if x0 = 0 then runs cal 233 20 [v0, v1, v2] [] I else runs cal 233 27 [v0, v1, v2] [] I := st_if_ne (ins_of mI_233 (by rfl)) (by decide)
theorem r233_20 : runs cal 233 20 [vR 70, v1, v2] [] I = runs cal 233 21 [vR 70, v1, v2] [vR 70] I := runs_to (ins_of mI_233 (by rfl)) rfl rfl
theorem r233_21 : runs cal 233 21 [v0, v1, v2] [vR 70] I = runs cal 233 23 [v0, v1, v2] [vI (-10), vR 70] I := runs_to (ins_of mI_233 (by rfl)) rfl rfl
theorem r233_23 : runs cal 233 23 [v0, v1, v2] [vI x0, vR 70] I = (cal 143 [vR 70, vI x0] I).bind (fun q => runs cal 233 26 [v0, v1, v2] (pushR q.1 []) q.2) := st_call (st := false) (ins_of mI_233 (by rfl)) mC_233 mr_11_251 (by decide) mS_143 mN_143 rfl (Nat.le_of_ble_eq_true rfl) rfl rfl (Or.inr ⟨_, _, rfl, rcv mC_143 rfl wid_233 (by decide +kernel)⟩) (Or.inl (wid_233.trans wid_143.symm))
theorem r233_26 : runs cal 233 26 [v0, v1, v2] [vI x0] I = some (some (vI x0), I) := st_ret (q := some (vI x0)) (k := 0) (ins_of mI_233 (by rfl)) rfl (by decide) mR_233 rfl trivial
theorem r233_27 : runs cal 233 27 [vR 70, v1, v2] [] I = runs cal 233 28 [vR 70, v1, v2] [vR 70] I := runs_to (ins_of mI_233 (by rfl)) rfl rfl
theorem r233_28 : runs cal 233 28 [v0, v1, v2] [vR 70] I = (cal 164 [vR 70] I).bind (fun q => runs cal 233 31 [v0, v1, v2] (pushR q.1 []) q.2) := st_call (st := false) (ins_of mI_233 (by rfl)) mC_233 mr_11_230 (by decide) mS_164 mN_164 rfl (Nat.le_of_ble_eq_true rfl) rfl rfl (Or.inr ⟨_, _, rfl, rcv mC_164 rfl wid_233 (by decide +kernel)⟩) (Or.inl (wid_233.trans wid_164.symm))
theorem r233_31 : runs cal 233 31 [v0, v1, vI w] [] I = runs cal 233 32 [v0, v1, vI w] [vI w] I := runs_to (ins_of mI_233 (by rfl)) rfl rfl
theorem r233_32 : runs cal 233 32 [v0, v1, v2] [vI x0] I = if x0 = 0 then runs cal 233 35 [v0, v1, v2] [] I else runs cal 233 56 [v0, v1, v2] [] I := st_if_ne (ins_of mI_233 (by rfl)) (by decide)
theorem r233_35 : runs cal 233 35 [vR 70, v1, v2] [] I = runs cal 233 36 [vR 70, v1, v2] [vR 70] I := runs_to (ins_of mI_233 (by rfl)) rfl rfl
theorem r233_36 : runs cal 233 36 [v0, vI w, v2] [vR 70] I = runs cal 233 37 [v0, vI w, v2] [vI w, vR 70] I := runs_to (ins_of mI_233 (by rfl)) rfl rfl
theorem r233_37 : runs cal 233 37 [v0, v1, v2] [vI x0, vR 70] I = (cal 169 [vR 70, vI x0] I).bind (fun q => runs cal 233 40 [v0, v1, v2] (pushR q.1 []) q.2) := st_call (st := false) (ins_of mI_233 (by rfl)) mC_233 mr_11_131 (by decide) mS_169 mN_169 rfl (Nat.le_of_ble_eq_true rfl) rfl rfl (Or.inr ⟨_, _, rfl, rcv mC_169 rfl wid_233 (by decide +kernel)⟩) (Or.inl (wid_233.trans wid_169.symm))
theorem r233_40 : runs cal 233 40 [v0, v1, v2] [vI x0] I = if x0 = 0 then runs cal 233 52 [v0, v1, v2] [] I else runs cal 233 43 [v0, v1, v2] [] I := st_if_eq (ins_of mI_233 (by rfl)) (by decide)
theorem r233_43 : runs cal 233 43 [vR 70, v1, v2] [] I = runs cal 233 44 [vR 70, v1, v2] [vR 70] I := runs_to (ins_of mI_233 (by rfl)) rfl rfl
theorem r233_44 : runs cal 233 44 [v0, v1, v2] [vR 70] I = runs cal 233 47 [v0, v1, v2] [vR 78] I := st_getR (ins_of mI_233 (by rfl)) mC_233 (by decide) fr_11_33 cT_70 (wdc wid_233 wd_70) rfl rfl
theorem r233_47 : runs cal 233 47 [v0, vI w, v2] [vR 78] I = runs cal 233 48 [v0, vI w, v2] [vI w, vR 78] I := runs_to (ins_of mI_233 (by rfl)) rfl rfl
theorem r233_48 : runs cal 233 48 [v0, v1, v2] [vI x0, vR 78] I = if 0 ≤ x0 ∧ x0 < 2 then runs cal 233 49 [v0, v1, v2] [vI (I 78 x0)] I else none := st_iald (ins_of mI_233 (by rfl)) cT_78 (wdc wid_233 wd_78)
theorem r233_49 : runs cal 233 49 [v0, v1, v2] [vI x0] I = runs cal 233 87 [v0, v1, v2] [vI x0] I := st_goto (ins_of mI_233 (by rfl)) (by decide)
theorem r233_52 : runs cal 233 52 [v0, v1, v2] [] I = runs cal 233 53 [v0, v1, v2] [vI (-1)] I := runs_to (ins_of mI_233 (by rfl)) rfl rfl
theorem r233_53 : runs cal 233 53 [v0, v1, v2] [vI x0] I = runs cal 233 87 [v0, v1, v2] [vI x0] I := st_goto (ins_of mI_233 (by rfl)) (by decide)
theorem r233_56 : runs cal 233 56 [v0, v1, vI w] [] I = runs cal 233 57 [v0, v1, vI w] [vI w] I := runs_to (ins_of mI_233 (by rfl)) rfl rfl
theorem r233_57 : runs cal 233 57 [v0, v1, v2] [vI x0] I = runs cal 233 58 [v0, v1, v2] [vI (1), vI x0] I := runs_to (ins_of mI_233 (by rfl)) rfl rfl
theorem r233_58 : runs cal 233 58 [v0, v1, v2] [vI x0, vI x1] I = if x1 = x0 then runs cal 233 61 [v0, v1, v2] [] I else runs cal 233 69 [v0, v1, v2] [] I := st_cmp_ne (ins_of mI_233 (by rfl)) (by decide)
theorem r233_61 : runs cal 233 61 [vR 70, v1, v2] [] I = runs cal 233 62 [vR 70, v1, v2] [vR 70] I := runs_to (ins_of mI_233 (by rfl)) rfl rfl
theorem r233_62 : runs cal 233 62 [v0, vI w, v2] [vR 70] I = runs cal 233 63 [v0, vI w, v2] [vI w, vR 70] I := runs_to (ins_of mI_233 (by rfl)) rfl rfl
theorem r233_63 : runs cal 233 63 [v0, v1, v2] [vI x0, vR 70] I = (cal 167 [vR 70, vI x0] I).bind (fun q => runs cal 233 66 [v0, v1, v2] (pushR q.1 []) q.2) := st_call (st := false) (ins_of mI_233 (by rfl)) mC_233 mr_11_134 (by decide) mS_167 mN_167 rfl (Nat.le_of_ble_eq_true rfl) rfl rfl (Or.inr ⟨_, _, rfl, rcv mC_167 rfl wid_233 (by decide +kernel)⟩) (Or.inl (wid_233.trans wid_167.symm))
theorem r233_66 : runs cal 233 66 [v0, v1, v2] [vI x0] I = runs cal 233 87 [v0, v1, v2] [vI x0] I := st_goto (ins_of mI_233 (by rfl)) (by decide)
theorem r233_69 : runs cal 233 69 [v0, v1, vI w] [] I = runs cal 233 70 [v0, v1, vI w] [vI w] I := runs_to (ins_of mI_233 (by rfl)) rfl rfl
theorem r233_70 : runs cal 233 70 [v0, v1, v2] [vI x0] I = runs cal 233 71 [v0, v1, v2] [vI (2), vI x0] I := runs_to (ins_of mI_233 (by rfl)) rfl rfl
theorem r233_71 : runs cal 233 71 [v0, v1, v2] [vI x0, vI x1] I = if x1 = x0 then runs cal 233 74 [v0, v1, v2] [] I else runs cal 233 82 [v0, v1, v2] [] I := st_cmp_ne (ins_of mI_233 (by rfl)) (by decide)
theorem r233_74 : runs cal 233 74 [vR 70, v1, v2] [] I = runs cal 233 75 [vR 70, v1, v2] [vR 70] I := runs_to (ins_of mI_233 (by rfl)) rfl rfl
theorem r233_75 : runs cal 233 75 [v0, vI w, v2] [vR 70] I = runs cal 233 76 [v0, vI w, v2] [vI w, vR 70] I := runs_to (ins_of mI_233 (by rfl)) rfl rfl
theorem r233_76 : runs cal 233 76 [v0, v1, v2] [vI x0, vR 70] I = (cal 168 [vR 70, vI x0] I).bind (fun q => runs cal 233 79 [v0, v1, v2] (pushR q.1 []) q.2) := st_call (st := false) (ins_of mI_233 (by rfl)) mC_233 mr_11_160 (by decide) mS_168 mN_168 rfl (Nat.le_of_ble_eq_true rfl) rfl rfl (Or.inr ⟨_, _, rfl, rcv mC_168 rfl wid_233 (by decide +kernel)⟩) (Or.inl (wid_233.trans wid_168.symm))
theorem r233_79 : runs cal 233 79 [v0, v1, v2] [vI x0] I = runs cal 233 87 [v0, v1, v2] [vI x0] I := st_goto (ins_of mI_233 (by rfl)) (by decide)
theorem r233_82 : runs cal 233 82 [vR 70, v1, v2] [] I = runs cal 233 83 [vR 70, v1, v2] [vR 70] I := runs_to (ins_of mI_233 (by rfl)) rfl rfl
theorem r233_83 : runs cal 233 83 [v0, vI w, v2] [vR 70] I = runs cal 233 84 [v0, vI w, v2] [vI w, vR 70] I := runs_to (ins_of mI_233 (by rfl)) rfl rfl
theorem r233_84 : runs cal 233 84 [v0, v1, v2] [vI x0, vR 70] I = (cal 175 [vR 70, vI x0] I).bind (fun q => runs cal 233 87 [v0, v1, v2] (pushR q.1 []) q.2) := st_call (st := false) (ins_of mI_233 (by rfl)) mC_233 mr_11_157 (by decide) mS_175 mN_175 rfl (Nat.le_of_ble_eq_true rfl) rfl rfl (Or.inr ⟨_, _, rfl, rcv mC_175 rfl wid_233 (by decide +kernel)⟩) (Or.inl (wid_233.trans wid_175.symm))
theorem r233_87 : runs cal 233 87 [v0, v1, v2] [vI x0] I = some (some (vI x0), I) := st_ret (q := some (vI x0)) (k := 0) (ins_of mI_233 (by rfl)) rfl (by decide) mR_233 rfl trivial
theorem r234_0 : runs cal 234 0 [v0, vI w] [] I = runs cal 234 1 [v0, vI w] [vI w] I := runs_to (ins_of mI_234 (by rfl)) rfl rfl
theorem r234_1 : runs cal 234 1 [v0, v1] [vI x0] I = runs cal 234 2 [v0, v1] [vL x0] I := runs_to (ins_of mI_234 (by rfl)) rfl rfl
theorem r234_2 : runs cal 234 2 [v0, v1] [vL x0] I = runs cal 234 3 [v0, v1] [vL 0, vL x0] I := runs_to (ins_of mI_234 (by rfl)) rfl rfl
theorem r234_3 : runs cal 234 3 [v0, v1] [vL x0, vL x1] I = runs cal 234 6 [v0, v1] [vL (127), vL x0, vL x1] I := runs_to (ins_of mI_234 (by rfl)) rfl (by simp only [stepI, ldk2, mC_234]; rfl)
theorem r234_6 : runs cal 234 6 [v0, v1] [vL x0, vL x1, vL x2] I = (cal 142 [vL x2, vL x1, vL x0] I).bind (fun q => runs cal 234 9 [v0, v1] (pushR q.1 []) q.2) := st_call (st := true) (ins_of mI_234 (by rfl)) mC_234 mr_11_121 (by decide) mS_142 mN_142 rfl (Nat.le_of_ble_eq_true rfl) rfl rfl (Or.inl rfl) (Or.inl (wid_234.trans wid_142.symm))
theorem r234_9 : runs cal 234 9 [v0, v1] [vI x0] I = if x0 = 0 then runs cal 234 12 [v0, v1] [] I else runs cal 234 19 [v0, v1] [] I := st_if_ne (ins_of mI_234 (by rfl)) (by decide)
theorem r234_12 : runs cal 234 12 [vR 70, v1] [] I = runs cal 234 13 [vR 70, v1] [vR 70] I := runs_to (ins_of mI_234 (by rfl)) rfl rfl
theorem r234_13 : runs cal 234 13 [v0, v1] [vR 70] I = runs cal 234 15 [v0, v1] [vI (-2), vR 70] I := runs_to (ins_of mI_234 (by rfl)) rfl rfl
theorem r234_15 : runs cal 234 15 [v0, v1] [vI x0, vR 70] I = (cal 143 [vR 70, vI x0] I).bind (fun q => runs cal 234 18 [v0, v1] (pushR q.1 []) q.2) := st_call (st := false) (ins_of mI_234 (by rfl)) mC_234 mr_11_251 (by decide) mS_143 mN_143 rfl (Nat.le_of_ble_eq_true rfl) rfl rfl (Or.inr ⟨_, _, rfl, rcv mC_143 rfl wid_234 (by decide +kernel)⟩) (Or.inl (wid_234.trans wid_143.symm))
theorem r234_18 : runs cal 234 18 [v0, v1] [vI x0] I = some (some (vI x0), I) := st_ret (q := some (vI x0)) (k := 0) (ins_of mI_234 (by rfl)) rfl (by decide) mR_234 rfl trivial
theorem r234_19 : runs cal 234 19 [vR 70, v1] [] I = runs cal 234 20 [vR 70, v1] [vR 70] I := runs_to (ins_of mI_234 (by rfl)) rfl rfl
theorem r234_20 : runs cal 234 20 [v0, v1] [vR 70] I = runs cal 234 23 [v0, v1] [vR 71] I := st_getR (ins_of mI_234 (by rfl)) mC_234 (by decide) fr_11_7 cT_70 (wdc wid_234 wd_70) rfl rfl
theorem r234_23 : runs cal 234 23 [v0, v1] [vR 71] I = runs cal 234 25 [v0, v1] [vI (26), vR 71] I := runs_to (ins_of mI_234 (by rfl)) rfl rfl
theorem r234_25 : runs cal 234 25 [v0, v1] [vI x0, vR 71] I = if 0 ≤ x0 ∧ x0 < 110 then runs cal 234 26 [v0, v1] [vI (I 71 x0)] I else none := st_iald (ins_of mI_234 (by rfl)) cT_71 (wdc wid_234 wd_71)
theorem r234_26 : runs cal 234 26 [v0, v1] [vI x0] I = runs cal 234 28 [v0, v1] [vI (40), vI x0] I := runs_to (ins_of mI_234 (by rfl)) rfl rfl
theorem r234_28 : runs cal 234 28 [v0, v1] [vI x0, vI x1] I = if x1 = x0 then runs cal 234 31 [v0, v1] [] I else runs cal 234 36 [v0, v1] [] I := st_cmp_ne (ins_of mI_234 (by rfl)) (by decide)
theorem r234_31 : runs cal 234 31 [vR 70, v1] [] I = runs cal 234 32 [vR 70, v1] [vR 70] I := runs_to (ins_of mI_234 (by rfl)) rfl rfl
theorem r234_32 : runs cal 234 32 [v0, v1] [vR 70] I = (cal 145 [vR 70] I).bind (fun q => runs cal 234 35 [v0, v1] (pushR q.1 []) q.2) := st_call (st := false) (ins_of mI_234 (by rfl)) mC_234 mr_11_295 (by decide) mS_145 mN_145 rfl (Nat.le_of_ble_eq_true rfl) rfl rfl (Or.inr ⟨_, _, rfl, rcv mC_145 rfl wid_234 (by decide +kernel)⟩) (Or.inl (wid_234.trans wid_145.symm))
theorem r234_35 : runs cal 234 35 [v0, v1] [vI x0] I = some (some (vI x0), I) := st_ret (q := some (vI x0)) (k := 0) (ins_of mI_234 (by rfl)) rfl (by decide) mR_234 rfl trivial
theorem r234_36 : runs cal 234 36 [vR 70, v1] [] I = runs cal 234 37 [vR 70, v1] [vR 70] I := runs_to (ins_of mI_234 (by rfl)) rfl rfl
theorem r234_37 : runs cal 234 37 [v0, v1] [vR 70] I = runs cal 234 40 [v0, v1] [vR 71] I := st_getR (ins_of mI_234 (by rfl)) mC_234 (by decide) fr_11_7 cT_70 (wdc wid_234 wd_70) rfl rfl
theorem r234_40 : runs cal 234 40 [v0, v1] [vR 71] I = runs cal 234 42 [v0, v1] [vI (27), vR 71] I := runs_to (ins_of mI_234 (by rfl)) rfl rfl
theorem r234_42 : runs cal 234 42 [vR 70, v1] [vI x0, vR 71] I = runs cal 234 43 [vR 70, v1] [vR 70, vI x0, vR 71] I := runs_to (ins_of mI_234 (by rfl)) rfl rfl
theorem r234_43 : runs cal 234 43 [v0, v1] [vR 70, vI x1, vR 71] I = runs cal 234 46 [v0, v1] [vR 71, vI x1, vR 71] I := st_getR (ins_of mI_234 (by rfl)) mC_234 (by decide) fr_11_7 cT_70 (wdc wid_234 wd_70) rfl rfl
theorem r234_46 : runs cal 234 46 [v0, v1] [vR 71, vI x1, vR 71] I = runs cal 234 48 [v0, v1] [vI (26), vR 71, vI x1, vR 71] I := runs_to (ins_of mI_234 (by rfl)) rfl rfl
theorem r234_48 : runs cal 234 48 [v0, v1] [vI x0, vR 71, vI x2, vR 71] I = if 0 ≤ x0 ∧ x0 < 110 then runs cal 234 49 [v0, v1] [vI (I 71 x0), vI x2, vR 71] I else none := st_iald (ins_of mI_234 (by rfl)) cT_71 (wdc wid_234 wd_71)
theorem r234_49 : runs cal 234 49 [v0, v1] [vI x0, vI x1, vR 71] I = runs cal 234 50 [v0, v1] [vI (iadd x1 x0), vR 71] I := runs_to (ins_of mI_234 (by rfl)) rfl rfl
theorem r234_50 : runs cal 234 50 [v0, vI w] [vI x0, vR 71] I = runs cal 234 51 [v0, vI w] [vI w, vI x0, vR 71] I := runs_to (ins_of mI_234 (by rfl)) rfl rfl
theorem r234_51 : runs cal 234 51 [v0, v1] [vI x0, vI x1, vR 71] I = if 0 ≤ x1 ∧ x1 < 110 then runs cal 234 52 [v0, v1] [] (mset I 71 x1 x0) else none := st_iast (ins_of mI_234 (by rfl)) cT_71 (wdc wid_234 wd_71)
theorem r234_52 : runs cal 234 52 [vR 70, v1] [] I = runs cal 234 53 [vR 70, v1] [vR 70] I := runs_to (ins_of mI_234 (by rfl)) rfl rfl
theorem r234_53 : runs cal 234 53 [v0, v1] [vR 70] I = runs cal 234 56 [v0, v1] [vR 71] I := st_getR (ins_of mI_234 (by rfl)) mC_234 (by decide) fr_11_7 cT_70 (wdc wid_234 wd_70) rfl rfl
theorem r234_56 : runs cal 234 56 [v0, v1] [vR 71] I = runs cal 234 58 [v0, v1] [vI (26), vR 71] I := runs_to (ins_of mI_234 (by rfl)) rfl rfl
theorem r234_58 : runs cal 234 58 [v0, v1] [vI x0, vR 71] I = runs cal 234 59 [v0, v1] [vI x0, vR 71, vI x0, vR 71] I := runs_to (ins_of mI_234 (by rfl)) rfl rfl
theorem r234_59 : runs cal 234 59 [v0, v1] [vI x0, vR 71, vI x2, vR 71] I = if 0 ≤ x0 ∧ x0 < 110 then runs cal 234 60 [v0, v1] [vI (I 71 x0), vI x2, vR 71] I else none := st_iald (ins_of mI_234 (by rfl)) cT_71 (wdc wid_234 wd_71)
theorem r234_60 : runs cal 234 60 [v0, v1] [vI x0, vI x1, vR 71] I = runs cal 234 61 [v0, v1] [vI (1), vI x0, vI x1, vR 71] I := runs_to (ins_of mI_234 (by rfl)) rfl rfl
theorem r234_61 : runs cal 234 61 [v0, v1] [vI x0, vI x1, vI x2, vR 71] I = runs cal 234 62 [v0, v1] [vI (iadd x1 x0), vI x2, vR 71] I := runs_to (ins_of mI_234 (by rfl)) rfl rfl
theorem r234_62 : runs cal 234 62 [v0, v1] [vI x0, vI x1, vR 71] I = if 0 ≤ x1 ∧ x1 < 110 then runs cal 234 63 [v0, v1] [] (mset I 71 x1 x0) else none := st_iast (ins_of mI_234 (by rfl)) cT_71 (wdc wid_234 wd_71)
theorem r234_63 : runs cal 234 63 [vR 70, v1] [] I = runs cal 234 64 [vR 70, v1] [vR 70] I := runs_to (ins_of mI_234 (by rfl)) rfl rfl
theorem r234_64 : runs cal 234 64 [v0, v1] [vR 70] I = runs cal 234 67 [v0, v1] [vR 71] I := st_getR (ins_of mI_234 (by rfl)) mC_234 (by decide) fr_11_7 cT_70 (wdc wid_234 wd_70) rfl rfl
theorem r234_67 : runs cal 234 67 [v0, v1] [vR 71] I = runs cal 234 69 [v0, v1] [vI (26), vR 71] I := runs_to (ins_of mI_234 (by rfl)) rfl rfl
theorem r234_69 : runs cal 234 69 [v0, v1] [vI x0, vR 71] I = if 0 ≤ x0 ∧ x0 < 110 then runs cal 234 70 [v0, v1] [vI (I 71 x0)] I else none := st_iald (ins_of mI_234 (by rfl)) cT_71 (wdc wid_234 wd_71)
theorem r234_70 : runs cal 234 70 [v0, v1] [vI x0] I = some (some (vI x0), I) := st_ret (q := some (vI x0)) (k := 0) (ins_of mI_234 (by rfl)) rfl (by decide) mR_234 rfl trivial
theorem r235_0 : runs cal 235 0 [vR 70, v1] [] I = runs cal 235 1 [vR 70, v1] [vR 70] I := runs_to (ins_of mI_235 (by rfl)) rfl rfl
theorem r235_1 : runs cal 235 1 [v0, v1] [vR 70] I = runs cal 235 4 [v0, v1] [vR 71] I := st_getR (ins_of mI_235 (by rfl)) mC_235 (by decide) fr_11_7 cT_70 (wdc wid_235 wd_70) rfl rfl
theorem r235_4 : runs cal 235 4 [v0, v1] [vR 71] I = runs cal 235 6 [v0, v1] [vI (26), vR 71] I := runs_to (ins_of mI_235 (by rfl)) rfl rfl
theorem r235_6 : runs cal 235 6 [v0, v1] [vI x0, vR 71] I = if 0 ≤ x0 ∧ x0 < 110 then runs cal 235 7 [v0, v1] [vI (I 71 x0)] I else none := st_iald (ins_of mI_235 (by rfl)) cT_71 (wdc wid_235 wd_71)
theorem r235_7 : runs cal 235 7 [vR b0, v1] [vI x0] I = runs cal 235 8 [vR b0, vI x0] [] I := runs_to (ins_of mI_235 (by rfl)) rfl rfl
theorem r235_8 : runs cal 235 8 [vR 70, v1] [] I = runs cal 235 9 [vR 70, v1] [vR 70] I := runs_to (ins_of mI_235 (by rfl)) rfl rfl
theorem r235_9 : runs cal 235 9 [v0, v1] [vR 70] I = runs cal 235 12 [v0, v1] [vR 71] I := st_getR (ins_of mI_235 (by rfl)) mC_235 (by decide) fr_11_7 cT_70 (wdc wid_235 wd_70) rfl rfl
theorem r235_12 : runs cal 235 12 [v0, v1] [vR 71] I = runs cal 235 14 [v0, v1] [vI (26), vR 71] I := runs_to (ins_of mI_235 (by rfl)) rfl rfl
theorem r235_14 : runs cal 235 14 [v0, v1] [vI x0, vR 71] I = runs cal 235 15 [v0, v1] [vI (0), vI x0, vR 71] I := runs_to (ins_of mI_235 (by rfl)) rfl rfl
theorem r235_15 : runs cal 235 15 [v0, v1] [vI x0, vI x1, vR 71] I = if 0 ≤ x1 ∧ x1 < 110 then runs cal 235 16 [v0, v1] [] (mset I 71 x1 x0) else none := st_iast (ins_of mI_235 (by rfl)) cT_71 (wdc wid_235 wd_71)
theorem r235_16 : runs cal 235 16 [v0, vI w] [] I = runs cal 235 17 [v0, vI w] [vI w] I := runs_to (ins_of mI_235 (by rfl)) rfl rfl
theorem r235_17 : runs cal 235 17 [v0, v1] [vI x0] I = some (some (vI x0), I) := st_ret (q := some (vI x0)) (k := 0) (ins_of mI_235 (by rfl)) rfl (by decide) mR_235 rfl trivial
theorem r236_0 : runs cal 236 0 [vR 70] [] I = runs cal 236 1 [vR 70] [vR 70] I := runs_to (ins_of mI_236 (by rfl)) rfl rfl
theorem r236_1 : runs cal 236 1 [v0] [vR 70] I = runs cal 236 4 [v0] [vR 71] I := st_getR (ins_of mI_236 (by rfl)) mC_236 (by decide) fr_11_7 cT_70 (wdc wid_236 wd_70) rfl rfl
theorem r236_4 : runs cal 236 4 [v0] [vR 71] I = runs cal 236 6 [v0] [vI (26), vR 71] I := runs_to (ins_of mI_236 (by rfl)) rfl rfl
theorem r236_6 : runs cal 236 6 [v0] [vI x0, vR 71] I = if 0 ≤ x0 ∧ x0 < 110 then runs cal 236 7 [v0] [vI (I 71 x0)] I else none := st_iald (ins_of mI_236 (by rfl)) cT_71 (wdc wid_236 wd_71)
theorem r236_7 : runs cal 236 7 [v0] [vI x0] I = some (some (vI x0), I) := st_ret (q := some (vI x0)) (k := 0) (ins_of mI_236 (by rfl)) rfl (by decide) mR_236 rfl trivial
theorem r237_0 : runs cal 237 0 [vR 70, v1] [] I = runs cal 237 1 [vR 70, v1] [vR 70] I := runs_to (ins_of mI_237 (by rfl)) rfl rfl
theorem r237_1 : runs cal 237 1 [v0, v1] [vR 70] I = runs cal 237 4 [v0, v1] [vR 71] I := st_getR (ins_of mI_237 (by rfl)) mC_237 (by decide) fr_11_7 cT_70 (wdc wid_237 wd_70) rfl rfl
theorem r237_4 : runs cal 237 4 [v0, v1] [vR 71] I = runs cal 237 6 [v0, v1] [vI (27), vR 71] I := runs_to (ins_of mI_237 (by rfl)) rfl rfl
theorem r237_6 : runs cal 237 6 [v0, vI w] [vI x0, vR 71] I = runs cal 237 7 [v0, vI w] [vI w, vI x0, vR 71] I := runs_to (ins_of mI_237 (by rfl)) rfl rfl
theorem r237_7 : runs cal 237 7 [v0, v1] [vI x0, vI x1, vR 71] I = runs cal 237 8 [v0, v1] [vI (iadd x1 x0), vR 71] I := runs_to (ins_of mI_237 (by rfl)) rfl rfl
theorem r237_8 : runs cal 237 8 [v0, v1] [vI x0, vR 71] I = if 0 ≤ x0 ∧ x0 < 110 then runs cal 237 9 [v0, v1] [vI (I 71 x0)] I else none := st_iald (ins_of mI_237 (by rfl)) cT_71 (wdc wid_237 wd_71)
theorem r237_9 : runs cal 237 9 [v0, v1] [vI x0] I = some (some (vI x0), I) := st_ret (q := some (vI x0)) (k := 0) (ins_of mI_237 (by rfl)) rfl (by decide) mR_237 rfl trivial
theorem r238_0 : runs cal 238 0 [vR 70] [] I = runs cal 238 1 [vR 70] [vR 70] I := runs_to (ins_of mI_238 (by rfl)) rfl rfl
theorem r238_1 : runs cal 238 1 [v0] [vR 70] I = runs cal 238 4 [v0] [vI (I 70 29)] I := st_getI (ins_of mI_238 (by rfl)) mC_238 (by decide) fr_11_373 cT_70 (wdc wid_238 wd_70) (Or.inl rfl)
theorem r238_4 : runs cal 238 4 [vR 70] [vI x0] I = runs cal 238 5 [vR 70] [vR 70, vI x0] I := runs_to (ins_of mI_238 (by rfl)) rfl rfl
theorem r238_5 : runs cal 238 5 [v0] [vR 70, vI x1] I = (cal 236 [vR 70] I).bind (fun q => runs cal 238 8 [v0] (pushR q.1 [vI x1]) q.2) := st_call (st := false) (ins_of mI_238 (by rfl)) mC_238 mr_11_376 (by decide) mS_236 mN_236 rfl (Nat.le_of_ble_eq_true rfl) rfl rfl (Or.inr ⟨_, _, rfl, rcv mC_236 rfl wid_238 (by decide +kernel)⟩) (Or.inl (wid_238.trans wid_236.symm))
theorem r238_8 : runs cal 238 8 [v0] [vI x0, vI x1] I = if x1 < x0 then runs cal 238 11 [v0] [] I else runs cal 238 37 [v0] [] I := st_cmp_ge (ins_of mI_238 (by rfl)) (by decide)
theorem r238_11 : runs cal 238 11 [vR 70] [] I = runs cal 238 12 [vR 70] [vR 70] I := runs_to (ins_of mI_238 (by rfl)) rfl rfl
theorem r238_12 : runs cal 238 12 [vR 70] [vR 70] I = runs cal 238 13 [vR 70] [vR 70, vR 70] I := runs_to (ins_of mI_238 (by rfl)) rfl rfl
theorem r238_13 : runs cal 238 13 [v0] [vR 70, vR 70] I = runs cal 238 16 [v0] [vI (I 70 29), vR 70] I := st_getI (ins_of mI_238 (by rfl)) mC_238 (by decide) fr_11_373 cT_70 (wdc wid_238 wd_70) (Or.inl rfl)
theorem r238_16 : runs cal 238 16 [v0] [vI x0, vR 70] I = (cal 237 [vR 70, vI x0] I).bind (fun q => runs cal 238 19 [v0] (pushR q.1 []) q.2) := st_call (st := false) (ins_of mI_238 (by rfl)) mC_238 mr_11_379 (by decide) mS_237 mN_237 rfl (Nat.le_of_ble_eq_true rfl) rfl rfl (Or.inr ⟨_, _, rfl, rcv mC_237 rfl wid_238 (by decide +kernel)⟩) (Or.inl (wid_238.trans wid_237.symm))
theorem r238_19 : runs cal 238 19 [v0] [vI x0] I = runs cal 238 21 [v0] [vI (32), vI x0] I := runs_to (ins_of mI_238 (by rfl)) rfl rfl
theorem r238_21 : runs cal 238 21 [v0] [vI x0, vI x1] I = if x1 = x0 then runs cal 238 24 [v0] [] I else runs cal 238 37 [v0] [] I := st_cmp_ne (ins_of mI_238 (by rfl)) (by decide)
theorem r238_24 : runs cal 238 24 [vR 70] [] I = runs cal 238 25 [vR 70] [vR 70] I := runs_to (ins_of mI_238 (by rfl)) rfl rfl
theorem r238_25 : runs cal 238 25 [v0] [vR 70] I = runs cal 238 26 [v0] [vR 70, vR 70] I := runs_to (ins_of mI_238 (by rfl)) rfl rfl
theorem r238_26 : runs cal 238 26 [v0] [vR 70, vR 70] I = runs cal 238 29 [v0] [vI (I 70 29), vR 70] I := st_getI (ins_of mI_238 (by rfl)) mC_238 (by decide) fr_11_373 cT_70 (wdc wid_238 wd_70) (Or.inl rfl)
theorem r238_29 : runs cal 238 29 [v0] [vI x0, vR 70] I = runs cal 238 30 [v0] [vI (1), vI x0, vR 70] I := runs_to (ins_of mI_238 (by rfl)) rfl rfl
theorem r238_30 : runs cal 238 30 [v0] [vI x0, vI x1, vR 70] I = runs cal 238 31 [v0] [vI (iadd x1 x0), vR 70] I := runs_to (ins_of mI_238 (by rfl)) rfl rfl
theorem r238_31 : runs cal 238 31 [v0] [vI x0, vR 70] I = runs cal 238 34 [v0] [] (mset I 70 29 x0) := st_putI (ins_of mI_238 (by rfl)) mC_238 fr_11_373 cT_70 (wdc wid_238 wd_70) rfl
theorem r238_34 : runs cal 238 34 [v0] [] I = runs cal 238 0 [v0] [] I := st_goto (ins_of mI_238 (by rfl)) (by decide)
theorem r238_37 : runs cal 238 37 [vR 70] [] I = runs cal 238 38 [vR 70] [vR 70] I := runs_to (ins_of mI_238 (by rfl)) rfl rfl
theorem r238_38 : runs cal 238 38 [v0] [vR 70] I = runs cal 238 41 [v0] [vI (I 70 29)] I := st_getI (ins_of mI_238 (by rfl)) mC_238 (by decide) fr_11_373 cT_70 (wdc wid_238 wd_70) (Or.inl rfl)
theorem r238_41 : runs cal 238 41 [vR 70] [vI x0] I = runs cal 238 42 [vR 70] [vR 70, vI x0] I := runs_to (ins_of mI_238 (by rfl)) rfl rfl
theorem r238_42 : runs cal 238 42 [v0] [vR 70, vI x1] I = (cal 236 [vR 70] I).bind (fun q => runs cal 238 45 [v0] (pushR q.1 [vI x1]) q.2) := st_call (st := false) (ins_of mI_238 (by rfl)) mC_238 mr_11_376 (by decide) mS_236 mN_236 rfl (Nat.le_of_ble_eq_true rfl) rfl rfl (Or.inr ⟨_, _, rfl, rcv mC_236 rfl wid_238 (by decide +kernel)⟩) (Or.inl (wid_238.trans wid_236.symm))
theorem r238_45 : runs cal 238 45 [v0] [vI x0, vI x1] I = if x1 < x0 then runs cal 238 48 [v0] [] I else runs cal 238 59 [v0] [] I := st_cmp_ge (ins_of mI_238 (by rfl)) (by decide)
theorem r238_48 : runs cal 238 48 [vR 70] [] I = runs cal 238 49 [vR 70] [vR 70] I := runs_to (ins_of mI_238 (by rfl)) rfl rfl
theorem r238_49 : runs cal 238 49 [vR 70] [vR 70] I = runs cal 238 50 [vR 70] [vR 70, vR 70] I := runs_to (ins_of mI_238 (by rfl)) rfl rfl
theorem r238_50 : runs cal 238 50 [v0] [vR 70, vR 70] I = runs cal 238 53 [v0] [vI (I 70 29), vR 70] I := st_getI (ins_of mI_238 (by rfl)) mC_238 (by decide) fr_11_373 cT_70 (wdc wid_238 wd_70) (Or.inl rfl)
theorem r238_53 : runs cal 238 53 [v0] [vI x0, vR 70] I = (cal 237 [vR 70, vI x0] I).bind (fun q => runs cal 238 56 [v0] (pushR q.1 []) q.2) := st_call (st := false) (ins_of mI_238 (by rfl)) mC_238 mr_11_379 (by decide) mS_237 mN_237 rfl (Nat.le_of_ble_eq_true rfl) rfl rfl (Or.inr ⟨_, _, rfl, rcv mC_237 rfl wid_238 (by decide +kernel)⟩) (Or.inl (wid_238.trans wid_237.symm))
theorem r238_56 : runs cal 238 56 [v0] [vI x0] I = runs cal 238 60 [v0] [vI x0] I := st_goto (ins_of mI_238 (by rfl)) (by decide)
theorem r238_59 : runs cal 238 59 [v0] [] I = runs cal 238 60 [v0] [vI (-1)] I := runs_to (ins_of mI_238 (by rfl)) rfl rfl
theorem r238_60 : runs cal 238 60 [v0] [vI x0] I = some (some (vI x0), I) := st_ret (q := some (vI x0)) (k := 0) (ins_of mI_238 (by rfl)) rfl (by decide) mR_238 rfl trivial
theorem r239_0 : runs cal 239 0 [vI w] [] I = runs cal 239 1 [vI w] [vI w] I := runs_to (ins_of mI_239 (by rfl)) rfl rfl
theorem r239_1 : runs cal 239 1 [v0] [vI (38)] I = runs cal 239 86 [v0] [] I := st_sw (off := 85) (ins_of mI_239 (by rfl)) rfl rfl (by decide)
theorem r239_1a : runs cal 239 1 [v0] [vI (42)] I = runs cal 239 92 [v0] [] I := st_sw (off := 91) (ins_of mI_239 (by rfl)) rfl rfl (by decide)
theorem r239_1b : runs cal 239 1 [v0] [vI (43)] I = runs cal 239 90 [v0] [] I := st_sw (off := 89) (ins_of mI_239 (by rfl)) rfl rfl (by decide)
theorem r239_1c : runs cal 239 1 [v0] [vI (45)] I = runs cal 239 90 [v0] [] I := st_sw (off := 89) (ins_of mI_239 (by rfl)) rfl rfl (by decide)
theorem r239_1d : runs cal 239 1 [v0] [vI (47)] I = runs cal 239 92 [v0] [] I := st_sw (off := 91) (ins_of mI_239 (by rfl)) rfl rfl (by decide)
theorem r239_1e : runs cal 239 1 [v0] [vI (60)] I = runs cal 239 88 [v0] [] I := st_sw (off := 87) (ins_of mI_239 (by rfl)) rfl rfl (by decide)
theorem r239_1f : runs cal 239 1 [v0] [vI (61)] I = runs cal 239 88 [v0] [] I := st_sw (off := 87) (ins_of mI_239 (by rfl)) rfl rfl (by decide)
theorem r239_1g : runs cal 239 1 [v0] [vI (62)] I = runs cal 239 88 [v0] [] I := st_sw (off := 87) (ins_of mI_239 (by rfl)) rfl rfl (by decide)
theorem r239_1h : runs cal 239 1 [v0] [vI (124)] I = runs cal 239 84 [v0] [] I := st_sw (off := 83) (ins_of mI_239 (by rfl)) rfl rfl (by decide)
theorem r239_1i (hd : ¬ x0 = 38 ∧ ¬ x0 = 42 ∧ ¬ x0 = 43 ∧ ¬ x0 = 45 ∧ ¬ x0 = 47 ∧ ¬ x0 = 60 ∧ ¬ x0 = 61 ∧ ¬ x0 = 62 ∧ ¬ x0 = 124) : runs cal 239 1 [v0] [vI x0] I = runs cal 239 94 [v0] [] I := st_lswD (ins_of mI_239 (by rfl)) (by decide) (by simp; omega) (by decide)
theorem r239_84 : runs cal 239 84 [v0] [] I = runs cal 239 85 [v0] [vI (1)] I := runs_to (ins_of mI_239 (by rfl)) rfl rfl
theorem r239_85 : runs cal 239 85 [v0] [vI x0] I = some (some (vI x0), I) := st_ret (q := some (vI x0)) (k := 0) (ins_of mI_239 (by rfl)) rfl (by decide) mR_239 rfl trivial
theorem r239_86 : runs cal 239 86 [v0] [] I = runs cal 239 87 [v0] [vI (2)] I := runs_to (ins_of mI_239 (by rfl)) rfl rfl
theorem r239_87 : runs cal 239 87 [v0] [vI x0] I = some (some (vI x0), I) := st_ret (q := some (vI x0)) (k := 0) (ins_of mI_239 (by rfl)) rfl (by decide) mR_239 rfl trivial
theorem r239_88 : runs cal 239 88 [v0] [] I = runs cal 239 89 [v0] [vI (3)] I := runs_to (ins_of mI_239 (by rfl)) rfl rfl
theorem r239_89 : runs cal 239 89 [v0] [vI x0] I = some (some (vI x0), I) := st_ret (q := some (vI x0)) (k := 0) (ins_of mI_239 (by rfl)) rfl (by decide) mR_239 rfl trivial
theorem r239_90 : runs cal 239 90 [v0] [] I = runs cal 239 91 [v0] [vI (4)] I := runs_to (ins_of mI_239 (by rfl)) rfl rfl
theorem r239_91 : runs cal 239 91 [v0] [vI x0] I = some (some (vI x0), I) := st_ret (q := some (vI x0)) (k := 0) (ins_of mI_239 (by rfl)) rfl (by decide) mR_239 rfl trivial
theorem r239_92 : runs cal 239 92 [v0] [] I = runs cal 239 93 [v0] [vI (5)] I := runs_to (ins_of mI_239 (by rfl)) rfl rfl
theorem r239_93 : runs cal 239 93 [v0] [vI x0] I = some (some (vI x0), I) := st_ret (q := some (vI x0)) (k := 0) (ins_of mI_239 (by rfl)) rfl (by decide) mR_239 rfl trivial
theorem r239_94 : runs cal 239 94 [v0] [] I = runs cal 239 95 [v0] [vI (0)] I := runs_to (ins_of mI_239 (by rfl)) rfl rfl
theorem r239_95 : runs cal 239 95 [v0] [vI x0] I = some (some (vI x0), I) := st_ret (q := some (vI x0)) (k := 0) (ins_of mI_239 (by rfl)) rfl (by decide) mR_239 rfl trivial
set_option maxRecDepth 8000 in
theorem r240_0 : runs cal 240 0 [vR 70, v1, v2, v3, v4, v5, v6] [] I = runs cal 240 1 [vR 70, v1, v2, v3, v4, v5, v6] [vR 70] I := runs_to (ins_of mI_240 (by rfl)) rfl rfl
set_option maxRecDepth 8000 in
theorem r240_1 : runs cal 240 1 [v0, v1, v2, v3, v4, v5, v6] [vR 70] I = runs cal 240 2 [v0, v1, v2, v3, v4, v5, v6] [vR 70, vR 70] I := runs_to (ins_of mI_240 (by rfl)) rfl rfl
set_option maxRecDepth 8000 in
theorem r240_2 : runs cal 240 2 [v0, v1, v2, v3, v4, v5, v6] [vR 70, vR 70] I = runs cal 240 5 [v0, v1, v2, v3, v4, v5, v6] [vI (I 70 34), vR 70] I := st_getI (ins_of mI_240 (by rfl)) mC_240 (by decide) fr_11_382 cT_70 (wdc wid_240 wd_70) (Or.inl rfl)
set_option maxRecDepth 8000 in
theorem r240_5 : runs cal 240 5 [v0, v1, v2, v3, v4, v5, v6] [vI x0, vR 70] I = runs cal 240 6 [v0, v1, v2, v3, v4, v5, v6] [vI (1), vI x0, vR 70] I := runs_to (ins_of mI_240 (by rfl)) rfl rfl
set_option maxRecDepth 8000 in
theorem r240_6 : runs cal 240 6 [v0, v1, v2, v3, v4, v5, v6] [vI x0, vI x1, vR 70] I = runs cal 240 7 [v0, v1, v2, v3, v4, v5, v6] [vI (isub x1 x0), vR 70] I := runs_to (ins_of mI_240 (by rfl)) rfl rfl
set_option maxRecDepth 8000 in
theorem r240_7 : runs cal 240 7 [v0, v1, v2, v3, v4, v5, v6] [vI x0, vR 70] I = runs cal 240 10 [v0, v1, v2, v3, v4, v5, v6] [] (mset I 70 34 x0) := st_putI (ins_of mI_240 (by rfl)) mC_240 fr_11_382 cT_70 (wdc wid_240 wd_70) rfl
set_option maxRecDepth 8000 in
theorem r240_10 : runs cal 240 10 [vR 70, v1, v2, v3, v4, v5, v6] [] I = runs cal 240 11 [vR 70, v1, v2, v3, v4, v5, v6] [vR 70] I := runs_to (ins_of mI_240 (by rfl)) rfl rfl
set_option maxRecDepth 8000 in
theorem r240_11 : runs cal 240 11 [v0, v1, v2, v3, v4, v5, v6] [vR 70] I = runs cal 240 12 [v0, v1, v2, v3, v4, v5, v6] [vR 70, vR 70] I := runs_to (ins_of mI_240 (by rfl)) rfl rfl
set_option maxRecDepth 8000 in
theorem r240_12 : runs cal 240 12 [v0, v1, v2, v3, v4, v5, v6] [vR 70, vR 70] I = runs cal 240 15 [v0, v1, v2, v3, v4, v5, v6] [vI (I 70 32), vR 70] I := st_getI (ins_of mI_240 (by rfl)) mC_240 (by decide) fr_11_385 cT_70 (wdc wid_240 wd_70) (Or.inl rfl)
set_option maxRecDepth 8000 in
theorem r240_15 : runs cal 240 15 [v0, v1, v2, v3, v4, v5, v6] [vI x0, vR 70] I = runs cal 240 16 [v0, v1, v2, v3, v4, v5, v6] [vI (1), vI x0, vR 70] I := runs_to (ins_of mI_240 (by rfl)) rfl rfl
set_option maxRecDepth 8000 in
theorem r240_16 : runs cal 240 16 [v0, v1, v2, v3, v4, v5, v6] [vI x0, vI x1, vR 70] I = runs cal 240 17 [v0, v1, v2, v3, v4, v5, v6] [vI (isub x1 x0), vR 70] I := runs_to (ins_of mI_240 (by rfl)) rfl rfl
set_option maxRecDepth 8000 in
theorem r240_17 : runs cal 240 17 [v0, v1, v2, v3, v4, v5, v6] [vI x0, vR 70] I = runs cal 240 20 [v0, v1, v2, v3, v4, v5, v6] [] (mset I 70 32 x0) := st_putI (ins_of mI_240 (by rfl)) mC_240 fr_11_385 cT_70 (wdc wid_240 wd_70) rfl
set_option maxRecDepth 8000 in
theorem r240_20 : runs cal 240 20 [vR 70, v1, v2, v3, v4, v5, v6] [] I = runs cal 240 21 [vR 70, v1, v2, v3, v4, v5, v6] [vR 70] I := runs_to (ins_of mI_240 (by rfl)) rfl rfl
set_option maxRecDepth 8000 in
theorem r240_21 : runs cal 240 21 [v0, v1, v2, v3, v4, v5, v6] [vR 70] I = runs cal 240 24 [v0, v1, v2, v3, v4, v5, v6] [vR 86] I := st_getR (ins_of mI_240 (by rfl)) mC_240 (by decide) fr_11_58 cT_70 (wdc wid_240 wd_70) rfl rfl
set_option maxRecDepth 8000 in
theorem r240_24 : runs cal 240 24 [vR 70, v1, v2, v3, v4, v5, v6] [vR 86] I = runs cal 240 25 [vR 70, v1, v2, v3, v4, v5, v6] [vR 70, vR 86] I := runs_to (ins_of mI_240 (by rfl)) rfl rfl
set_option maxRecDepth 8000 in
theorem r240_25 : runs cal 240 25 [v0, v1, v2, v3, v4, v5, v6] [vR 70, vR 86] I = runs cal 240 28 [v0, v1, v2, v3, v4, v5, v6] [vI (I 70 32), vR 86] I := st_getI (ins_of mI_240 (by rfl)) mC_240 (by decide) fr_11_385 cT_70 (wdc wid_240 wd_70) (Or.inl rfl)
set_option maxRecDepth 8000 in
theorem r240_28 : runs cal 240 28 [v0, v1, v2, v3, v4, v5, v6] [vI x0, vR 86] I = runs cal 240 29 [v0, v1, v2, v3, v4, v5, v6] [vI (1), vI x0, vR 86] I := runs_to (ins_of mI_240 (by rfl)) rfl rfl
set_option maxRecDepth 8000 in
theorem r240_29 : runs cal 240 29 [v0, v1, v2, v3, v4, v5, v6] [vI x0, vI x1, vR 86] I = runs cal 240 30 [v0, v1, v2, v3, v4, v5, v6] [vI (isub x1 x0), vR 86] I := runs_to (ins_of mI_240 (by rfl)) rfl rfl
set_option maxRecDepth 8000 in
theorem r240_30 : runs cal 240 30 [v0, v1, v2, v3, v4, v5, v6] [vI x0, vR 86] I = if 0 ≤ x0 ∧ x0 < 64 then runs cal 240 31 [v0, v1, v2, v3, v4, v5, v6] [vL (I 86 x0)] I else none := st_lald (ins_of mI_240 (by rfl)) cT_86 (wdc wid_240 wd_86)
set_option maxRecDepth 8000 in
theorem r240_31 : runs cal 240 31 [vR b0, v1, v2, v3, v4, v5, v6] [vL x0] I = runs cal 240 32 [vR b0, vL x0, vR 0, v3, v4, v5, v6] [] I := runs_to (ins_of mI_240 (by rfl)) rfl rfl
set_option maxRecDepth 8000 in
theorem r240_32 : runs cal 240 32 [vR 70, v1, v2, v3, v4, v5, v6] [] I = runs cal 240 33 [vR 70, v1, v2, v3, v4, v5, v6] [vR 70] I := runs_to (ins_of mI_240 (by rfl)) rfl rfl
set_option maxRecDepth 8000 in
theorem r240_33 : runs cal 240 33 [v0, v1, v2, v3, v4, v5, v6] [vR 70] I = runs cal 240 36 [v0, v1, v2, v3, v4, v5, v6] [vR 86] I := st_getR (ins_of mI_240 (by rfl)) mC_240 (by decide) fr_11_58 cT_70 (wdc wid_240 wd_70) rfl rfl
set_option maxRecDepth 8000 in
theorem r240_36 : runs cal 240 36 [vR 70, v1, v2, v3, v4, v5, v6] [vR 86] I = runs cal 240 37 [vR 70, v1, v2, v3, v4, v5, v6] [vR 70, vR 86] I := runs_to (ins_of mI_240 (by rfl)) rfl rfl
set_option maxRecDepth 8000 in
theorem r240_37 : runs cal 240 37 [v0, v1, v2, v3, v4, v5, v6] [vR 70, vR 86] I = runs cal 240 40 [v0, v1, v2, v3, v4, v5, v6] [vI (I 70 32), vR 86] I := st_getI (ins_of mI_240 (by rfl)) mC_240 (by decide) fr_11_385 cT_70 (wdc wid_240 wd_70) (Or.inl rfl)
set_option maxRecDepth 8000 in
theorem r240_40 : runs cal 240 40 [v0, v1, v2, v3, v4, v5, v6] [vI x0, vR 86] I = if 0 ≤ x0 ∧ x0 < 64 then runs cal 240 41 [v0, v1, v2, v3, v4, v5, v6] [vL (I 86 x0)] I else none := st_lald (ins_of mI_240 (by rfl)) cT_86 (wdc wid_240 wd_86)
set_option maxRecDepth 8000 in
theorem r240_41 : runs cal 240 41 [v0, v1, v2, v3, v4, v5, v6] [vL x0] I = runs cal 240 42 [v0, v1, kill v2, vL x0, vR 0, v5, v6] [] I := runs_to (ins_of mI_240 (by rfl)) rfl rfl
set_option maxRecDepth 8000 in
theorem r240_42 : runs cal 240 42 [v0, v1, v2, v3, v4, v5, v6] [] I = runs cal 240 43 [v0, v1, v2, v3, v4, v5, v6] [vL 0] I := runs_to (ins_of mI_240 (by rfl)) rfl rfl
set_option maxRecDepth 8000 in
theorem r240_43 : runs cal 240 43 [v0, v1, v2, v3, v4, v5, v6] [vL x0] I = runs cal 240 45 [v0, v1, v2, v3, kill v4, vL x0, vR 0] [] I := runs_to (ins_of mI_240 (by rfl)) rfl rfl
set_option maxRecDepth 8000 in
theorem r240_45 : runs cal 240 45 [vR 70, v1, v2, v3, v4, v5, v6] [] I = runs cal 240 46 [vR 70, v1, v2, v3, v4, v5, v6] [vR 70] I := runs_to (ins_of mI_240 (by rfl)) rfl rfl
set_option maxRecDepth 8000 in
theorem r240_46 : runs cal 240 46 [v0, v1, v2, v3, v4, v5, v6] [vR 70] I = runs cal 240 49 [v0, v1, v2, v3, v4, v5, v6] [vR 87] I := st_getR (ins_of mI_240 (by rfl)) mC_240 (by decide) fr_11_61 cT_70 (wdc wid_240 wd_70) rfl rfl
set_option maxRecDepth 8000 in
theorem r240_49 : runs cal 240 49 [vR 70, v1, v2, v3, v4, v5, v6] [vR 87] I = runs cal 240 50 [vR 70, v1, v2, v3, v4, v5, v6] [vR 70, vR 87] I := runs_to (ins_of mI_240 (by rfl)) rfl rfl
set_option maxRecDepth 8000 in
theorem r240_50 : runs cal 240 50 [v0, v1, v2, v3, v4, v5, v6] [vR 70, vR 87] I = runs cal 240 53 [v0, v1, v2, v3, v4, v5, v6] [vI (I 70 34), vR 87] I := st_getI (ins_of mI_240 (by rfl)) mC_240 (by decide) fr_11_382 cT_70 (wdc wid_240 wd_70) (Or.inl rfl)
set_option maxRecDepth 8000 in
theorem r240_53 : runs cal 240 53 [v0, v1, v2, v3, v4, v5, v6] [vI x0, vR 87] I = if 0 ≤ x0 ∧ x0 < 128 then runs cal 240 54 [v0, v1, v2, v3, v4, v5, v6] [vI (I 87 x0)] I else none := st_iald (ins_of mI_240 (by rfl)) cT_87 (wdc wid_240 wd_87)
set_option maxRecDepth 8000 in
theorem r240_54 : runs cal 240 54 [v0, v1, v2, v3, v4, v5, v6] [vI (38)] I = runs cal 240 150 [v0, v1, v2, v3, v4, v5, v6] [] I := st_sw (off := 96) (ins_of mI_240 (by rfl)) rfl rfl (by decide)
set_option maxRecDepth 8000 in
theorem r240_54a : runs cal 240 54 [v0, v1, v2, v3, v4, v5, v6] [vI (42)] I = runs cal 240 236 [v0, v1, v2, v3, v4, v5, v6] [] I := st_sw (off := 182) (ins_of mI_240 (by rfl)) rfl rfl (by decide)
set_option maxRecDepth 8000 in
theorem r240_54b : runs cal 240 54 [v0, v1, v2, v3, v4, v5, v6] [vI (43)] I = runs cal 240 220 [v0, v1, v2, v3, v4, v5, v6] [] I := st_sw (off := 166) (ins_of mI_240 (by rfl)) rfl rfl (by decide)
set_option maxRecDepth 8000 in
theorem r240_54c : runs cal 240 54 [v0, v1, v2, v3, v4, v5, v6] [vI (45)] I = runs cal 240 228 [v0, v1, v2, v3, v4, v5, v6] [] I := st_sw (off := 174) (ins_of mI_240 (by rfl)) rfl rfl (by decide)
set_option maxRecDepth 8000 in
theorem r240_54d : runs cal 240 54 [v0, v1, v2, v3, v4, v5, v6] [vI (60)] I = runs cal 240 172 [v0, v1, v2, v3, v4, v5, v6] [] I := st_sw (off := 118) (ins_of mI_240 (by rfl)) rfl rfl (by decide)
set_option maxRecDepth 8000 in
theorem r240_54e : runs cal 240 54 [v0, v1, v2, v3, v4, v5, v6] [vI (61)] I = runs cal 240 204 [v0, v1, v2, v3, v4, v5, v6] [] I := st_sw (off := 150) (ins_of mI_240 (by rfl)) rfl rfl (by decide)
set_option maxRecDepth 8000 in
theorem r240_54f : runs cal 240 54 [v0, v1, v2, v3, v4, v5, v6] [vI (62)] I = runs cal 240 188 [v0, v1, v2, v3, v4, v5, v6] [] I := st_sw (off := 134) (ins_of mI_240 (by rfl)) rfl rfl (by decide)
set_option maxRecDepth 8000 in
theorem r240_54g : runs cal 240 54 [v0, v1, v2, v3, v4, v5, v6] [vI (124)] I = runs cal 240 128 [v0, v1, v2, v3, v4, v5, v6] [] I := st_sw (off := 74) (ins_of mI_240 (by rfl)) rfl rfl (by decide)
set_option maxRecDepth 8000 in
theorem r240_54h (hd : ¬ x0 = 38 ∧ ¬ x0 = 42 ∧ ¬ x0 = 43 ∧ ¬ x0 = 45 ∧ ¬ x0 = 60 ∧ ¬ x0 = 61 ∧ ¬ x0 = 62 ∧ ¬ x0 = 124) : runs cal 240 54 [v0, v1, v2, v3, v4, v5, v6] [vI x0] I = runs cal 240 244 [v0, v1, v2, v3, v4, v5, v6] [] I := st_lswD (ins_of mI_240 (by rfl)) (by decide) (by simp; omega) (by decide)
set_option maxRecDepth 8000 in
theorem r240_128 : runs cal 240 128 [v0, vL w, v2, v3, v4, v5, v6] [] I = runs cal 240 129 [v0, vL w, v2, v3, v4, v5, v6] [vL w] I := runs_to (ins_of mI_240 (by rfl)) rfl rfl
set_option maxRecDepth 8000 in
theorem r240_129 : runs cal 240 129 [v0, v1, v2, v3, v4, v5, v6] [vL x0] I = runs cal 240 130 [v0, v1, v2, v3, v4, v5, v6] [vL 0, vL x0] I := runs_to (ins_of mI_240 (by rfl)) rfl rfl
set_option maxRecDepth 8000 in
theorem r240_130 : runs cal 240 130 [v0, v1, v2, v3, v4, v5, v6] [vL x0, vL x1] I = if x1 = x0 then runs cal 240 134 [v0, v1, v2, v3, v4, v5, v6] [] I else runs cal 240 140 [v0, v1, v2, v3, v4, v5, v6] [] I := st_lc_ne (ins_of mI_240 (by rfl)) (ins_of mI_240 (by rfl)) (by decide)
set_option maxRecDepth 8000 in
theorem r240_131 : runs cal 240 131 [v0, v1, v2, v3, v4, v5, v6] [vI x0] I = if x0 = 0 then runs cal 240 134 [v0, v1, v2, v3, v4, v5, v6] [] I else runs cal 240 140 [v0, v1, v2, v3, v4, v5, v6] [] I := st_if_ne (ins_of mI_240 (by rfl)) (by decide)
set_option maxRecDepth 8000 in
theorem r240_134 : runs cal 240 134 [v0, v1, v2, vL w, v4, v5, v6] [] I = runs cal 240 135 [v0, v1, v2, vL w, v4, v5, v6] [vL w] I := runs_to (ins_of mI_240 (by rfl)) rfl rfl
set_option maxRecDepth 8000 in
theorem r240_135 : runs cal 240 135 [v0, v1, v2, v3, v4, v5, v6] [vL x0] I = runs cal 240 136 [v0, v1, v2, v3, v4, v5, v6] [vL 0, vL x0] I := runs_to (ins_of mI_240 (by rfl)) rfl rfl
set_option maxRecDepth 8000 in
theorem r240_136 : runs cal 240 136 [v0, v1, v2, v3, v4, v5, v6] [vL x0, vL x1] I = if x1 = x0 then runs cal 240 144 [v0, v1, v2, v3, v4, v5, v6] [] I else runs cal 240 140 [v0, v1, v2, v3, v4, v5, v6] [] I := st_lc_eq (ins_of mI_240 (by rfl)) (ins_of mI_240 (by rfl)) (by decide)
set_option maxRecDepth 8000 in
theorem r240_137 : runs cal 240 137 [v0, v1, v2, v3, v4, v5, v6] [vI x0] I = if x0 = 0 then runs cal 240 144 [v0, v1, v2, v3, v4, v5, v6] [] I else runs cal 240 140 [v0, v1, v2, v3, v4, v5, v6] [] I := st_if_eq (ins_of mI_240 (by rfl)) (by decide)
set_option maxRecDepth 8000 in
theorem r240_140 : runs cal 240 140 [v0, v1, v2, v3, v4, v5, v6] [] I = runs cal 240 141 [v0, v1, v2, v3, v4, v5, v6] [vL 1] I := runs_to (ins_of mI_240 (by rfl)) rfl rfl
set_option maxRecDepth 8000 in
theorem r240_141 : runs cal 240 141 [v0, v1, v2, v3, v4, v5, v6] [vL x0] I = runs cal 240 145 [v0, v1, v2, v3, v4, v5, v6] [vL x0] I := st_goto (ins_of mI_240 (by rfl)) (by decide)
set_option maxRecDepth 8000 in
theorem r240_144 : runs cal 240 144 [v0, v1, v2, v3, v4, v5, v6] [] I = runs cal 240 145 [v0, v1, v2, v3, v4, v5, v6] [vL 0] I := runs_to (ins_of mI_240 (by rfl)) rfl rfl
set_option maxRecDepth 8000 in
theorem r240_145 : runs cal 240 145 [v0, v1, v2, v3, v4, v5, v6] [vL x0] I = runs cal 240 147 [v0, v1, v2, v3, kill v4, vL x0, vR 0] [] I := runs_to (ins_of mI_240 (by rfl)) rfl rfl
set_option maxRecDepth 8000 in
theorem r240_147 : runs cal 240 147 [v0, v1, v2, v3, v4, v5, v6] [] I = runs cal 240 259 [v0, v1, v2, v3, v4, v5, v6] [] I := st_goto (ins_of mI_240 (by rfl)) (by decide)
set_option maxRecDepth 8000 in
theorem r240_150 : runs cal 240 150 [v0, vL w, v2, v3, v4, v5, v6] [] I = runs cal 240 151 [v0, vL w, v2, v3, v4, v5, v6] [vL w] I := runs_to (ins_of mI_240 (by rfl)) rfl rfl
set_option maxRecDepth 8000 in
theorem r240_151 : runs cal 240 151 [v0, v1, v2, v3, v4, v5, v6] [vL x0] I = runs cal 240 152 [v0, v1, v2, v3, v4, v5, v6] [vL 0, vL x0] I := runs_to (ins_of mI_240 (by rfl)) rfl rfl
set_option maxRecDepth 8000 in
theorem r240_152 : runs cal 240 152 [v0, v1, v2, v3, v4, v5, v6] [vL x0, vL x1] I = if x1 = x0 then runs cal 240 166 [v0, v1, v2, v3, v4, v5, v6] [] I else runs cal 240 156 [v0, v1, v2, v3, v4, v5, v6] [] I := st_lc_eq (ins_of mI_240 (by rfl)) (ins_of mI_240 (by rfl)) (by decide)
set_option maxRecDepth 8000 in
theorem r240_153 : runs cal 240 153 [v0, v1, v2, v3, v4, v5, v6] [vI x0] I = if x0 = 0 then runs cal 240 166 [v0, v1, v2, v3, v4, v5, v6] [] I else runs cal 240 156 [v0, v1, v2, v3, v4, v5, v6] [] I := st_if_eq (ins_of mI_240 (by rfl)) (by decide)
set_option maxRecDepth 8000 in
theorem r240_156 : runs cal 240 156 [v0, v1, v2, vL w, v4, v5, v6] [] I = runs cal 240 157 [v0, v1, v2, vL w, v4, v5, v6] [vL w] I := runs_to (ins_of mI_240 (by rfl)) rfl rfl
set_option maxRecDepth 8000 in
theorem r240_157 : runs cal 240 157 [v0, v1, v2, v3, v4, v5, v6] [vL x0] I = runs cal 240 158 [v0, v1, v2, v3, v4, v5, v6] [vL 0, vL x0] I := runs_to (ins_of mI_240 (by rfl)) rfl rfl
set_option maxRecDepth 8000 in
theorem r240_158 : runs cal 240 158 [v0, v1, v2, v3, v4, v5, v6] [vL x0, vL x1] I = if x1 = x0 then runs cal 240 166 [v0, v1, v2, v3, v4, v5, v6] [] I else runs cal 240 162 [v0, v1, v2, v3, v4, v5, v6] [] I := st_lc_eq (ins_of mI_240 (by rfl)) (ins_of mI_240 (by rfl)) (by decide)
set_option maxRecDepth 8000 in
theorem r240_159 : runs cal 240 159 [v0, v1, v2, v3, v4, v5, v6] [vI x0] I = if x0 = 0 then runs cal 240 166 [v0, v1, v2, v3, v4, v5, v6] [] I else runs cal 240 162 [v0, v1, v2, v3, v4, v5, v6] [] I := st_if_eq (ins_of mI_240 (by rfl)) (by decide)
set_option maxRecDepth 8000 in
theorem r240_162 : runs cal 240 162 [v0, v1, v2, v3, v4, v5, v6] [] I = runs cal 240 163 [v0, v1, v2, v3, v4, v5, v6] [vL 1] I := runs_to (ins_of mI_240 (by rfl)) rfl rfl
set_option maxRecDepth 8000 in
theorem r240_163 : runs cal 240 163 [v0, v1, v2, v3, v4, v5, v6] [vL x0] I = runs cal 240 167 [v0, v1, v2, v3, v4, v5, v6] [vL x0] I := st_goto (ins_of mI_240 (by rfl)) (by decide)
set_option maxRecDepth 8000 in
theorem r240_166 : runs cal 240 166 [v0, v1, v2, v3, v4, v5, v6] [] I = runs cal 240 167 [v0, v1, v2, v3, v4, v5, v6] [vL 0] I := runs_to (ins_of mI_240 (by rfl)) rfl rfl
set_option maxRecDepth 8000 in
theorem r240_167 : runs cal 240 167 [v0, v1, v2, v3, v4, v5, v6] [vL x0] I = runs cal 240 169 [v0, v1, v2, v3, kill v4, vL x0, vR 0] [] I := runs_to (ins_of mI_240 (by rfl)) rfl rfl
set_option maxRecDepth 8000 in
theorem r240_169 : runs cal 240 169 [v0, v1, v2, v3, v4, v5, v6] [] I = runs cal 240 259 [v0, v1, v2, v3, v4, v5, v6] [] I := st_goto (ins_of mI_240 (by rfl)) (by decide)
set_option maxRecDepth 8000 in
theorem r240_172 : runs cal 240 172 [v0, vL w, v2, v3, v4, v5, v6] [] I = runs cal 240 173 [v0, vL w, v2, v3, v4, v5, v6] [vL w] I := runs_to (ins_of mI_240 (by rfl)) rfl rfl
set_option maxRecDepth 8000 in
theorem r240_173 : runs cal 240 173 [v0, v1, v2, vL w, v4, v5, v6] [vL x0] I = runs cal 240 174 [v0, v1, v2, vL w, v4, v5, v6] [vL w, vL x0] I := runs_to (ins_of mI_240 (by rfl)) rfl rfl
set_option maxRecDepth 8000 in
theorem r240_174 : runs cal 240 174 [v0, v1, v2, v3, v4, v5, v6] [vL x0, vL x1] I = if x1 < x0 then runs cal 240 178 [v0, v1, v2, v3, v4, v5, v6] [] I else runs cal 240 182 [v0, v1, v2, v3, v4, v5, v6] [] I := st_lc_ge (ins_of mI_240 (by rfl)) (ins_of mI_240 (by rfl)) (by decide)
set_option maxRecDepth 8000 in
theorem r240_175 : runs cal 240 175 [v0, v1, v2, v3, v4, v5, v6] [vI x0] I = if x0 < 0 then runs cal 240 178 [v0, v1, v2, v3, v4, v5, v6] [] I else runs cal 240 182 [v0, v1, v2, v3, v4, v5, v6] [] I := st_if_ge (ins_of mI_240 (by rfl)) (by decide)
set_option maxRecDepth 8000 in
theorem r240_178 : runs cal 240 178 [v0, v1, v2, v3, v4, v5, v6] [] I = runs cal 240 179 [v0, v1, v2, v3, v4, v5, v6] [vL 1] I := runs_to (ins_of mI_240 (by rfl)) rfl rfl
set_option maxRecDepth 8000 in
theorem r240_179 : runs cal 240 179 [v0, v1, v2, v3, v4, v5, v6] [vL x0] I = runs cal 240 183 [v0, v1, v2, v3, v4, v5, v6] [vL x0] I := st_goto (ins_of mI_240 (by rfl)) (by decide)
set_option maxRecDepth 8000 in
theorem r240_182 : runs cal 240 182 [v0, v1, v2, v3, v4, v5, v6] [] I = runs cal 240 183 [v0, v1, v2, v3, v4, v5, v6] [vL 0] I := runs_to (ins_of mI_240 (by rfl)) rfl rfl
set_option maxRecDepth 8000 in
theorem r240_183 : runs cal 240 183 [v0, v1, v2, v3, v4, v5, v6] [vL x0] I = runs cal 240 185 [v0, v1, v2, v3, kill v4, vL x0, vR 0] [] I := runs_to (ins_of mI_240 (by rfl)) rfl rfl
set_option maxRecDepth 8000 in
theorem r240_185 : runs cal 240 185 [v0, v1, v2, v3, v4, v5, v6] [] I = runs cal 240 259 [v0, v1, v2, v3, v4, v5, v6] [] I := st_goto (ins_of mI_240 (by rfl)) (by decide)
set_option maxRecDepth 8000 in
theorem r240_188 : runs cal 240 188 [v0, vL w, v2, v3, v4, v5, v6] [] I = runs cal 240 189 [v0, vL w, v2, v3, v4, v5, v6] [vL w] I := runs_to (ins_of mI_240 (by rfl)) rfl rfl
set_option maxRecDepth 8000 in
theorem r240_189 : runs cal 240 189 [v0, v1, v2, vL w, v4, v5, v6] [vL x0] I = runs cal 240 190 [v0, v1, v2, vL w, v4, v5, v6] [vL w, vL x0] I := runs_to (ins_of mI_240 (by rfl)) rfl rfl
set_option maxRecDepth 8000 in
theorem r240_190 : runs cal 240 190 [v0, v1, v2, v3, v4, v5, v6] [vL x0, vL x1] I = if x0 < x1 then runs cal 240 194 [v0, v1, v2, v3, v4, v5, v6] [] I else runs cal 240 198 [v0, v1, v2, v3, v4, v5, v6] [] I := st_lc_le (ins_of mI_240 (by rfl)) (ins_of mI_240 (by rfl)) (by decide)
set_option maxRecDepth 8000 in
theorem r240_191 : runs cal 240 191 [v0, v1, v2, v3, v4, v5, v6] [vI x0] I = if 0 < x0 then runs cal 240 194 [v0, v1, v2, v3, v4, v5, v6] [] I else runs cal 240 198 [v0, v1, v2, v3, v4, v5, v6] [] I := st_if_le (ins_of mI_240 (by rfl)) (by decide)
set_option maxRecDepth 8000 in
theorem r240_194 : runs cal 240 194 [v0, v1, v2, v3, v4, v5, v6] [] I = runs cal 240 195 [v0, v1, v2, v3, v4, v5, v6] [vL 1] I := runs_to (ins_of mI_240 (by rfl)) rfl rfl
set_option maxRecDepth 8000 in
theorem r240_195 : runs cal 240 195 [v0, v1, v2, v3, v4, v5, v6] [vL x0] I = runs cal 240 199 [v0, v1, v2, v3, v4, v5, v6] [vL x0] I := st_goto (ins_of mI_240 (by rfl)) (by decide)
set_option maxRecDepth 8000 in
theorem r240_198 : runs cal 240 198 [v0, v1, v2, v3, v4, v5, v6] [] I = runs cal 240 199 [v0, v1, v2, v3, v4, v5, v6] [vL 0] I := runs_to (ins_of mI_240 (by rfl)) rfl rfl
set_option maxRecDepth 8000 in
theorem r240_199 : runs cal 240 199 [v0, v1, v2, v3, v4, v5, v6] [vL x0] I = runs cal 240 201 [v0, v1, v2, v3, kill v4, vL x0, vR 0] [] I := runs_to (ins_of mI_240 (by rfl)) rfl rfl
set_option maxRecDepth 8000 in
theorem r240_201 : runs cal 240 201 [v0, v1, v2, v3, v4, v5, v6] [] I = runs cal 240 259 [v0, v1, v2, v3, v4, v5, v6] [] I := st_goto (ins_of mI_240 (by rfl)) (by decide)
set_option maxRecDepth 8000 in
theorem r240_204 : runs cal 240 204 [v0, vL w, v2, v3, v4, v5, v6] [] I = runs cal 240 205 [v0, vL w, v2, v3, v4, v5, v6] [vL w] I := runs_to (ins_of mI_240 (by rfl)) rfl rfl
set_option maxRecDepth 8000 in
theorem r240_205 : runs cal 240 205 [v0, v1, v2, vL w, v4, v5, v6] [vL x0] I = runs cal 240 206 [v0, v1, v2, vL w, v4, v5, v6] [vL w, vL x0] I := runs_to (ins_of mI_240 (by rfl)) rfl rfl
set_option maxRecDepth 8000 in
theorem r240_206 : runs cal 240 206 [v0, v1, v2, v3, v4, v5, v6] [vL x0, vL x1] I = if x1 = x0 then runs cal 240 210 [v0, v1, v2, v3, v4, v5, v6] [] I else runs cal 240 214 [v0, v1, v2, v3, v4, v5, v6] [] I := st_lc_ne (ins_of mI_240 (by rfl)) (ins_of mI_240 (by rfl)) (by decide)
set_option maxRecDepth 8000 in
theorem r240_207 : runs cal 240 207 [v0, v1, v2, v3, v4, v5, v6] [vI x0] I = if x0 = 0 then runs cal 240 210 [v0, v1, v2, v3, v4, v5, v6] [] I else runs cal 240 214 [v0, v1, v2, v3, v4, v5, v6] [] I := st_if_ne (ins_of mI_240 (by rfl)) (by decide)
set_option maxRecDepth 8000 in
theorem r240_210 : runs cal 240 210 [v0, v1, v2, v3, v4, v5, v6] [] I = runs cal 240 211 [v0, v1, v2, v3, v4, v5, v6] [vL 1] I := runs_to (ins_of mI_240 (by rfl)) rfl rfl
set_option maxRecDepth 8000 in
theorem r240_211 : runs cal 240 211 [v0, v1, v2, v3, v4, v5, v6] [vL x0] I = runs cal 240 215 [v0, v1, v2, v3, v4, v5, v6] [vL x0] I := st_goto (ins_of mI_240 (by rfl)) (by decide)
set_option maxRecDepth 8000 in
theorem r240_214 : runs cal 240 214 [v0, v1, v2, v3, v4, v5, v6] [] I = runs cal 240 215 [v0, v1, v2, v3, v4, v5, v6] [vL 0] I := runs_to (ins_of mI_240 (by rfl)) rfl rfl
set_option maxRecDepth 8000 in
theorem r240_215 : runs cal 240 215 [v0, v1, v2, v3, v4, v5, v6] [vL x0] I = runs cal 240 217 [v0, v1, v2, v3, kill v4, vL x0, vR 0] [] I := runs_to (ins_of mI_240 (by rfl)) rfl rfl
set_option maxRecDepth 8000 in
theorem r240_217 : runs cal 240 217 [v0, v1, v2, v3, v4, v5, v6] [] I = runs cal 240 259 [v0, v1, v2, v3, v4, v5, v6] [] I := st_goto (ins_of mI_240 (by rfl)) (by decide)
set_option maxRecDepth 8000 in
theorem r240_220 : runs cal 240 220 [v0, vL w, v2, v3, v4, v5, v6] [] I = runs cal 240 221 [v0, vL w, v2, v3, v4, v5, v6] [vL w] I := runs_to (ins_of mI_240 (by rfl)) rfl rfl
set_option maxRecDepth 8000 in
theorem r240_221 : runs cal 240 221 [v0, v1, v2, vL w, v4, v5, v6] [vL x0] I = runs cal 240 222 [v0, v1, v2, vL w, v4, v5, v6] [vL w, vL x0] I := runs_to (ins_of mI_240 (by rfl)) rfl rfl
set_option maxRecDepth 8000 in
theorem r240_222 : runs cal 240 222 [v0, v1, v2, v3, v4, v5, v6] [vL x0, vL x1] I = runs cal 240 223 [v0, v1, v2, v3, v4, v5, v6] [vL (ladd x1 x0)] I := runs_to (ins_of mI_240 (by rfl)) rfl rfl
set_option maxRecDepth 8000 in
theorem r240_223 : runs cal 240 223 [v0, v1, v2, v3, v4, v5, v6] [vL x0] I = runs cal 240 225 [v0, v1, v2, v3, kill v4, vL x0, vR 0] [] I := runs_to (ins_of mI_240 (by rfl)) rfl rfl
set_option maxRecDepth 8000 in
theorem r240_225 : runs cal 240 225 [v0, v1, v2, v3, v4, v5, v6] [] I = runs cal 240 259 [v0, v1, v2, v3, v4, v5, v6] [] I := st_goto (ins_of mI_240 (by rfl)) (by decide)
set_option maxRecDepth 8000 in
theorem r240_228 : runs cal 240 228 [v0, vL w, v2, v3, v4, v5, v6] [] I = runs cal 240 229 [v0, vL w, v2, v3, v4, v5, v6] [vL w] I := runs_to (ins_of mI_240 (by rfl)) rfl rfl
set_option maxRecDepth 8000 in
theorem r240_229 : runs cal 240 229 [v0, v1, v2, vL w, v4, v5, v6] [vL x0] I = runs cal 240 230 [v0, v1, v2, vL w, v4, v5, v6] [vL w, vL x0] I := runs_to (ins_of mI_240 (by rfl)) rfl rfl
set_option maxRecDepth 8000 in
theorem r240_230 : runs cal 240 230 [v0, v1, v2, v3, v4, v5, v6] [vL x0, vL x1] I = runs cal 240 231 [v0, v1, v2, v3, v4, v5, v6] [vL (lsub x1 x0)] I := runs_to (ins_of mI_240 (by rfl)) rfl rfl
set_option maxRecDepth 8000 in
theorem r240_231 : runs cal 240 231 [v0, v1, v2, v3, v4, v5, v6] [vL x0] I = runs cal 240 233 [v0, v1, v2, v3, kill v4, vL x0, vR 0] [] I := runs_to (ins_of mI_240 (by rfl)) rfl rfl
set_option maxRecDepth 8000 in
theorem r240_233 : runs cal 240 233 [v0, v1, v2, v3, v4, v5, v6] [] I = runs cal 240 259 [v0, v1, v2, v3, v4, v5, v6] [] I := st_goto (ins_of mI_240 (by rfl)) (by decide)
set_option maxRecDepth 8000 in
theorem r240_236 : runs cal 240 236 [v0, vL w, v2, v3, v4, v5, v6] [] I = runs cal 240 237 [v0, vL w, v2, v3, v4, v5, v6] [vL w] I := runs_to (ins_of mI_240 (by rfl)) rfl rfl
set_option maxRecDepth 8000 in
theorem r240_237 : runs cal 240 237 [v0, v1, v2, vL w, v4, v5, v6] [vL x0] I = runs cal 240 238 [v0, v1, v2, vL w, v4, v5, v6] [vL w, vL x0] I := runs_to (ins_of mI_240 (by rfl)) rfl rfl
set_option maxRecDepth 8000 in
theorem r240_238 : runs cal 240 238 [v0, v1, v2, v3, v4, v5, v6] [vL x0, vL x1] I = runs cal 240 239 [v0, v1, v2, v3, v4, v5, v6] [vL (lmul x1 x0)] I := runs_to (ins_of mI_240 (by rfl)) rfl rfl
set_option maxRecDepth 8000 in
theorem r240_239 : runs cal 240 239 [v0, v1, v2, v3, v4, v5, v6] [vL x0] I = runs cal 240 241 [v0, v1, v2, v3, kill v4, vL x0, vR 0] [] I := runs_to (ins_of mI_240 (by rfl)) rfl rfl
set_option maxRecDepth 8000 in
theorem r240_241 : runs cal 240 241 [v0, v1, v2, v3, v4, v5, v6] [] I = runs cal 240 259 [v0, v1, v2, v3, v4, v5, v6] [] I := st_goto (ins_of mI_240 (by rfl)) (by decide)
set_option maxRecDepth 8000 in
theorem r240_244 : runs cal 240 244 [v0, v1, v2, vL w, v4, v5, v6] [] I = runs cal 240 245 [v0, v1, v2, vL w, v4, v5, v6] [vL w] I := runs_to (ins_of mI_240 (by rfl)) rfl rfl
set_option maxRecDepth 8000 in
theorem r240_245 : runs cal 240 245 [v0, v1, v2, v3, v4, v5, v6] [vL x0] I = runs cal 240 246 [v0, v1, v2, v3, v4, v5, v6] [vL 0, vL x0] I := runs_to (ins_of mI_240 (by rfl)) rfl rfl
set_option maxRecDepth 8000 in
theorem r240_246 : runs cal 240 246 [v0, v1, v2, v3, v4, v5, v6] [vL x0, vL x1] I = if x1 = x0 then runs cal 240 250 [v0, v1, v2, v3, v4, v5, v6] [] I else runs cal 240 254 [v0, v1, v2, v3, v4, v5, v6] [] I := st_lc_ne (ins_of mI_240 (by rfl)) (ins_of mI_240 (by rfl)) (by decide)
set_option maxRecDepth 8000 in
theorem r240_247 : runs cal 240 247 [v0, v1, v2, v3, v4, v5, v6] [vI x0] I = if x0 = 0 then runs cal 240 250 [v0, v1, v2, v3, v4, v5, v6] [] I else runs cal 240 254 [v0, v1, v2, v3, v4, v5, v6] [] I := st_if_ne (ins_of mI_240 (by rfl)) (by decide)
set_option maxRecDepth 8000 in
theorem r240_250 : runs cal 240 250 [v0, v1, v2, v3, v4, v5, v6] [] I = runs cal 240 251 [v0, v1, v2, v3, v4, v5, v6] [vL 0] I := runs_to (ins_of mI_240 (by rfl)) rfl rfl
set_option maxRecDepth 8000 in
theorem r240_251 : runs cal 240 251 [v0, v1, v2, v3, v4, v5, v6] [vL x0] I = runs cal 240 257 [v0, v1, v2, v3, v4, v5, v6] [vL x0] I := st_goto (ins_of mI_240 (by rfl)) (by decide)
set_option maxRecDepth 8000 in
theorem r240_254 : runs cal 240 254 [v0, vL w, v2, v3, v4, v5, v6] [] I = runs cal 240 255 [v0, vL w, v2, v3, v4, v5, v6] [vL w] I := runs_to (ins_of mI_240 (by rfl)) rfl rfl
set_option maxRecDepth 8000 in
theorem r240_255 : runs cal 240 255 [v0, v1, v2, vL w, v4, v5, v6] [vL x0] I = runs cal 240 256 [v0, v1, v2, vL w, v4, v5, v6] [vL w, vL x0] I := runs_to (ins_of mI_240 (by rfl)) rfl rfl
set_option maxRecDepth 8000 in
theorem r240_256 : runs cal 240 256 [v0, v1, v2, v3, v4, v5, v6] [vL x0, vL x1] I = if x0 = 0 then none else runs cal 240 257 [v0, v1, v2, v3, v4, v5, v6] [vL (ldiv x1 x0)] I := st_nzL (ins_of mI_240 (by rfl)) rfl rfl
set_option maxRecDepth 8000 in
theorem r240_257 : runs cal 240 257 [v0, v1, v2, v3, v4, v5, v6] [vL x0] I = runs cal 240 259 [v0, v1, v2, v3, kill v4, vL x0, vR 0] [] I := runs_to (ins_of mI_240 (by rfl)) rfl rfl
set_option maxRecDepth 8000 in
theorem r240_259 : runs cal 240 259 [vR 70, v1, v2, v3, v4, v5, v6] [] I = runs cal 240 260 [vR 70, v1, v2, v3, v4, v5, v6] [vR 70] I := runs_to (ins_of mI_240 (by rfl)) rfl rfl
set_option maxRecDepth 8000 in
theorem r240_260 : runs cal 240 260 [v0, v1, v2, v3, v4, v5, v6] [vR 70] I = runs cal 240 263 [v0, v1, v2, v3, v4, v5, v6] [vR 86] I := st_getR (ins_of mI_240 (by rfl)) mC_240 (by decide) fr_11_58 cT_70 (wdc wid_240 wd_70) rfl rfl
set_option maxRecDepth 8000 in
theorem r240_263 : runs cal 240 263 [vR 70, v1, v2, v3, v4, v5, v6] [vR 86] I = runs cal 240 264 [vR 70, v1, v2, v3, v4, v5, v6] [vR 70, vR 86] I := runs_to (ins_of mI_240 (by rfl)) rfl rfl
set_option maxRecDepth 8000 in
theorem r240_264 : runs cal 240 264 [v0, v1, v2, v3, v4, v5, v6] [vR 70, vR 86] I = runs cal 240 267 [v0, v1, v2, v3, v4, v5, v6] [vI (I 70 32), vR 86] I := st_getI (ins_of mI_240 (by rfl)) mC_240 (by decide) fr_11_385 cT_70 (wdc wid_240 wd_70) (Or.inl rfl)
set_option maxRecDepth 8000 in
theorem r240_267 : runs cal 240 267 [v0, v1, v2, v3, v4, v5, v6] [vI x0, vR 86] I = runs cal 240 268 [v0, v1, v2, v3, v4, v5, v6] [vI (1), vI x0, vR 86] I := runs_to (ins_of mI_240 (by rfl)) rfl rfl
set_option maxRecDepth 8000 in
theorem r240_268 : runs cal 240 268 [v0, v1, v2, v3, v4, v5, v6] [vI x0, vI x1, vR 86] I = runs cal 240 269 [v0, v1, v2, v3, v4, v5, v6] [vI (isub x1 x0), vR 86] I := runs_to (ins_of mI_240 (by rfl)) rfl rfl
set_option maxRecDepth 8000 in
theorem r240_269 : runs cal 240 269 [v0, v1, v2, v3, v4, vL w, v6] [vI x0, vR 86] I = runs cal 240 271 [v0, v1, v2, v3, v4, vL w, v6] [vL w, vI x0, vR 86] I := runs_to (ins_of mI_240 (by rfl)) rfl rfl
set_option maxRecDepth 8000 in
theorem r240_271 : runs cal 240 271 [v0, v1, v2, v3, v4, v5, v6] [vL x0, vI x1, vR 86] I = if 0 ≤ x1 ∧ x1 < 64 then runs cal 240 272 [v0, v1, v2, v3, v4, v5, v6] [] (mset I 86 x1 x0) else none := st_last (ins_of mI_240 (by rfl)) cT_86 (wdc wid_240 wd_86)
set_option maxRecDepth 8000 in
theorem r240_272 : runs cal 240 272 [v0, v1, v2, v3, v4, v5, v6] [] I = some (none, I) := st_ret (q := none) (k := 3) (ins_of mI_240 (by rfl)) rfl (by decide) mR_240 rfl trivial
theorem r241_0 : runs cal 241 0 [vR 70, v1] [] I = runs cal 241 1 [vR 70, v1] [vR 70] I := runs_to (ins_of mI_241 (by rfl)) rfl rfl
theorem r241_1 : runs cal 241 1 [v0, v1] [vR 70] I = runs cal 241 4 [v0, v1] [vI (I 70 34)] I := st_getI (ins_of mI_241 (by rfl)) mC_241 (by decide) fr_11_382 cT_70 (wdc wid_241 wd_70) (Or.inl rfl)
theorem r241_4 : runs cal 241 4 [v0, v1] [vI x0] I = if 0 < x0 then runs cal 241 7 [v0, v1] [] I else runs cal 241 49 [v0, v1] [] I := st_if_le (ins_of mI_241 (by rfl)) (by decide)
theorem r241_7 : runs cal 241 7 [vR 70, v1] [] I = runs cal 241 8 [vR 70, v1] [vR 70] I := runs_to (ins_of mI_241 (by rfl)) rfl rfl
theorem r241_8 : runs cal 241 8 [v0, v1] [vR 70] I = runs cal 241 11 [v0, v1] [vR 87] I := st_getR (ins_of mI_241 (by rfl)) mC_241 (by decide) fr_11_61 cT_70 (wdc wid_241 wd_70) rfl rfl
theorem r241_11 : runs cal 241 11 [vR 70, v1] [vR 87] I = runs cal 241 12 [vR 70, v1] [vR 70, vR 87] I := runs_to (ins_of mI_241 (by rfl)) rfl rfl
theorem r241_12 : runs cal 241 12 [v0, v1] [vR 70, vR 87] I = runs cal 241 15 [v0, v1] [vI (I 70 34), vR 87] I := st_getI (ins_of mI_241 (by rfl)) mC_241 (by decide) fr_11_382 cT_70 (wdc wid_241 wd_70) (Or.inl rfl)
theorem r241_15 : runs cal 241 15 [v0, v1] [vI x0, vR 87] I = runs cal 241 16 [v0, v1] [vI (1), vI x0, vR 87] I := runs_to (ins_of mI_241 (by rfl)) rfl rfl
theorem r241_16 : runs cal 241 16 [v0, v1] [vI x0, vI x1, vR 87] I = runs cal 241 17 [v0, v1] [vI (isub x1 x0), vR 87] I := runs_to (ins_of mI_241 (by rfl)) rfl rfl
theorem r241_17 : runs cal 241 17 [v0, v1] [vI x0, vR 87] I = if 0 ≤ x0 ∧ x0 < 128 then runs cal 241 18 [v0, v1] [vI (I 87 x0)] I else none := st_iald (ins_of mI_241 (by rfl)) cT_87 (wdc wid_241 wd_87)
theorem r241_18 : runs cal 241 18 [v0, v1] [vI x0] I = runs cal 241 21 [v0, v1] [vI (1000), vI x0] I := runs_to (ins_of mI_241 (by rfl)) rfl rfl
theorem r241_21 : runs cal 241 21 [v0, v1] [vI x0, vI x1] I = if x1 < x0 then runs cal 241 24 [v0, v1] [] I else runs cal 241 49 [v0, v1] [] I := st_cmp_ge (ins_of mI_241 (by rfl)) (by decide)
theorem r241_24 : runs cal 241 24 [vR 70, v1] [] I = runs cal 241 25 [vR 70, v1] [vR 70] I := runs_to (ins_of mI_241 (by rfl)) rfl rfl
theorem r241_25 : runs cal 241 25 [v0, v1] [vR 70] I = runs cal 241 28 [v0, v1] [vR 87] I := st_getR (ins_of mI_241 (by rfl)) mC_241 (by decide) fr_11_61 cT_70 (wdc wid_241 wd_70) rfl rfl
theorem r241_28 : runs cal 241 28 [vR 70, v1] [vR 87] I = runs cal 241 29 [vR 70, v1] [vR 70, vR 87] I := runs_to (ins_of mI_241 (by rfl)) rfl rfl
theorem r241_29 : runs cal 241 29 [v0, v1] [vR 70, vR 87] I = runs cal 241 32 [v0, v1] [vI (I 70 34), vR 87] I := st_getI (ins_of mI_241 (by rfl)) mC_241 (by decide) fr_11_382 cT_70 (wdc wid_241 wd_70) (Or.inl rfl)
theorem r241_32 : runs cal 241 32 [v0, v1] [vI x0, vR 87] I = runs cal 241 33 [v0, v1] [vI (1), vI x0, vR 87] I := runs_to (ins_of mI_241 (by rfl)) rfl rfl
theorem r241_33 : runs cal 241 33 [v0, v1] [vI x0, vI x1, vR 87] I = runs cal 241 34 [v0, v1] [vI (isub x1 x0), vR 87] I := runs_to (ins_of mI_241 (by rfl)) rfl rfl
theorem r241_34 : runs cal 241 34 [v0, v1] [vI x0, vR 87] I = if 0 ≤ x0 ∧ x0 < 128 then runs cal 241 35 [v0, v1] [vI (I 87 x0)] I else none := st_iald (ins_of mI_241 (by rfl)) cT_87 (wdc wid_241 wd_87)
theorem r241_35 : runs cal 241 35 [v0, v1] [vI x0] I = (cal 239 [vI x0] I).bind (fun q => runs cal 241 38 [v0, v1] (pushR q.1 []) q.2) := st_call (st := true) (ins_of mI_241 (by rfl)) mC_241 mr_11_388 (by decide) mS_239 mN_239 rfl (Nat.le_of_ble_eq_true rfl) rfl rfl (Or.inl rfl) (Or.inl (wid_241.trans wid_239.symm))
theorem r241_38 : runs cal 241 38 [v0, vI w] [vI x0] I = runs cal 241 39 [v0, vI w] [vI w, vI x0] I := runs_to (ins_of mI_241 (by rfl)) rfl rfl
theorem r241_39 : runs cal 241 39 [v0, v1] [vI x0, vI x1] I = if x1 < x0 then runs cal 241 49 [v0, v1] [] I else runs cal 241 42 [v0, v1] [] I := st_cmp_lt (ins_of mI_241 (by rfl)) (by decide)
theorem r241_42 : runs cal 241 42 [vR 70, v1] [] I = runs cal 241 43 [vR 70, v1] [vR 70] I := runs_to (ins_of mI_241 (by rfl)) rfl rfl
theorem r241_43 : runs cal 241 43 [v0, v1] [vR 70] I = (cal 240 [vR 70] I).bind (fun q => runs cal 241 46 [v0, v1] (pushR q.1 []) q.2) := st_call (st := false) (ins_of mI_241 (by rfl)) mC_241 mr_11_391 (by decide) mS_240 mN_240 rfl (Nat.le_of_ble_eq_true rfl) rfl rfl (Or.inr ⟨_, _, rfl, rcv mC_240 rfl wid_241 (by decide +kernel)⟩) (Or.inl (wid_241.trans wid_240.symm))
theorem r241_46 : runs cal 241 46 [v0, v1] [] I = runs cal 241 0 [v0, v1] [] I := st_goto (ins_of mI_241 (by rfl)) (by decide)
theorem r241_49 : runs cal 241 49 [v0, v1] [] I = some (none, I) := st_ret (q := none) (k := 3) (ins_of mI_241 (by rfl)) rfl (by decide) mR_241 rfl trivial
theorem r242_0 : runs cal 242 0 [v0, vL w, v2, v3, v4] [] I = runs cal 242 1 [v0, vL w, v2, v3, v4] [vL w] I := runs_to (ins_of mI_242 (by rfl)) rfl rfl
theorem r242_1 : runs cal 242 1 [v0, v1, v2, v3, v4] [vL x0] I = runs cal 242 2 [v0, v1, kill v2, vL x0, vR 0] [] I := runs_to (ins_of mI_242 (by rfl)) rfl rfl
theorem r242_2 : runs cal 242 2 [vR 70, v1, v2, v3, v4] [] I = runs cal 242 3 [vR 70, v1, v2, v3, v4] [vR 70] I := runs_to (ins_of mI_242 (by rfl)) rfl rfl
theorem r242_3 : runs cal 242 3 [v0, v1, v2, v3, v4] [vR 70] I = runs cal 242 6 [v0, v1, v2, v3, v4] [vI (I 70 34)] I := st_getI (ins_of mI_242 (by rfl)) mC_242 (by decide) fr_11_382 cT_70 (wdc wid_242 wd_70) (Or.inl rfl)
theorem r242_6 : runs cal 242 6 [v0, v1, v2, v3, v4] [vI x0] I = if 0 < x0 then runs cal 242 9 [v0, v1, v2, v3, v4] [] I else runs cal 242 73 [v0, v1, v2, v3, v4] [] I := st_if_le (ins_of mI_242 (by rfl)) (by decide)
theorem r242_9 : runs cal 242 9 [vR 70, v1, v2, v3, v4] [] I = runs cal 242 10 [vR 70, v1, v2, v3, v4] [vR 70] I := runs_to (ins_of mI_242 (by rfl)) rfl rfl
theorem r242_10 : runs cal 242 10 [v0, v1, v2, v3, v4] [vR 70] I = runs cal 242 13 [v0, v1, v2, v3, v4] [vR 87] I := st_getR (ins_of mI_242 (by rfl)) mC_242 (by decide) fr_11_61 cT_70 (wdc wid_242 wd_70) rfl rfl
theorem r242_13 : runs cal 242 13 [vR 70, v1, v2, v3, v4] [vR 87] I = runs cal 242 14 [vR 70, v1, v2, v3, v4] [vR 70, vR 87] I := runs_to (ins_of mI_242 (by rfl)) rfl rfl
theorem r242_14 : runs cal 242 14 [v0, v1, v2, v3, v4] [vR 70, vR 87] I = runs cal 242 17 [v0, v1, v2, v3, v4] [vI (I 70 34), vR 87] I := st_getI (ins_of mI_242 (by rfl)) mC_242 (by decide) fr_11_382 cT_70 (wdc wid_242 wd_70) (Or.inl rfl)
theorem r242_17 : runs cal 242 17 [v0, v1, v2, v3, v4] [vI x0, vR 87] I = runs cal 242 18 [v0, v1, v2, v3, v4] [vI (1), vI x0, vR 87] I := runs_to (ins_of mI_242 (by rfl)) rfl rfl
theorem r242_18 : runs cal 242 18 [v0, v1, v2, v3, v4] [vI x0, vI x1, vR 87] I = runs cal 242 19 [v0, v1, v2, v3, v4] [vI (isub x1 x0), vR 87] I := runs_to (ins_of mI_242 (by rfl)) rfl rfl
theorem r242_19 : runs cal 242 19 [v0, v1, v2, v3, v4] [vI x0, vR 87] I = if 0 ≤ x0 ∧ x0 < 128 then runs cal 242 20 [v0, v1, v2, v3, v4] [vI (I 87 x0)] I else none := st_iald (ins_of mI_242 (by rfl)) cT_87 (wdc wid_242 wd_87)
theorem r242_20 : runs cal 242 20 [v0, v1, v2, v3, v4] [vI x0] I = runs cal 242 23 [v0, v1, v2, v3, v4] [vI (1000), vI x0] I := runs_to (ins_of mI_242 (by rfl)) rfl rfl
theorem r242_23 : runs cal 242 23 [v0, v1, v2, v3, v4] [vI x0, vI x1] I = if x0 < x1 then runs cal 242 26 [v0, v1, v2, v3, v4] [] I else runs cal 242 73 [v0, v1, v2, v3, v4] [] I := st_cmp_le (ins_of mI_242 (by rfl)) (by decide)
theorem r242_26 : runs cal 242 26 [vR 70, v1, v2, v3, v4] [] I = runs cal 242 27 [vR 70, v1, v2, v3, v4] [vR 70] I := runs_to (ins_of mI_242 (by rfl)) rfl rfl
theorem r242_27 : runs cal 242 27 [v0, v1, v2, v3, v4] [vR 70] I = runs cal 242 30 [v0, v1, v2, v3, v4] [vR 87] I := st_getR (ins_of mI_242 (by rfl)) mC_242 (by decide) fr_11_61 cT_70 (wdc wid_242 wd_70) rfl rfl
theorem r242_30 : runs cal 242 30 [vR 70, v1, v2, v3, v4] [vR 87] I = runs cal 242 31 [vR 70, v1, v2, v3, v4] [vR 70, vR 87] I := runs_to (ins_of mI_242 (by rfl)) rfl rfl
theorem r242_31 : runs cal 242 31 [v0, v1, v2, v3, v4] [vR 70, vR 87] I = runs cal 242 34 [v0, v1, v2, v3, v4] [vI (I 70 34), vR 87] I := st_getI (ins_of mI_242 (by rfl)) mC_242 (by decide) fr_11_382 cT_70 (wdc wid_242 wd_70) (Or.inl rfl)
theorem r242_34 : runs cal 242 34 [v0, v1, v2, v3, v4] [vI x0, vR 87] I = runs cal 242 35 [v0, v1, v2, v3, v4] [vI (1), vI x0, vR 87] I := runs_to (ins_of mI_242 (by rfl)) rfl rfl
theorem r242_35 : runs cal 242 35 [v0, v1, v2, v3, v4] [vI x0, vI x1, vR 87] I = runs cal 242 36 [v0, v1, v2, v3, v4] [vI (isub x1 x0), vR 87] I := runs_to (ins_of mI_242 (by rfl)) rfl rfl
theorem r242_36 : runs cal 242 36 [v0, v1, v2, v3, v4] [vI x0, vR 87] I = if 0 ≤ x0 ∧ x0 < 128 then runs cal 242 37 [v0, v1, v2, v3, v4] [vI (I 87 x0)] I else none := st_iald (ins_of mI_242 (by rfl)) cT_87 (wdc wid_242 wd_87)
theorem r242_37 : runs cal 242 37 [v0, v1, v2, v3, v4] [vI x0] I = runs cal 242 40 [v0, v1, v2, v3, v4] [vI (1001), vI x0] I := runs_to (ins_of mI_242 (by rfl)) rfl rfl
theorem r242_40 : runs cal 242 40 [v0, v1, v2, v3, v4] [vI x0, vI x1] I = if x1 = x0 then runs cal 242 43 [v0, v1, v2, v3, v4] [] I else runs cal 242 57 [v0, v1, v2, v3, v4] [] I := st_cmp_ne (ins_of mI_242 (by rfl)) (by decide)
theorem r242_43 : runs cal 242 43 [v0, v1, v2, vL w, v4] [] I = runs cal 242 44 [v0, v1, v2, vL w, v4] [vL w] I := runs_to (ins_of mI_242 (by rfl)) rfl rfl
theorem r242_44 : runs cal 242 44 [v0, v1, v2, v3, v4] [vL x0] I = runs cal 242 45 [v0, v1, v2, v3, v4] [vL 0, vL x0] I := runs_to (ins_of mI_242 (by rfl)) rfl rfl
theorem r242_45 : runs cal 242 45 [v0, v1, v2, v3, v4] [vL x0, vL x1] I = if x1 = x0 then runs cal 242 49 [v0, v1, v2, v3, v4] [] I else runs cal 242 53 [v0, v1, v2, v3, v4] [] I := st_lc_ne (ins_of mI_242 (by rfl)) (ins_of mI_242 (by rfl)) (by decide)
theorem r242_46 : runs cal 242 46 [v0, v1, v2, v3, v4] [vI x0] I = if x0 = 0 then runs cal 242 49 [v0, v1, v2, v3, v4] [] I else runs cal 242 53 [v0, v1, v2, v3, v4] [] I := st_if_ne (ins_of mI_242 (by rfl)) (by decide)
theorem r242_49 : runs cal 242 49 [v0, v1, v2, v3, v4] [] I = runs cal 242 50 [v0, v1, v2, v3, v4] [vL 1] I := runs_to (ins_of mI_242 (by rfl)) rfl rfl
theorem r242_50 : runs cal 242 50 [v0, v1, v2, v3, v4] [vL x0] I = runs cal 242 59 [v0, v1, v2, v3, v4] [vL x0] I := st_goto (ins_of mI_242 (by rfl)) (by decide)
theorem r242_53 : runs cal 242 53 [v0, v1, v2, v3, v4] [] I = runs cal 242 54 [v0, v1, v2, v3, v4] [vL 0] I := runs_to (ins_of mI_242 (by rfl)) rfl rfl
theorem r242_54 : runs cal 242 54 [v0, v1, v2, v3, v4] [vL x0] I = runs cal 242 59 [v0, v1, v2, v3, v4] [vL x0] I := st_goto (ins_of mI_242 (by rfl)) (by decide)
theorem r242_57 : runs cal 242 57 [v0, v1, v2, vL w, v4] [] I = runs cal 242 58 [v0, v1, v2, vL w, v4] [vL w] I := runs_to (ins_of mI_242 (by rfl)) rfl rfl
theorem r242_58 : runs cal 242 58 [v0, v1, v2, v3, v4] [vL x0] I = runs cal 242 59 [v0, v1, v2, v3, v4] [vL (lneg x0)] I := runs_to (ins_of mI_242 (by rfl)) rfl rfl
theorem r242_59 : runs cal 242 59 [v0, v1, v2, v3, v4] [vL x0] I = runs cal 242 60 [v0, v1, kill v2, vL x0, vR 0] [] I := runs_to (ins_of mI_242 (by rfl)) rfl rfl
theorem r242_60 : runs cal 242 60 [vR 70, v1, v2, v3, v4] [] I = runs cal 242 61 [vR 70, v1, v2, v3, v4] [vR 70] I := runs_to (ins_of mI_242 (by rfl)) rfl rfl
theorem r242_61 : runs cal 242 61 [v0, v1, v2, v3, v4] [vR 70] I = runs cal 242 62 [v0, v1, v2, v3, v4] [vR 70, vR 70] I := runs_to (ins_of mI_242 (by rfl)) rfl rfl
theorem r242_62 : runs cal 242 62 [v0, v1, v2, v3, v4] [vR 70, vR 70] I = runs cal 242 65 [v0, v1, v2, v3, v4] [vI (I 70 34), vR 70] I := st_getI (ins_of mI_242 (by rfl)) mC_242 (by decide) fr_11_382 cT_70 (wdc wid_242 wd_70) (Or.inl rfl)
theorem r242_65 : runs cal 242 65 [v0, v1, v2, v3, v4] [vI x0, vR 70] I = runs cal 242 66 [v0, v1, v2, v3, v4] [vI (1), vI x0, vR 70] I := runs_to (ins_of mI_242 (by rfl)) rfl rfl
theorem r242_66 : runs cal 242 66 [v0, v1, v2, v3, v4] [vI x0, vI x1, vR 70] I = runs cal 242 67 [v0, v1, v2, v3, v4] [vI (isub x1 x0), vR 70] I := runs_to (ins_of mI_242 (by rfl)) rfl rfl
theorem r242_67 : runs cal 242 67 [v0, v1, v2, v3, v4] [vI x0, vR 70] I = runs cal 242 70 [v0, v1, v2, v3, v4] [] (mset I 70 34 x0) := st_putI (ins_of mI_242 (by rfl)) mC_242 fr_11_382 cT_70 (wdc wid_242 wd_70) rfl
theorem r242_70 : runs cal 242 70 [v0, v1, v2, v3, v4] [] I = runs cal 242 2 [v0, v1, v2, v3, v4] [] I := st_goto (ins_of mI_242 (by rfl)) (by decide)
theorem r242_73 : runs cal 242 73 [vR 70, v1, v2, v3, v4] [] I = runs cal 242 74 [vR 70, v1, v2, v3, v4] [vR 70] I := runs_to (ins_of mI_242 (by rfl)) rfl rfl
theorem r242_74 : runs cal 242 74 [v0, v1, v2, v3, v4] [vR 70] I = runs cal 242 77 [v0, v1, v2, v3, v4] [vR 86] I := st_getR (ins_of mI_242 (by rfl)) mC_242 (by decide) fr_11_58 cT_70 (wdc wid_242 wd_70) rfl rfl
theorem r242_77 : runs cal 242 77 [vR 70, v1, v2, v3, v4] [vR 86] I = runs cal 242 78 [vR 70, v1, v2, v3, v4] [vR 70, vR 86] I := runs_to (ins_of mI_242 (by rfl)) rfl rfl
theorem r242_78 : runs cal 242 78 [v0, v1, v2, v3, v4] [vR 70, vR 86] I = runs cal 242 81 [v0, v1, v2, v3, v4] [vI (I 70 32), vR 86] I := st_getI (ins_of mI_242 (by rfl)) mC_242 (by decide) fr_11_385 cT_70 (wdc wid_242 wd_70) (Or.inl rfl)
theorem r242_81 : runs cal 242 81 [v0, v1, v2, vL w, v4] [vI x0, vR 86] I = runs cal 242 82 [v0, v1, v2, vL w, v4] [vL w, vI x0, vR 86] I := runs_to (ins_of mI_242 (by rfl)) rfl rfl
theorem r242_82 : runs cal 242 82 [v0, v1, v2, v3, v4] [vL x0, vI x1, vR 86] I = if 0 ≤ x1 ∧ x1 < 64 then runs cal 242 83 [v0, v1, v2, v3, v4] [] (mset I 86 x1 x0) else none := st_last (ins_of mI_242 (by rfl)) cT_86 (wdc wid_242 wd_86)
theorem r242_83 : runs cal 242 83 [vR 70, v1, v2, v3, v4] [] I = runs cal 242 84 [vR 70, v1, v2, v3, v4] [vR 70] I := runs_to (ins_of mI_242 (by rfl)) rfl rfl
theorem r242_84 : runs cal 242 84 [v0, v1, v2, v3, v4] [vR 70] I = runs cal 242 85 [v0, v1, v2, v3, v4] [vR 70, vR 70] I := runs_to (ins_of mI_242 (by rfl)) rfl rfl
theorem r242_85 : runs cal 242 85 [v0, v1, v2, v3, v4] [vR 70, vR 70] I = runs cal 242 88 [v0, v1, v2, v3, v4] [vI (I 70 32), vR 70] I := st_getI (ins_of mI_242 (by rfl)) mC_242 (by decide) fr_11_385 cT_70 (wdc wid_242 wd_70) (Or.inl rfl)
theorem r242_88 : runs cal 242 88 [v0, v1, v2, v3, v4] [vI x0, vR 70] I = runs cal 242 89 [v0, v1, v2, v3, v4] [vI (1), vI x0, vR 70] I := runs_to (ins_of mI_242 (by rfl)) rfl rfl
theorem r242_89 : runs cal 242 89 [v0, v1, v2, v3, v4] [vI x0, vI x1, vR 70] I = runs cal 242 90 [v0, v1, v2, v3, v4] [vI (iadd x1 x0), vR 70] I := runs_to (ins_of mI_242 (by rfl)) rfl rfl
theorem r242_90 : runs cal 242 90 [v0, v1, v2, v3, v4] [vI x0, vR 70] I = runs cal 242 93 [v0, v1, v2, v3, v4] [] (mset I 70 32 x0) := st_putI (ins_of mI_242 (by rfl)) mC_242 fr_11_385 cT_70 (wdc wid_242 wd_70) rfl
theorem r242_93 : runs cal 242 93 [v0, v1, v2, v3, v4] [] I = some (none, I) := st_ret (q := none) (k := 3) (ins_of mI_242 (by rfl)) rfl (by decide) mR_242 rfl trivial
theorem r243_0 : runs cal 243 0 [vI w] [] I = runs cal 243 1 [vI w] [vI w] I := runs_to (ins_of mI_243 (by rfl)) rfl rfl
theorem r243_1 : runs cal 243 1 [v0] [vI x0] I = runs cal 243 3 [v0] [vI (97), vI x0] I := runs_to (ins_of mI_243 (by rfl)) rfl rfl
theorem r243_3 : runs cal 243 3 [v0] [vI x0, vI x1] I = if x1 = x0 then runs cal 243 6 [v0] [] I else runs cal 243 10 [v0] [] I := st_cmp_ne (ins_of mI_243 (by rfl)) (by decide)
theorem r243_6 : runs cal 243 6 [v0] [] I = runs cal 243 7 [v0] [vI (0)] I := runs_to (ins_of mI_243 (by rfl)) rfl rfl
theorem r243_7 : runs cal 243 7 [v0] [vI x0] I = runs cal 243 61 [v0] [vI x0] I := st_goto (ins_of mI_243 (by rfl)) (by decide)
theorem r243_10 : runs cal 243 10 [vI w] [] I = runs cal 243 11 [vI w] [vI w] I := runs_to (ins_of mI_243 (by rfl)) rfl rfl
theorem r243_11 : runs cal 243 11 [v0] [vI x0] I = runs cal 243 13 [v0] [vI (110), vI x0] I := runs_to (ins_of mI_243 (by rfl)) rfl rfl
theorem r243_13 : runs cal 243 13 [v0] [vI x0, vI x1] I = if x1 = x0 then runs cal 243 16 [v0] [] I else runs cal 243 20 [v0] [] I := st_cmp_ne (ins_of mI_243 (by rfl)) (by decide)
theorem r243_16 : runs cal 243 16 [v0] [] I = runs cal 243 17 [v0] [vI (1)] I := runs_to (ins_of mI_243 (by rfl)) rfl rfl
theorem r243_17 : runs cal 243 17 [v0] [vI x0] I = runs cal 243 61 [v0] [vI x0] I := st_goto (ins_of mI_243 (by rfl)) (by decide)
theorem r243_20 : runs cal 243 20 [vI w] [] I = runs cal 243 21 [vI w] [vI w] I := runs_to (ins_of mI_243 (by rfl)) rfl rfl
theorem r243_21 : runs cal 243 21 [v0] [vI x0] I = runs cal 243 23 [v0] [vI (99), vI x0] I := runs_to (ins_of mI_243 (by rfl)) rfl rfl
theorem r243_23 : runs cal 243 23 [v0] [vI x0, vI x1] I = if x1 = x0 then runs cal 243 26 [v0] [] I else runs cal 243 30 [v0] [] I := st_cmp_ne (ins_of mI_243 (by rfl)) (by decide)
theorem r243_26 : runs cal 243 26 [v0] [] I = runs cal 243 27 [v0] [vI (2)] I := runs_to (ins_of mI_243 (by rfl)) rfl rfl
theorem r243_27 : runs cal 243 27 [v0] [vI x0] I = runs cal 243 61 [v0] [vI x0] I := st_goto (ins_of mI_243 (by rfl)) (by decide)
theorem r243_30 : runs cal 243 30 [vI w] [] I = runs cal 243 31 [vI w] [vI w] I := runs_to (ins_of mI_243 (by rfl)) rfl rfl
theorem r243_31 : runs cal 243 31 [v0] [vI x0] I = runs cal 243 33 [v0] [vI (98), vI x0] I := runs_to (ins_of mI_243 (by rfl)) rfl rfl
theorem r243_33 : runs cal 243 33 [v0] [vI x0, vI x1] I = if x1 = x0 then runs cal 243 36 [v0] [] I else runs cal 243 40 [v0] [] I := st_cmp_ne (ins_of mI_243 (by rfl)) (by decide)
theorem r243_36 : runs cal 243 36 [v0] [] I = runs cal 243 37 [v0] [vI (3)] I := runs_to (ins_of mI_243 (by rfl)) rfl rfl
theorem r243_37 : runs cal 243 37 [v0] [vI x0] I = runs cal 243 61 [v0] [vI x0] I := st_goto (ins_of mI_243 (by rfl)) (by decide)
theorem r243_40 : runs cal 243 40 [vI w] [] I = runs cal 243 41 [vI w] [vI w] I := runs_to (ins_of mI_243 (by rfl)) rfl rfl
theorem r243_41 : runs cal 243 41 [v0] [vI x0] I = runs cal 243 43 [v0] [vI (107), vI x0] I := runs_to (ins_of mI_243 (by rfl)) rfl rfl
theorem r243_43 : runs cal 243 43 [v0] [vI x0, vI x1] I = if x1 = x0 then runs cal 243 46 [v0] [] I else runs cal 243 50 [v0] [] I := st_cmp_ne (ins_of mI_243 (by rfl)) (by decide)
theorem r243_46 : runs cal 243 46 [v0] [] I = runs cal 243 47 [v0] [vI (4)] I := runs_to (ins_of mI_243 (by rfl)) rfl rfl
theorem r243_47 : runs cal 243 47 [v0] [vI x0] I = runs cal 243 61 [v0] [vI x0] I := st_goto (ins_of mI_243 (by rfl)) (by decide)
theorem r243_50 : runs cal 243 50 [vI w] [] I = runs cal 243 51 [vI w] [vI w] I := runs_to (ins_of mI_243 (by rfl)) rfl rfl
theorem r243_51 : runs cal 243 51 [v0] [vI x0] I = runs cal 243 53 [v0] [vI (116), vI x0] I := runs_to (ins_of mI_243 (by rfl)) rfl rfl
theorem r243_53 : runs cal 243 53 [v0] [vI x0, vI x1] I = if x1 = x0 then runs cal 243 56 [v0] [] I else runs cal 243 60 [v0] [] I := st_cmp_ne (ins_of mI_243 (by rfl)) (by decide)
theorem r243_56 : runs cal 243 56 [v0] [] I = runs cal 243 57 [v0] [vI (5)] I := runs_to (ins_of mI_243 (by rfl)) rfl rfl
theorem r243_57 : runs cal 243 57 [v0] [vI x0] I = runs cal 243 61 [v0] [vI x0] I := st_goto (ins_of mI_243 (by rfl)) (by decide)
theorem r243_60 : runs cal 243 60 [v0] [] I = runs cal 243 61 [v0] [vI (-1)] I := runs_to (ins_of mI_243 (by rfl)) rfl rfl
theorem r243_61 : runs cal 243 61 [v0] [vI x0] I = some (some (vI x0), I) := st_ret (q := some (vI x0)) (k := 0) (ins_of mI_243 (by rfl)) rfl (by decide) mR_243 rfl trivial
theorem r244_0 : runs cal 244 0 [vI w] [] I = runs cal 244 1 [vI w] [vI w] I := runs_to (ins_of mI_244 (by rfl)) rfl rfl
theorem r244_1 : runs cal 244 1 [v0] [vI x0] I = runs cal 244 2 [v0] [vL x0] I := runs_to (ins_of mI_244 (by rfl)) rfl rfl
theorem r244_2 : runs cal 244 2 [v0] [vL x0] I = runs cal 244 5 [v0] [vL (48), vL x0] I := runs_to (ins_of mI_244 (by rfl)) rfl (by simp only [stepI, ldk2, mC_244]; rfl)
theorem r244_5 : runs cal 244 5 [v0] [vL x0, vL x1] I = runs cal 244 8 [v0] [vL (57), vL x0, vL x1] I := runs_to (ins_of mI_244 (by rfl)) rfl (by simp only [stepI, ldk2, mC_244]; rfl)
theorem r244_8 : runs cal 244 8 [v0] [vL x0, vL x1, vL x2] I = (cal 142 [vL x2, vL x1, vL x0] I).bind (fun q => runs cal 244 11 [v0] (pushR q.1 []) q.2) := st_call (st := true) (ins_of mI_244 (by rfl)) mC_244 mr_11_121 (by decide) mS_142 mN_142 rfl (Nat.le_of_ble_eq_true rfl) rfl rfl (Or.inl rfl) (Or.inl (wid_244.trans wid_142.symm))
theorem r244_11 : runs cal 244 11 [v0] [vI x0] I = if x0 = 0 ∨ x0 = 1 then some (some (vI x0), I) else none := st_retZ (ins_of mI_244 (by rfl)) mR_244 (Or.inl rfl)
theorem r245_0 : runs cal 245 0 [vR 70, v1, v2, v3] [] I = runs cal 245 1 [vR 70, v1, v2, v3] [vR 70] I := runs_to (ins_of mI_245 (by rfl)) rfl rfl
theorem r245_1 : runs cal 245 1 [v0, v1, v2, v3] [vR 70] I = runs cal 245 4 [v0, v1, v2, v3] [vI (I 70 29)] I := st_getI (ins_of mI_245 (by rfl)) mC_245 (by decide) fr_11_373 cT_70 (wdc wid_245 wd_70) (Or.inl rfl)
theorem r245_4 : runs cal 245 4 [vR b0, v1, v2, v3] [vI x0] I = runs cal 245 5 [vR b0, vI x0, v2, v3] [] I := runs_to (ins_of mI_245 (by rfl)) rfl rfl
theorem r245_5 : runs cal 245 5 [v0, v1, v2, v3] [] I = runs cal 245 6 [v0, v1, v2, v3] [vL 0] I := runs_to (ins_of mI_245 (by rfl)) rfl rfl
theorem r245_6 : runs cal 245 6 [v0, vI u, v2, v3] [vL x0] I = runs cal 245 7 [v0, vI u, vL x0, vR 0] [] I := runs_to (ins_of mI_245 (by rfl)) rfl rfl
theorem r245_7 : runs cal 245 7 [vR 70, v1, v2, v3] [] I = runs cal 245 8 [vR 70, v1, v2, v3] [vR 70] I := runs_to (ins_of mI_245 (by rfl)) rfl rfl
theorem r245_8 : runs cal 245 8 [v0, v1, v2, v3] [vR 70] I = runs cal 245 11 [v0, v1, v2, v3] [vI (I 70 29)] I := st_getI (ins_of mI_245 (by rfl)) mC_245 (by decide) fr_11_373 cT_70 (wdc wid_245 wd_70) (Or.inl rfl)
theorem r245_11 : runs cal 245 11 [vR 70, v1, v2, v3] [vI x0] I = runs cal 245 12 [vR 70, v1, v2, v3] [vR 70, vI x0] I := runs_to (ins_of mI_245 (by rfl)) rfl rfl
theorem r245_12 : runs cal 245 12 [v0, v1, v2, v3] [vR 70, vI x1] I = (cal 236 [vR 70] I).bind (fun q => runs cal 245 15 [v0, v1, v2, v3] (pushR q.1 [vI x1]) q.2) := st_call (st := false) (ins_of mI_245 (by rfl)) mC_245 mr_11_376 (by decide) mS_236 mN_236 rfl (Nat.le_of_ble_eq_true rfl) rfl rfl (Or.inr ⟨_, _, rfl, rcv mC_236 rfl wid_245 (by decide +kernel)⟩) (Or.inl (wid_245.trans wid_236.symm))
theorem r245_15 : runs cal 245 15 [v0, v1, v2, v3] [vI x0, vI x1] I = if x1 < x0 then runs cal 245 18 [v0, v1, v2, v3] [] I else runs cal 245 88 [v0, v1, v2, v3] [] I := st_cmp_ge (ins_of mI_245 (by rfl)) (by decide)
theorem r245_18 : runs cal 245 18 [vR 70, v1, v2, v3] [] I = runs cal 245 19 [vR 70, v1, v2, v3] [vR 70] I := runs_to (ins_of mI_245 (by rfl)) rfl rfl
theorem r245_19 : runs cal 245 19 [vR 70, v1, v2, v3] [vR 70] I = runs cal 245 20 [vR 70, v1, v2, v3] [vR 70, vR 70] I := runs_to (ins_of mI_245 (by rfl)) rfl rfl
theorem r245_20 : runs cal 245 20 [v0, v1, v2, v3] [vR 70, vR 70] I = runs cal 245 23 [v0, v1, v2, v3] [vI (I 70 29), vR 70] I := st_getI (ins_of mI_245 (by rfl)) mC_245 (by decide) fr_11_373 cT_70 (wdc wid_245 wd_70) (Or.inl rfl)
theorem r245_23 : runs cal 245 23 [v0, v1, v2, v3] [vI x0, vR 70] I = (cal 237 [vR 70, vI x0] I).bind (fun q => runs cal 245 26 [v0, v1, v2, v3] (pushR q.1 []) q.2) := st_call (st := false) (ins_of mI_245 (by rfl)) mC_245 mr_11_379 (by decide) mS_237 mN_237 rfl (Nat.le_of_ble_eq_true rfl) rfl rfl (Or.inr ⟨_, _, rfl, rcv mC_237 rfl wid_245 (by decide +kernel)⟩) (Or.inl (wid_245.trans wid_237.symm))
theorem r245_26 : runs cal 245 26 [v0, v1, v2, v3] [vI x0] I = (cal 244 [vI x0] I).bind (fun q => runs cal 245 29 [v0, v1, v2, v3] (pushR q.1 []) q.2) := st_call (st := true) (ins_of mI_245 (by rfl)) mC_245 mr_11_394 (by decide) mS_244 mN_244 rfl (Nat.le_of_ble_eq_true rfl) rfl rfl (Or.inl rfl) (Or.inl (wid_245.trans wid_244.symm))
theorem r245_29 : runs cal 245 29 [v0, v1, v2, v3] [vI x0] I = if x0 = 0 then runs cal 245 88 [v0, v1, v2, v3] [] I else runs cal 245 32 [v0, v1, v2, v3] [] I := st_if_eq (ins_of mI_245 (by rfl)) (by decide)
theorem r245_32 : runs cal 245 32 [vR 70, v1, v2, v3] [] I = runs cal 245 33 [vR 70, v1, v2, v3] [vR 70] I := runs_to (ins_of mI_245 (by rfl)) rfl rfl
theorem r245_33 : runs cal 245 33 [v0, v1, v2, v3] [vR 70] I = runs cal 245 36 [v0, v1, v2, v3] [vI (I 70 29)] I := st_getI (ins_of mI_245 (by rfl)) mC_245 (by decide) fr_11_373 cT_70 (wdc wid_245 wd_70) (Or.inl rfl)
theorem r245_36 : runs cal 245 36 [v0, vI w, v2, v3] [vI x0] I = runs cal 245 37 [v0, vI w, v2, v3] [vI w, vI x0] I := runs_to (ins_of mI_245 (by rfl)) rfl rfl
theorem r245_37 : runs cal 245 37 [v0, v1, v2, v3] [vI x0, vI x1] I = runs cal 245 38 [v0, v1, v2, v3] [vI (isub x1 x0)] I := runs_to (ins_of mI_245 (by rfl)) rfl rfl
theorem r245_38 : runs cal 245 38 [v0, v1, v2, v3] [vI x0] I = runs cal 245 40 [v0, v1, v2, v3] [vI (6), vI x0] I := runs_to (ins_of mI_245 (by rfl)) rfl rfl
theorem r245_40 : runs cal 245 40 [v0, v1, v2, v3] [vI x0, vI x1] I = if x1 = x0 then runs cal 245 43 [v0, v1, v2, v3] [] I else runs cal 245 55 [v0, v1, v2, v3] [] I := st_cmp_ne (ins_of mI_245 (by rfl)) (by decide)
theorem r245_43 : runs cal 245 43 [vR 70, v1, v2, v3] [] I = runs cal 245 44 [vR 70, v1, v2, v3] [vR 70] I := runs_to (ins_of mI_245 (by rfl)) rfl rfl
theorem r245_44 : runs cal 245 44 [v0, v1, v2, v3] [vR 70] I = runs cal 245 46 [v0, v1, v2, v3] [vI (10), vR 70] I := runs_to (ins_of mI_245 (by rfl)) rfl rfl
theorem r245_46 : runs cal 245 46 [v0, vI w, v2, v3] [vI x0, vR 70] I = runs cal 245 47 [v0, vI w, v2, v3] [vI w, vI x0, vR 70] I := runs_to (ins_of mI_245 (by rfl)) rfl rfl
theorem r245_47 : runs cal 245 47 [v0, v1, v2, v3] [vI x0, vI x1, vR 70] I = runs cal 245 48 [v0, v1, v2, v3] [vI (imul x1 x0), vR 70] I := runs_to (ins_of mI_245 (by rfl)) rfl rfl
theorem r245_48 : runs cal 245 48 [v0, v1, v2, v3] [vI x0, vR 70] I = runs cal 245 49 [v0, v1, v2, v3] [vI (2), vI x0, vR 70] I := runs_to (ins_of mI_245 (by rfl)) rfl rfl
theorem r245_49 : runs cal 245 49 [v0, v1, v2, v3] [vI x0, vI x1, vR 70] I = runs cal 245 50 [v0, v1, v2, v3] [vI (iadd x1 x0), vR 70] I := runs_to (ins_of mI_245 (by rfl)) rfl rfl
theorem r245_50 : runs cal 245 50 [v0, v1, v2, v3] [vI x0, vR 70] I = runs cal 245 53 [v0, v1, v2, v3] [] (mset I 70 30 x0) := st_putI (ins_of mI_245 (by rfl)) mC_245 fr_11_397 cT_70 (wdc wid_245 wd_70) rfl
theorem r245_53 : runs cal 245 53 [v0, v1, v2, v3] [] I = runs cal 245 54 [v0, v1, v2, v3] [vL 0] I := runs_to (ins_of mI_245 (by rfl)) rfl rfl
theorem r245_54 : runs cal 245 54 [v0, v1, v2, v3] [vL x0] I = some (some (vL x0), I) := st_ret (q := some (vL x0)) (k := 1) (ins_of mI_245 (by rfl)) rfl (by decide) mR_245 rfl trivial
theorem r245_55 : runs cal 245 55 [v0, v1, v2, v3] [] I = runs cal 245 58 [v0, v1, v2, v3] [vL (10)] I := runs_to (ins_of mI_245 (by rfl)) rfl (by simp only [stepI, ldk2, mC_245]; rfl)
theorem r245_58 : runs cal 245 58 [v0, v1, vL w, v3] [vL x0] I = runs cal 245 59 [v0, v1, vL w, v3] [vL w, vL x0] I := runs_to (ins_of mI_245 (by rfl)) rfl rfl
theorem r245_59 : runs cal 245 59 [v0, v1, v2, v3] [vL x0, vL x1] I = runs cal 245 60 [v0, v1, v2, v3] [vL (lmul x1 x0)] I := runs_to (ins_of mI_245 (by rfl)) rfl rfl
theorem r245_60 : runs cal 245 60 [vR 70, v1, v2, v3] [vL x0] I = runs cal 245 61 [vR 70, v1, v2, v3] [vR 70, vL x0] I := runs_to (ins_of mI_245 (by rfl)) rfl rfl
theorem r245_61 : runs cal 245 61 [vR 70, v1, v2, v3] [vR 70, vL x1] I = runs cal 245 62 [vR 70, v1, v2, v3] [vR 70, vR 70, vL x1] I := runs_to (ins_of mI_245 (by rfl)) rfl rfl
theorem r245_62 : runs cal 245 62 [v0, v1, v2, v3] [vR 70, vR 70, vL x2] I = runs cal 245 65 [v0, v1, v2, v3] [vI (I 70 29), vR 70, vL x2] I := st_getI (ins_of mI_245 (by rfl)) mC_245 (by decide) fr_11_373 cT_70 (wdc wid_245 wd_70) (Or.inl rfl)
theorem r245_65 : runs cal 245 65 [v0, v1, v2, v3] [vI x0, vR 70, vL x2] I = (cal 237 [vR 70, vI x0] I).bind (fun q => runs cal 245 68 [v0, v1, v2, v3] (pushR q.1 [vL x2]) q.2) := st_call (st := false) (ins_of mI_245 (by rfl)) mC_245 mr_11_379 (by decide) mS_237 mN_237 rfl (Nat.le_of_ble_eq_true rfl) rfl rfl (Or.inr ⟨_, _, rfl, rcv mC_237 rfl wid_245 (by decide +kernel)⟩) (Or.inl (wid_245.trans wid_237.symm))
theorem r245_68 : runs cal 245 68 [v0, v1, v2, v3] [vI x0, vL x1] I = runs cal 245 69 [v0, v1, v2, v3] [vL x0, vL x1] I := runs_to (ins_of mI_245 (by rfl)) rfl rfl
theorem r245_69 : runs cal 245 69 [v0, v1, v2, v3] [vL x0, vL x1] I = runs cal 245 70 [v0, v1, v2, v3] [vL (ladd x1 x0)] I := runs_to (ins_of mI_245 (by rfl)) rfl rfl
theorem r245_70 : runs cal 245 70 [v0, v1, v2, v3] [vL x0] I = runs cal 245 73 [v0, v1, v2, v3] [vL (48), vL x0] I := runs_to (ins_of mI_245 (by rfl)) rfl (by simp only [stepI, ldk2, mC_245]; rfl)
theorem r245_73 : runs cal 245 73 [v0, v1, v2, v3] [vL x0, vL x1] I = runs cal 245 74 [v0, v1, v2, v3] [vL (lsub x1 x0)] I := runs_to (ins_of mI_245 (by rfl)) rfl rfl
theorem r245_74 : runs cal 245 74 [v0, vI u, v2, v3] [vL x0] I = runs cal 245 75 [v0, vI u, vL x0, vR 0] [] I := runs_to (ins_of mI_245 (by rfl)) rfl rfl
theorem r245_75 : runs cal 245 75 [vR 70, v1, v2, v3] [] I = runs cal 245 76 [vR 70, v1, v2, v3] [vR 70] I := runs_to (ins_of mI_245 (by rfl)) rfl rfl
theorem r245_76 : runs cal 245 76 [v0, v1, v2, v3] [vR 70] I = runs cal 245 77 [v0, v1, v2, v3] [vR 70, vR 70] I := runs_to (ins_of mI_245 (by rfl)) rfl rfl
theorem r245_77 : runs cal 245 77 [v0, v1, v2, v3] [vR 70, vR 70] I = runs cal 245 80 [v0, v1, v2, v3] [vI (I 70 29), vR 70] I := st_getI (ins_of mI_245 (by rfl)) mC_245 (by decide) fr_11_373 cT_70 (wdc wid_245 wd_70) (Or.inl rfl)
theorem r245_80 : runs cal 245 80 [v0, v1, v2, v3] [vI x0, vR 70] I = runs cal 245 81 [v0, v1, v2, v3] [vI (1), vI x0, vR 70] I := runs_to (ins_of mI_245 (by rfl)) rfl rfl
theorem r245_81 : runs cal 245 81 [v0, v1, v2, v3] [vI x0, vI x1, vR 70] I = runs cal 245 82 [v0, v1, v2, v3] [vI (iadd x1 x0), vR 70] I := runs_to (ins_of mI_245 (by rfl)) rfl rfl
theorem r245_82 : runs cal 245 82 [v0, v1, v2, v3] [vI x0, vR 70] I = runs cal 245 85 [v0, v1, v2, v3] [] (mset I 70 29 x0) := st_putI (ins_of mI_245 (by rfl)) mC_245 fr_11_373 cT_70 (wdc wid_245 wd_70) rfl
theorem r245_85 : runs cal 245 85 [v0, v1, v2, v3] [] I = runs cal 245 7 [v0, v1, v2, v3] [] I := st_goto (ins_of mI_245 (by rfl)) (by decide)
theorem r245_88 : runs cal 245 88 [v0, v1, vL w, v3] [] I = runs cal 245 89 [v0, v1, vL w, v3] [vL w] I := runs_to (ins_of mI_245 (by rfl)) rfl rfl
theorem r245_89 : runs cal 245 89 [v0, v1, v2, v3] [vL x0] I = some (some (vL x0), I) := st_ret (q := some (vL x0)) (k := 1) (ins_of mI_245 (by rfl)) rfl (by decide) mR_245 rfl trivial
set_option maxRecDepth 8000 in
theorem r246_0 : runs cal 246 0 [vR 70, v1, v2, v3, v4] [] I = runs cal 246 1 [vR 70, v1, v2, v3, v4] [vR 70] I := runs_to (ins_of mI_246 (by rfl)) rfl rfl
set_option maxRecDepth 8000 in
theorem r246_1 : runs cal 246 1 [v0, v1, v2, v3, v4] [vR 70] I = runs cal 246 2 [v0, v1, v2, v3, v4] [vI (0), vR 70] I := runs_to (ins_of mI_246 (by rfl)) rfl rfl
set_option maxRecDepth 8000 in
theorem r246_2 : runs cal 246 2 [v0, v1, v2, v3, v4] [vI x0, vR 70] I = runs cal 246 5 [v0, v1, v2, v3, v4] [] (mset I 70 29 x0) := st_putI (ins_of mI_246 (by rfl)) mC_246 fr_11_373 cT_70 (wdc wid_246 wd_70) rfl
set_option maxRecDepth 8000 in
theorem r246_5 : runs cal 246 5 [vR 70, v1, v2, v3, v4] [] I = runs cal 246 6 [vR 70, v1, v2, v3, v4] [vR 70] I := runs_to (ins_of mI_246 (by rfl)) rfl rfl
set_option maxRecDepth 8000 in
theorem r246_6 : runs cal 246 6 [v0, v1, v2, v3, v4] [vR 70] I = runs cal 246 7 [v0, v1, v2, v3, v4] [vI (-1), vR 70] I := runs_to (ins_of mI_246 (by rfl)) rfl rfl
set_option maxRecDepth 8000 in
theorem r246_7 : runs cal 246 7 [v0, v1, v2, v3, v4] [vI x0, vR 70] I = runs cal 246 10 [v0, v1, v2, v3, v4] [] (mset I 70 30 x0) := st_putI (ins_of mI_246 (by rfl)) mC_246 fr_11_397 cT_70 (wdc wid_246 wd_70) rfl
set_option maxRecDepth 8000 in
theorem r246_10 : runs cal 246 10 [vR 70, v1, v2, v3, v4] [] I = runs cal 246 11 [vR 70, v1, v2, v3, v4] [vR 70] I := runs_to (ins_of mI_246 (by rfl)) rfl rfl
set_option maxRecDepth 8000 in
theorem r246_11 : runs cal 246 11 [v0, v1, v2, v3, v4] [vR 70] I = runs cal 246 12 [v0, v1, v2, v3, v4] [vI (0), vR 70] I := runs_to (ins_of mI_246 (by rfl)) rfl rfl
set_option maxRecDepth 8000 in
theorem r246_12 : runs cal 246 12 [v0, v1, v2, v3, v4] [vI x0, vR 70] I = runs cal 246 15 [v0, v1, v2, v3, v4] [] (mset I 70 32 x0) := st_putI (ins_of mI_246 (by rfl)) mC_246 fr_11_385 cT_70 (wdc wid_246 wd_70) rfl
set_option maxRecDepth 8000 in
theorem r246_15 : runs cal 246 15 [vR 70, v1, v2, v3, v4] [] I = runs cal 246 16 [vR 70, v1, v2, v3, v4] [vR 70] I := runs_to (ins_of mI_246 (by rfl)) rfl rfl
set_option maxRecDepth 8000 in
theorem r246_16 : runs cal 246 16 [v0, v1, v2, v3, v4] [vR 70] I = runs cal 246 17 [v0, v1, v2, v3, v4] [vI (0), vR 70] I := runs_to (ins_of mI_246 (by rfl)) rfl rfl
set_option maxRecDepth 8000 in
theorem r246_17 : runs cal 246 17 [v0, v1, v2, v3, v4] [vI x0, vR 70] I = runs cal 246 20 [v0, v1, v2, v3, v4] [] (mset I 70 34 x0) := st_putI (ins_of mI_246 (by rfl)) mC_246 fr_11_382 cT_70 (wdc wid_246 wd_70) rfl
set_option maxRecDepth 8000 in
theorem r246_20 : runs cal 246 20 [v0, v1, v2, v3, v4] [] I = runs cal 246 21 [v0, v1, v2, v3, v4] [vI (0)] I := runs_to (ins_of mI_246 (by rfl)) rfl rfl
set_option maxRecDepth 8000 in
theorem r246_21 : runs cal 246 21 [vR b0, v1, v2, v3, v4] [vI x0] I = runs cal 246 22 [vR b0, vI x0, v2, v3, v4] [] I := runs_to (ins_of mI_246 (by rfl)) rfl rfl
set_option maxRecDepth 8000 in
theorem r246_22 : runs cal 246 22 [v0, v1, v2, v3, v4] [] I = runs cal 246 23 [v0, v1, v2, v3, v4] [vI (1)] I := runs_to (ins_of mI_246 (by rfl)) rfl rfl
set_option maxRecDepth 8000 in
theorem r246_23 : runs cal 246 23 [v0, vI u, v2, v3, v4] [vI x0] I = runs cal 246 24 [v0, vI u, vI x0, v3, v4] [] I := runs_to (ins_of mI_246 (by rfl)) rfl rfl
set_option maxRecDepth 8000 in
theorem r246_24 : runs cal 246 24 [v0, v1, v2, v3, v4] [] I = runs cal 246 25 [v0, v1, v2, v3, v4] [vI (1)] I := runs_to (ins_of mI_246 (by rfl)) rfl rfl
set_option maxRecDepth 8000 in
theorem r246_25 : runs cal 246 25 [v0, v1, vI u, v3, v4] [vI x0] I = runs cal 246 26 [v0, v1, vI u, vI x0, v4] [] I := runs_to (ins_of mI_246 (by rfl)) rfl rfl
set_option maxRecDepth 8000 in
theorem r246_26 : runs cal 246 26 [v0, v1, v2, vI w, v4] [] I = runs cal 246 27 [v0, v1, v2, vI w, v4] [vI w] I := runs_to (ins_of mI_246 (by rfl)) rfl rfl
set_option maxRecDepth 8000 in
theorem r246_27 : runs cal 246 27 [v0, v1, v2, v3, v4] [vI x0] I = if x0 = 0 then runs cal 246 481 [v0, v1, v2, v3, v4] [] I else runs cal 246 30 [v0, v1, v2, v3, v4] [] I := st_if_eq (ins_of mI_246 (by rfl)) (by decide)
set_option maxRecDepth 8000 in
theorem r246_30 : runs cal 246 30 [vR 70, v1, v2, v3, v4] [] I = runs cal 246 31 [vR 70, v1, v2, v3, v4] [vR 70] I := runs_to (ins_of mI_246 (by rfl)) rfl rfl
set_option maxRecDepth 8000 in
theorem r246_31 : runs cal 246 31 [v0, v1, v2, v3, v4] [vR 70] I = runs cal 246 34 [v0, v1, v2, v3, v4] [vI (I 70 30)] I := st_getI (ins_of mI_246 (by rfl)) mC_246 (by decide) fr_11_397 cT_70 (wdc wid_246 wd_70) (Or.inl rfl)
set_option maxRecDepth 8000 in
theorem r246_34 : runs cal 246 34 [v0, v1, v2, v3, v4] [vI x0] I = runs cal 246 35 [v0, v1, v2, v3, v4] [vI (-1), vI x0] I := runs_to (ins_of mI_246 (by rfl)) rfl rfl
set_option maxRecDepth 8000 in
theorem r246_35 : runs cal 246 35 [v0, v1, v2, v3, v4] [vI x0, vI x1] I = if x1 = x0 then runs cal 246 38 [v0, v1, v2, v3, v4] [] I else runs cal 246 481 [v0, v1, v2, v3, v4] [] I := st_cmp_ne (ins_of mI_246 (by rfl)) (by decide)
set_option maxRecDepth 8000 in
theorem r246_38 : runs cal 246 38 [vR 70, v1, v2, v3, v4] [] I = runs cal 246 39 [vR 70, v1, v2, v3, v4] [vR 70] I := runs_to (ins_of mI_246 (by rfl)) rfl rfl
set_option maxRecDepth 8000 in
theorem r246_39 : runs cal 246 39 [v0, v1, v2, v3, v4] [vR 70] I = (cal 238 [vR 70] I).bind (fun q => runs cal 246 42 [v0, v1, v2, v3, v4] (pushR q.1 []) q.2) := st_call (st := false) (ins_of mI_246 (by rfl)) mC_246 mr_11_402 (by decide) mS_238 mN_238 rfl (Nat.le_of_ble_eq_true rfl) rfl rfl (Or.inr ⟨_, _, rfl, rcv mC_238 rfl wid_246 (by decide +kernel)⟩) (Or.inl (wid_246.trans wid_238.symm))
set_option maxRecDepth 8000 in
theorem r246_42 : runs cal 246 42 [v0, v1, v2, vI u, v4] [vI x0] I = runs cal 246 44 [v0, v1, v2, vI u, vI x0] [] I := runs_to (ins_of mI_246 (by rfl)) rfl rfl
set_option maxRecDepth 8000 in
theorem r246_44 : runs cal 246 44 [v0, v1, vI w, v3, v4] [] I = runs cal 246 45 [v0, v1, vI w, v3, v4] [vI w] I := runs_to (ins_of mI_246 (by rfl)) rfl rfl
set_option maxRecDepth 8000 in
theorem r246_45 : runs cal 246 45 [v0, v1, v2, v3, v4] [vI x0] I = if x0 = 0 then runs cal 246 247 [v0, v1, v2, v3, v4] [] I else runs cal 246 48 [v0, v1, v2, v3, v4] [] I := st_if_eq (ins_of mI_246 (by rfl)) (by decide)
set_option maxRecDepth 8000 in
theorem r246_48 : runs cal 246 48 [v0, v1, v2, v3, vI w] [] I = runs cal 246 50 [v0, v1, v2, v3, vI w] [vI w] I := runs_to (ins_of mI_246 (by rfl)) rfl rfl
set_option maxRecDepth 8000 in
theorem r246_50 : runs cal 246 50 [v0, v1, v2, v3, v4] [vI x0] I = (cal 244 [vI x0] I).bind (fun q => runs cal 246 53 [v0, v1, v2, v3, v4] (pushR q.1 []) q.2) := st_call (st := true) (ins_of mI_246 (by rfl)) mC_246 mr_11_394 (by decide) mS_244 mN_244 rfl (Nat.le_of_ble_eq_true rfl) rfl rfl (Or.inl rfl) (Or.inl (wid_246.trans wid_244.symm))
set_option maxRecDepth 8000 in
theorem r246_53 : runs cal 246 53 [v0, v1, v2, v3, v4] [vI x0] I = if x0 = 0 then runs cal 246 69 [v0, v1, v2, v3, v4] [] I else runs cal 246 56 [v0, v1, v2, v3, v4] [] I := st_if_eq (ins_of mI_246 (by rfl)) (by decide)
set_option maxRecDepth 8000 in
theorem r246_56 : runs cal 246 56 [vR 70, v1, v2, v3, v4] [] I = runs cal 246 57 [vR 70, v1, v2, v3, v4] [vR 70] I := runs_to (ins_of mI_246 (by rfl)) rfl rfl
set_option maxRecDepth 8000 in
theorem r246_57 : runs cal 246 57 [vR 70, v1, v2, v3, v4] [vR 70] I = runs cal 246 58 [vR 70, v1, v2, v3, v4] [vR 70, vR 70] I := runs_to (ins_of mI_246 (by rfl)) rfl rfl
set_option maxRecDepth 8000 in
theorem r246_58 : runs cal 246 58 [v0, v1, v2, v3, v4] [vR 70, vR 70] I = (cal 245 [vR 70] I).bind (fun q => runs cal 246 61 [v0, v1, v2, v3, v4] (pushR q.1 [vR 70]) q.2) := st_call (st := false) (ins_of mI_246 (by rfl)) mC_246 mr_11_405 (by decide) mS_245 mN_245 rfl (Nat.le_of_ble_eq_true rfl) rfl rfl (Or.inr ⟨_, _, rfl, rcv mC_245 rfl wid_246 (by decide +kernel)⟩) (Or.inl (wid_246.trans wid_245.symm))
set_option maxRecDepth 8000 in
theorem r246_61 : runs cal 246 61 [v0, v1, v2, v3, v4] [vL x0, vR 70] I = (cal 242 [vR 70, vL x0] I).bind (fun q => runs cal 246 64 [v0, v1, v2, v3, v4] (pushR q.1 []) q.2) := st_call (st := false) (ins_of mI_246 (by rfl)) mC_246 mr_11_409 (by decide) mS_242 mN_242 rfl (Nat.le_of_ble_eq_true rfl) rfl rfl (Or.inr ⟨_, _, rfl, rcv mC_242 rfl wid_246 (by decide +kernel)⟩) (Or.inl (wid_246.trans wid_242.symm))
set_option maxRecDepth 8000 in
theorem r246_64 : runs cal 246 64 [v0, v1, v2, v3, v4] [] I = runs cal 246 65 [v0, v1, v2, v3, v4] [vI (0)] I := runs_to (ins_of mI_246 (by rfl)) rfl rfl
set_option maxRecDepth 8000 in
theorem r246_65 : runs cal 246 65 [v0, vI u, v2, v3, v4] [vI x0] I = runs cal 246 66 [v0, vI u, vI x0, v3, v4] [] I := runs_to (ins_of mI_246 (by rfl)) rfl rfl
set_option maxRecDepth 8000 in
theorem r246_66 : runs cal 246 66 [v0, v1, v2, v3, v4] [] I = runs cal 246 478 [v0, v1, v2, v3, v4] [] I := st_goto (ins_of mI_246 (by rfl)) (by decide)
set_option maxRecDepth 8000 in
theorem r246_69 : runs cal 246 69 [v0, v1, v2, v3, vI w] [] I = runs cal 246 71 [v0, v1, v2, v3, vI w] [vI w] I := runs_to (ins_of mI_246 (by rfl)) rfl rfl
set_option maxRecDepth 8000 in
theorem r246_71 : runs cal 246 71 [v0, v1, v2, v3, v4] [vI x0] I = (cal 243 [vI x0] I).bind (fun q => runs cal 246 74 [v0, v1, v2, v3, v4] (pushR q.1 []) q.2) := st_call (st := true) (ins_of mI_246 (by rfl)) mC_246 mr_11_412 (by decide) mS_243 mN_243 rfl (Nat.le_of_ble_eq_true rfl) rfl rfl (Or.inl rfl) (Or.inl (wid_246.trans wid_243.symm))
set_option maxRecDepth 8000 in
theorem r246_74 : runs cal 246 74 [v0, v1, v2, v3, v4] [vI x0] I = runs cal 246 75 [v0, v1, v2, v3, v4] [vI (-1), vI x0] I := runs_to (ins_of mI_246 (by rfl)) rfl rfl
set_option maxRecDepth 8000 in
theorem r246_75 : runs cal 246 75 [v0, v1, v2, v3, v4] [vI x0, vI x1] I = if x1 = x0 then runs cal 246 107 [v0, v1, v2, v3, v4] [] I else runs cal 246 78 [v0, v1, v2, v3, v4] [] I := st_cmp_eq (ins_of mI_246 (by rfl)) (by decide)
set_option maxRecDepth 8000 in
theorem r246_78 : runs cal 246 78 [vR 70, v1, v2, v3, v4] [] I = runs cal 246 79 [vR 70, v1, v2, v3, v4] [vR 70] I := runs_to (ins_of mI_246 (by rfl)) rfl rfl
set_option maxRecDepth 8000 in
theorem r246_79 : runs cal 246 79 [v0, v1, v2, v3, v4] [vR 70] I = runs cal 246 80 [v0, v1, v2, v3, v4] [vR 70, vR 70] I := runs_to (ins_of mI_246 (by rfl)) rfl rfl
set_option maxRecDepth 8000 in
theorem r246_80 : runs cal 246 80 [v0, v1, v2, v3, v4] [vR 70, vR 70] I = runs cal 246 83 [v0, v1, v2, v3, v4] [vI (I 70 29), vR 70] I := st_getI (ins_of mI_246 (by rfl)) mC_246 (by decide) fr_11_373 cT_70 (wdc wid_246 wd_70) (Or.inl rfl)
set_option maxRecDepth 8000 in
theorem r246_83 : runs cal 246 83 [v0, v1, v2, v3, v4] [vI x0, vR 70] I = runs cal 246 84 [v0, v1, v2, v3, v4] [vI (1), vI x0, vR 70] I := runs_to (ins_of mI_246 (by rfl)) rfl rfl
set_option maxRecDepth 8000 in
theorem r246_84 : runs cal 246 84 [v0, v1, v2, v3, v4] [vI x0, vI x1, vR 70] I = runs cal 246 85 [v0, v1, v2, v3, v4] [vI (iadd x1 x0), vR 70] I := runs_to (ins_of mI_246 (by rfl)) rfl rfl
set_option maxRecDepth 8000 in
theorem r246_85 : runs cal 246 85 [v0, v1, v2, v3, v4] [vI x0, vR 70] I = runs cal 246 88 [v0, v1, v2, v3, v4] [] (mset I 70 29 x0) := st_putI (ins_of mI_246 (by rfl)) mC_246 fr_11_373 cT_70 (wdc wid_246 wd_70) rfl
set_option maxRecDepth 8000 in
theorem r246_88 : runs cal 246 88 [vR 70, v1, v2, v3, v4] [] I = runs cal 246 89 [vR 70, v1, v2, v3, v4] [vR 70] I := runs_to (ins_of mI_246 (by rfl)) rfl rfl
set_option maxRecDepth 8000 in
theorem r246_89 : runs cal 246 89 [vR 70, v1, v2, v3, v4] [vR 70] I = runs cal 246 90 [vR 70, v1, v2, v3, v4] [vR 70, vR 70] I := runs_to (ins_of mI_246 (by rfl)) rfl rfl
set_option maxRecDepth 8000 in
theorem r246_90 : runs cal 246 90 [v0, v1, v2, v3, v4] [vR 70, vR 70] I = runs cal 246 93 [v0, v1, v2, v3, v4] [vR 88, vR 70] I := st_getR (ins_of mI_246 (by rfl)) mC_246 (by decide) fr_11_64 cT_70 (wdc wid_246 wd_70) rfl rfl
set_option maxRecDepth 8000 in
theorem r246_93 : runs cal 246 93 [v0, v1, v2, v3, vI w] [vR 88, vR 70] I = runs cal 246 95 [v0, v1, v2, v3, vI w] [vI w, vR 88, vR 70] I := runs_to (ins_of mI_246 (by rfl)) rfl rfl
set_option maxRecDepth 8000 in
theorem r246_95 : runs cal 246 95 [v0, v1, v2, v3, v4] [vI x0, vR 88, vR 70] I = (cal 243 [vI x0] I).bind (fun q => runs cal 246 98 [v0, v1, v2, v3, v4] (pushR q.1 [vR 88, vR 70]) q.2) := st_call (st := true) (ins_of mI_246 (by rfl)) mC_246 mr_11_412 (by decide) mS_243 mN_243 rfl (Nat.le_of_ble_eq_true rfl) rfl rfl (Or.inl rfl) (Or.inl (wid_246.trans wid_243.symm))
set_option maxRecDepth 8000 in
theorem r246_98 : runs cal 246 98 [v0, v1, v2, v3, v4] [vI x0, vR 88, vR 70] I = if 0 ≤ x0 ∧ x0 < 6 then runs cal 246 99 [v0, v1, v2, v3, v4] [vL (I 88 x0), vR 70] I else none := st_lald (ins_of mI_246 (by rfl)) cT_88 (wdc wid_246 wd_88)
set_option maxRecDepth 8000 in
theorem r246_99 : runs cal 246 99 [v0, v1, v2, v3, v4] [vL x0, vR 70] I = (cal 242 [vR 70, vL x0] I).bind (fun q => runs cal 246 102 [v0, v1, v2, v3, v4] (pushR q.1 []) q.2) := st_call (st := false) (ins_of mI_246 (by rfl)) mC_246 mr_11_409 (by decide) mS_242 mN_242 rfl (Nat.le_of_ble_eq_true rfl) rfl rfl (Or.inr ⟨_, _, rfl, rcv mC_242 rfl wid_246 (by decide +kernel)⟩) (Or.inl (wid_246.trans wid_242.symm))
set_option maxRecDepth 8000 in
theorem r246_102 : runs cal 246 102 [v0, v1, v2, v3, v4] [] I = runs cal 246 103 [v0, v1, v2, v3, v4] [vI (0)] I := runs_to (ins_of mI_246 (by rfl)) rfl rfl
set_option maxRecDepth 8000 in
theorem r246_103 : runs cal 246 103 [v0, vI u, v2, v3, v4] [vI x0] I = runs cal 246 104 [v0, vI u, vI x0, v3, v4] [] I := runs_to (ins_of mI_246 (by rfl)) rfl rfl
set_option maxRecDepth 8000 in
theorem r246_104 : runs cal 246 104 [v0, v1, v2, v3, v4] [] I = runs cal 246 478 [v0, v1, v2, v3, v4] [] I := st_goto (ins_of mI_246 (by rfl)) (by decide)
set_option maxRecDepth 8000 in
theorem r246_107 : runs cal 246 107 [v0, v1, v2, v3, vI w] [] I = runs cal 246 109 [v0, v1, v2, v3, vI w] [vI w] I := runs_to (ins_of mI_246 (by rfl)) rfl rfl
set_option maxRecDepth 8000 in
theorem r246_109 : runs cal 246 109 [v0, v1, v2, v3, v4] [vI x0] I = runs cal 246 111 [v0, v1, v2, v3, v4] [vI (33), vI x0] I := runs_to (ins_of mI_246 (by rfl)) rfl rfl
set_option maxRecDepth 8000 in
theorem r246_111 : runs cal 246 111 [v0, v1, v2, v3, v4] [vI x0, vI x1] I = if x1 = x0 then runs cal 246 121 [v0, v1, v2, v3, v4] [] I else runs cal 246 114 [v0, v1, v2, v3, v4] [] I := st_cmp_eq (ins_of mI_246 (by rfl)) (by decide)
set_option maxRecDepth 8000 in
theorem r246_114 : runs cal 246 114 [v0, v1, v2, v3, vI w] [] I = runs cal 246 116 [v0, v1, v2, v3, vI w] [vI w] I := runs_to (ins_of mI_246 (by rfl)) rfl rfl
set_option maxRecDepth 8000 in
theorem r246_116 : runs cal 246 116 [v0, v1, v2, v3, v4] [vI x0] I = runs cal 246 118 [v0, v1, v2, v3, v4] [vI (45), vI x0] I := runs_to (ins_of mI_246 (by rfl)) rfl rfl
set_option maxRecDepth 8000 in
theorem r246_118 : runs cal 246 118 [v0, v1, v2, v3, v4] [vI x0, vI x1] I = if x1 = x0 then runs cal 246 121 [v0, v1, v2, v3, v4] [] I else runs cal 246 169 [v0, v1, v2, v3, v4] [] I := st_cmp_ne (ins_of mI_246 (by rfl)) (by decide)
set_option maxRecDepth 8000 in
theorem r246_121 : runs cal 246 121 [vR 70, v1, v2, v3, v4] [] I = runs cal 246 122 [vR 70, v1, v2, v3, v4] [vR 70] I := runs_to (ins_of mI_246 (by rfl)) rfl rfl
set_option maxRecDepth 8000 in
theorem r246_122 : runs cal 246 122 [v0, v1, v2, v3, v4] [vR 70] I = runs cal 246 123 [v0, v1, v2, v3, v4] [vR 70, vR 70] I := runs_to (ins_of mI_246 (by rfl)) rfl rfl
set_option maxRecDepth 8000 in
theorem r246_123 : runs cal 246 123 [v0, v1, v2, v3, v4] [vR 70, vR 70] I = runs cal 246 126 [v0, v1, v2, v3, v4] [vI (I 70 29), vR 70] I := st_getI (ins_of mI_246 (by rfl)) mC_246 (by decide) fr_11_373 cT_70 (wdc wid_246 wd_70) (Or.inl rfl)
set_option maxRecDepth 8000 in
theorem r246_126 : runs cal 246 126 [v0, v1, v2, v3, v4] [vI x0, vR 70] I = runs cal 246 127 [v0, v1, v2, v3, v4] [vI (1), vI x0, vR 70] I := runs_to (ins_of mI_246 (by rfl)) rfl rfl
set_option maxRecDepth 8000 in
theorem r246_127 : runs cal 246 127 [v0, v1, v2, v3, v4] [vI x0, vI x1, vR 70] I = runs cal 246 128 [v0, v1, v2, v3, v4] [vI (iadd x1 x0), vR 70] I := runs_to (ins_of mI_246 (by rfl)) rfl rfl
set_option maxRecDepth 8000 in
theorem r246_128 : runs cal 246 128 [v0, v1, v2, v3, v4] [vI x0, vR 70] I = runs cal 246 131 [v0, v1, v2, v3, v4] [] (mset I 70 29 x0) := st_putI (ins_of mI_246 (by rfl)) mC_246 fr_11_373 cT_70 (wdc wid_246 wd_70) rfl
set_option maxRecDepth 8000 in
theorem r246_131 : runs cal 246 131 [vR 70, v1, v2, v3, v4] [] I = runs cal 246 132 [vR 70, v1, v2, v3, v4] [vR 70] I := runs_to (ins_of mI_246 (by rfl)) rfl rfl
set_option maxRecDepth 8000 in
theorem r246_132 : runs cal 246 132 [v0, v1, v2, v3, v4] [vR 70] I = runs cal 246 135 [v0, v1, v2, v3, v4] [vR 87] I := st_getR (ins_of mI_246 (by rfl)) mC_246 (by decide) fr_11_61 cT_70 (wdc wid_246 wd_70) rfl rfl
set_option maxRecDepth 8000 in
theorem r246_135 : runs cal 246 135 [vR 70, v1, v2, v3, v4] [vR 87] I = runs cal 246 136 [vR 70, v1, v2, v3, v4] [vR 70, vR 87] I := runs_to (ins_of mI_246 (by rfl)) rfl rfl
set_option maxRecDepth 8000 in
theorem r246_136 : runs cal 246 136 [v0, v1, v2, v3, v4] [vR 70, vR 87] I = runs cal 246 139 [v0, v1, v2, v3, v4] [vI (I 70 34), vR 87] I := st_getI (ins_of mI_246 (by rfl)) mC_246 (by decide) fr_11_382 cT_70 (wdc wid_246 wd_70) (Or.inl rfl)
set_option maxRecDepth 8000 in
theorem r246_139 : runs cal 246 139 [v0, v1, v2, v3, vI w] [vI x0, vR 87] I = runs cal 246 141 [v0, v1, v2, v3, vI w] [vI w, vI x0, vR 87] I := runs_to (ins_of mI_246 (by rfl)) rfl rfl
set_option maxRecDepth 8000 in
theorem r246_141 : runs cal 246 141 [v0, v1, v2, v3, v4] [vI x0, vI x1, vR 87] I = runs cal 246 143 [v0, v1, v2, v3, v4] [vI (33), vI x0, vI x1, vR 87] I := runs_to (ins_of mI_246 (by rfl)) rfl rfl
set_option maxRecDepth 8000 in
theorem r246_143 : runs cal 246 143 [v0, v1, v2, v3, v4] [vI x0, vI x1, vI x2, vR 87] I = if x1 = x0 then runs cal 246 146 [v0, v1, v2, v3, v4] [vI x2, vR 87] I else runs cal 246 152 [v0, v1, v2, v3, v4] [vI x2, vR 87] I := st_cmp_ne (ins_of mI_246 (by rfl)) (by decide)
set_option maxRecDepth 8000 in
theorem r246_146 : runs cal 246 146 [v0, v1, v2, v3, v4] [vI x0, vR 87] I = runs cal 246 149 [v0, v1, v2, v3, v4] [vI (1001), vI x0, vR 87] I := runs_to (ins_of mI_246 (by rfl)) rfl rfl
set_option maxRecDepth 8000 in
theorem r246_149 : runs cal 246 149 [v0, v1, v2, v3, v4] [vI x0, vI x1, vR 87] I = runs cal 246 155 [v0, v1, v2, v3, v4] [vI x0, vI x1, vR 87] I := st_goto (ins_of mI_246 (by rfl)) (by decide)
set_option maxRecDepth 8000 in
theorem r246_152 : runs cal 246 152 [v0, v1, v2, v3, v4] [vI x0, vR 87] I = runs cal 246 155 [v0, v1, v2, v3, v4] [vI (1002), vI x0, vR 87] I := runs_to (ins_of mI_246 (by rfl)) rfl rfl
set_option maxRecDepth 8000 in
theorem r246_155 : runs cal 246 155 [v0, v1, v2, v3, v4] [vI x0, vI x1, vR 87] I = if 0 ≤ x1 ∧ x1 < 128 then runs cal 246 156 [v0, v1, v2, v3, v4] [] (mset I 87 x1 x0) else none := st_iast (ins_of mI_246 (by rfl)) cT_87 (wdc wid_246 wd_87)
set_option maxRecDepth 8000 in
theorem r246_156 : runs cal 246 156 [vR 70, v1, v2, v3, v4] [] I = runs cal 246 157 [vR 70, v1, v2, v3, v4] [vR 70] I := runs_to (ins_of mI_246 (by rfl)) rfl rfl
set_option maxRecDepth 8000 in
theorem r246_157 : runs cal 246 157 [v0, v1, v2, v3, v4] [vR 70] I = runs cal 246 158 [v0, v1, v2, v3, v4] [vR 70, vR 70] I := runs_to (ins_of mI_246 (by rfl)) rfl rfl
set_option maxRecDepth 8000 in
theorem r246_158 : runs cal 246 158 [v0, v1, v2, v3, v4] [vR 70, vR 70] I = runs cal 246 161 [v0, v1, v2, v3, v4] [vI (I 70 34), vR 70] I := st_getI (ins_of mI_246 (by rfl)) mC_246 (by decide) fr_11_382 cT_70 (wdc wid_246 wd_70) (Or.inl rfl)
set_option maxRecDepth 8000 in
theorem r246_161 : runs cal 246 161 [v0, v1, v2, v3, v4] [vI x0, vR 70] I = runs cal 246 162 [v0, v1, v2, v3, v4] [vI (1), vI x0, vR 70] I := runs_to (ins_of mI_246 (by rfl)) rfl rfl
set_option maxRecDepth 8000 in
theorem r246_162 : runs cal 246 162 [v0, v1, v2, v3, v4] [vI x0, vI x1, vR 70] I = runs cal 246 163 [v0, v1, v2, v3, v4] [vI (iadd x1 x0), vR 70] I := runs_to (ins_of mI_246 (by rfl)) rfl rfl
set_option maxRecDepth 8000 in
theorem r246_163 : runs cal 246 163 [v0, v1, v2, v3, v4] [vI x0, vR 70] I = runs cal 246 166 [v0, v1, v2, v3, v4] [] (mset I 70 34 x0) := st_putI (ins_of mI_246 (by rfl)) mC_246 fr_11_382 cT_70 (wdc wid_246 wd_70) rfl
set_option maxRecDepth 8000 in
theorem r246_166 : runs cal 246 166 [v0, v1, v2, v3, v4] [] I = runs cal 246 478 [v0, v1, v2, v3, v4] [] I := st_goto (ins_of mI_246 (by rfl)) (by decide)
set_option maxRecDepth 8000 in
theorem r246_169 : runs cal 246 169 [v0, v1, v2, v3, vI w] [] I = runs cal 246 171 [v0, v1, v2, v3, vI w] [vI w] I := runs_to (ins_of mI_246 (by rfl)) rfl rfl
set_option maxRecDepth 8000 in
theorem r246_171 : runs cal 246 171 [v0, v1, v2, v3, v4] [vI x0] I = runs cal 246 173 [v0, v1, v2, v3, v4] [vI (40), vI x0] I := runs_to (ins_of mI_246 (by rfl)) rfl rfl
set_option maxRecDepth 8000 in
theorem r246_173 : runs cal 246 173 [v0, v1, v2, v3, v4] [vI x0, vI x1] I = if x1 = x0 then runs cal 246 176 [v0, v1, v2, v3, v4] [] I else runs cal 246 220 [v0, v1, v2, v3, v4] [] I := st_cmp_ne (ins_of mI_246 (by rfl)) (by decide)
set_option maxRecDepth 8000 in
theorem r246_176 : runs cal 246 176 [v0, vI w, v2, v3, v4] [] I = runs cal 246 177 [v0, vI w, v2, v3, v4] [vI w] I := runs_to (ins_of mI_246 (by rfl)) rfl rfl
set_option maxRecDepth 8000 in
theorem r246_177 : runs cal 246 177 [v0, v1, v2, v3, v4] [vI x0] I = runs cal 246 179 [v0, v1, v2, v3, v4] [vI (8), vI x0] I := runs_to (ins_of mI_246 (by rfl)) rfl rfl
set_option maxRecDepth 8000 in
theorem r246_179 : runs cal 246 179 [v0, v1, v2, v3, v4] [vI x0, vI x1] I = if x1 < x0 then runs cal 246 182 [v0, v1, v2, v3, v4] [] I else runs cal 246 220 [v0, v1, v2, v3, v4] [] I := st_cmp_ge (ins_of mI_246 (by rfl)) (by decide)
set_option maxRecDepth 8000 in
theorem r246_182 : runs cal 246 182 [vR 70, v1, v2, v3, v4] [] I = runs cal 246 183 [vR 70, v1, v2, v3, v4] [vR 70] I := runs_to (ins_of mI_246 (by rfl)) rfl rfl
set_option maxRecDepth 8000 in
theorem r246_183 : runs cal 246 183 [v0, v1, v2, v3, v4] [vR 70] I = runs cal 246 184 [v0, v1, v2, v3, v4] [vR 70, vR 70] I := runs_to (ins_of mI_246 (by rfl)) rfl rfl
set_option maxRecDepth 8000 in
theorem r246_184 : runs cal 246 184 [v0, v1, v2, v3, v4] [vR 70, vR 70] I = runs cal 246 187 [v0, v1, v2, v3, v4] [vI (I 70 29), vR 70] I := st_getI (ins_of mI_246 (by rfl)) mC_246 (by decide) fr_11_373 cT_70 (wdc wid_246 wd_70) (Or.inl rfl)
set_option maxRecDepth 8000 in
theorem r246_187 : runs cal 246 187 [v0, v1, v2, v3, v4] [vI x0, vR 70] I = runs cal 246 188 [v0, v1, v2, v3, v4] [vI (1), vI x0, vR 70] I := runs_to (ins_of mI_246 (by rfl)) rfl rfl
set_option maxRecDepth 8000 in
theorem r246_188 : runs cal 246 188 [v0, v1, v2, v3, v4] [vI x0, vI x1, vR 70] I = runs cal 246 189 [v0, v1, v2, v3, v4] [vI (iadd x1 x0), vR 70] I := runs_to (ins_of mI_246 (by rfl)) rfl rfl
set_option maxRecDepth 8000 in
theorem r246_189 : runs cal 246 189 [v0, v1, v2, v3, v4] [vI x0, vR 70] I = runs cal 246 192 [v0, v1, v2, v3, v4] [] (mset I 70 29 x0) := st_putI (ins_of mI_246 (by rfl)) mC_246 fr_11_373 cT_70 (wdc wid_246 wd_70) rfl
set_option maxRecDepth 8000 in
theorem r246_192 : runs cal 246 192 [vR b0, vI w, v2, v3, v4] [] I = runs cal 246 195 [vR b0, vI (iadd w (1)), v2, v3, v4] [] I := runs_to (ins_of mI_246 (by rfl)) rfl rfl
set_option maxRecDepth 8000 in
theorem r246_195 : runs cal 246 195 [vR 70, v1, v2, v3, v4] [] I = runs cal 246 196 [vR 70, v1, v2, v3, v4] [vR 70] I := runs_to (ins_of mI_246 (by rfl)) rfl rfl
set_option maxRecDepth 8000 in
theorem r246_196 : runs cal 246 196 [v0, v1, v2, v3, v4] [vR 70] I = runs cal 246 199 [v0, v1, v2, v3, v4] [vR 87] I := st_getR (ins_of mI_246 (by rfl)) mC_246 (by decide) fr_11_61 cT_70 (wdc wid_246 wd_70) rfl rfl
set_option maxRecDepth 8000 in
theorem r246_199 : runs cal 246 199 [vR 70, v1, v2, v3, v4] [vR 87] I = runs cal 246 200 [vR 70, v1, v2, v3, v4] [vR 70, vR 87] I := runs_to (ins_of mI_246 (by rfl)) rfl rfl
set_option maxRecDepth 8000 in
theorem r246_200 : runs cal 246 200 [v0, v1, v2, v3, v4] [vR 70, vR 87] I = runs cal 246 203 [v0, v1, v2, v3, v4] [vI (I 70 34), vR 87] I := st_getI (ins_of mI_246 (by rfl)) mC_246 (by decide) fr_11_382 cT_70 (wdc wid_246 wd_70) (Or.inl rfl)
set_option maxRecDepth 8000 in
theorem r246_203 : runs cal 246 203 [v0, v1, v2, v3, v4] [vI x0, vR 87] I = runs cal 246 206 [v0, v1, v2, v3, v4] [vI (1000), vI x0, vR 87] I := runs_to (ins_of mI_246 (by rfl)) rfl rfl
set_option maxRecDepth 8000 in
theorem r246_206 : runs cal 246 206 [v0, v1, v2, v3, v4] [vI x0, vI x1, vR 87] I = if 0 ≤ x1 ∧ x1 < 128 then runs cal 246 207 [v0, v1, v2, v3, v4] [] (mset I 87 x1 x0) else none := st_iast (ins_of mI_246 (by rfl)) cT_87 (wdc wid_246 wd_87)
set_option maxRecDepth 8000 in
theorem r246_207 : runs cal 246 207 [vR 70, v1, v2, v3, v4] [] I = runs cal 246 208 [vR 70, v1, v2, v3, v4] [vR 70] I := runs_to (ins_of mI_246 (by rfl)) rfl rfl
set_option maxRecDepth 8000 in
theorem r246_208 : runs cal 246 208 [v0, v1, v2, v3, v4] [vR 70] I = runs cal 246 209 [v0, v1, v2, v3, v4] [vR 70, vR 70] I := runs_to (ins_of mI_246 (by rfl)) rfl rfl
set_option maxRecDepth 8000 in
theorem r246_209 : runs cal 246 209 [v0, v1, v2, v3, v4] [vR 70, vR 70] I = runs cal 246 212 [v0, v1, v2, v3, v4] [vI (I 70 34), vR 70] I := st_getI (ins_of mI_246 (by rfl)) mC_246 (by decide) fr_11_382 cT_70 (wdc wid_246 wd_70) (Or.inl rfl)
set_option maxRecDepth 8000 in
theorem r246_212 : runs cal 246 212 [v0, v1, v2, v3, v4] [vI x0, vR 70] I = runs cal 246 213 [v0, v1, v2, v3, v4] [vI (1), vI x0, vR 70] I := runs_to (ins_of mI_246 (by rfl)) rfl rfl
set_option maxRecDepth 8000 in
theorem r246_213 : runs cal 246 213 [v0, v1, v2, v3, v4] [vI x0, vI x1, vR 70] I = runs cal 246 214 [v0, v1, v2, v3, v4] [vI (iadd x1 x0), vR 70] I := runs_to (ins_of mI_246 (by rfl)) rfl rfl
set_option maxRecDepth 8000 in
theorem r246_214 : runs cal 246 214 [v0, v1, v2, v3, v4] [vI x0, vR 70] I = runs cal 246 217 [v0, v1, v2, v3, v4] [] (mset I 70 34 x0) := st_putI (ins_of mI_246 (by rfl)) mC_246 fr_11_382 cT_70 (wdc wid_246 wd_70) rfl
set_option maxRecDepth 8000 in
theorem r246_217 : runs cal 246 217 [v0, v1, v2, v3, v4] [] I = runs cal 246 478 [v0, v1, v2, v3, v4] [] I := st_goto (ins_of mI_246 (by rfl)) (by decide)
set_option maxRecDepth 8000 in
theorem r246_220 : runs cal 246 220 [vR 70, v1, v2, v3, v4] [] I = runs cal 246 221 [vR 70, v1, v2, v3, v4] [vR 70] I := runs_to (ins_of mI_246 (by rfl)) rfl rfl
set_option maxRecDepth 8000 in
theorem r246_221 : runs cal 246 221 [v0, v1, v2, v3, v4] [vR 70] I = runs cal 246 223 [v0, v1, v2, v3, v4] [vI (10), vR 70] I := runs_to (ins_of mI_246 (by rfl)) rfl rfl
set_option maxRecDepth 8000 in
theorem r246_223 : runs cal 246 223 [vR 70, v1, v2, v3, v4] [vI x0, vR 70] I = runs cal 246 224 [vR 70, v1, v2, v3, v4] [vR 70, vI x0, vR 70] I := runs_to (ins_of mI_246 (by rfl)) rfl rfl
set_option maxRecDepth 8000 in
theorem r246_224 : runs cal 246 224 [v0, v1, v2, v3, v4] [vR 70, vI x1, vR 70] I = runs cal 246 227 [v0, v1, v2, v3, v4] [vI (I 70 29), vI x1, vR 70] I := st_getI (ins_of mI_246 (by rfl)) mC_246 (by decide) fr_11_373 cT_70 (wdc wid_246 wd_70) (Or.inl rfl)
set_option maxRecDepth 8000 in
theorem r246_227 : runs cal 246 227 [v0, v1, v2, v3, v4] [vI x0, vI x1, vR 70] I = runs cal 246 228 [v0, v1, v2, v3, v4] [vI (imul x1 x0), vR 70] I := runs_to (ins_of mI_246 (by rfl)) rfl rfl
set_option maxRecDepth 8000 in
theorem r246_228 : runs cal 246 228 [v0, v1, v2, v3, vI w] [vI x0, vR 70] I = runs cal 246 230 [v0, v1, v2, v3, vI w] [vI w, vI x0, vR 70] I := runs_to (ins_of mI_246 (by rfl)) rfl rfl
set_option maxRecDepth 8000 in
theorem r246_230 : runs cal 246 230 [v0, v1, v2, v3, v4] [vI x0, vI x1, vR 70] I = runs cal 246 232 [v0, v1, v2, v3, v4] [vI (40), vI x0, vI x1, vR 70] I := runs_to (ins_of mI_246 (by rfl)) rfl rfl
set_option maxRecDepth 8000 in
theorem r246_232 : runs cal 246 232 [v0, v1, v2, v3, v4] [vI x0, vI x1, vI x2, vR 70] I = if x1 = x0 then runs cal 246 235 [v0, v1, v2, v3, v4] [vI x2, vR 70] I else runs cal 246 239 [v0, v1, v2, v3, v4] [vI x2, vR 70] I := st_cmp_ne (ins_of mI_246 (by rfl)) (by decide)
set_option maxRecDepth 8000 in
theorem r246_235 : runs cal 246 235 [v0, v1, v2, v3, v4] [vI x0, vR 70] I = runs cal 246 236 [v0, v1, v2, v3, v4] [vI (3), vI x0, vR 70] I := runs_to (ins_of mI_246 (by rfl)) rfl rfl
set_option maxRecDepth 8000 in
theorem r246_236 : runs cal 246 236 [v0, v1, v2, v3, v4] [vI x0, vI x1, vR 70] I = runs cal 246 240 [v0, v1, v2, v3, v4] [vI x0, vI x1, vR 70] I := st_goto (ins_of mI_246 (by rfl)) (by decide)
set_option maxRecDepth 8000 in
theorem r246_239 : runs cal 246 239 [v0, v1, v2, v3, v4] [vI x0, vR 70] I = runs cal 246 240 [v0, v1, v2, v3, v4] [vI (1), vI x0, vR 70] I := runs_to (ins_of mI_246 (by rfl)) rfl rfl
set_option maxRecDepth 8000 in
theorem r246_240 : runs cal 246 240 [v0, v1, v2, v3, v4] [vI x0, vI x1, vR 70] I = runs cal 246 241 [v0, v1, v2, v3, v4] [vI (iadd x1 x0), vR 70] I := runs_to (ins_of mI_246 (by rfl)) rfl rfl
set_option maxRecDepth 8000 in
theorem r246_241 : runs cal 246 241 [v0, v1, v2, v3, v4] [vI x0, vR 70] I = runs cal 246 244 [v0, v1, v2, v3, v4] [] (mset I 70 30 x0) := st_putI (ins_of mI_246 (by rfl)) mC_246 fr_11_397 cT_70 (wdc wid_246 wd_70) rfl
set_option maxRecDepth 8000 in
theorem r246_244 : runs cal 246 244 [v0, v1, v2, v3, v4] [] I = runs cal 246 478 [v0, v1, v2, v3, v4] [] I := st_goto (ins_of mI_246 (by rfl)) (by decide)
set_option maxRecDepth 8000 in
theorem r246_247 : runs cal 246 247 [v0, v1, v2, v3, vI w] [] I = runs cal 246 249 [v0, v1, v2, v3, vI w] [vI w] I := runs_to (ins_of mI_246 (by rfl)) rfl rfl
set_option maxRecDepth 8000 in
theorem r246_249 : runs cal 246 249 [v0, v1, v2, v3, v4] [vI x0] I = runs cal 246 251 [v0, v1, v2, v3, v4] [vI (41), vI x0] I := runs_to (ins_of mI_246 (by rfl)) rfl rfl
set_option maxRecDepth 8000 in
theorem r246_251 : runs cal 246 251 [v0, v1, v2, v3, v4] [vI x0, vI x1] I = if x1 = x0 then runs cal 246 254 [v0, v1, v2, v3, v4] [] I else runs cal 246 312 [v0, v1, v2, v3, v4] [] I := st_cmp_ne (ins_of mI_246 (by rfl)) (by decide)
set_option maxRecDepth 8000 in
theorem r246_254 : runs cal 246 254 [v0, vI w, v2, v3, v4] [] I = runs cal 246 255 [v0, vI w, v2, v3, v4] [vI w] I := runs_to (ins_of mI_246 (by rfl)) rfl rfl
set_option maxRecDepth 8000 in
theorem r246_255 : runs cal 246 255 [v0, v1, v2, v3, v4] [vI x0] I = if 0 < x0 then runs cal 246 258 [v0, v1, v2, v3, v4] [] I else runs cal 246 312 [v0, v1, v2, v3, v4] [] I := st_if_le (ins_of mI_246 (by rfl)) (by decide)
set_option maxRecDepth 8000 in
theorem r246_258 : runs cal 246 258 [vR 70, v1, v2, v3, v4] [] I = runs cal 246 259 [vR 70, v1, v2, v3, v4] [vR 70] I := runs_to (ins_of mI_246 (by rfl)) rfl rfl
set_option maxRecDepth 8000 in
theorem r246_259 : runs cal 246 259 [v0, v1, v2, v3, v4] [vR 70] I = runs cal 246 260 [v0, v1, v2, v3, v4] [vR 70, vR 70] I := runs_to (ins_of mI_246 (by rfl)) rfl rfl
set_option maxRecDepth 8000 in
theorem r246_260 : runs cal 246 260 [v0, v1, v2, v3, v4] [vR 70, vR 70] I = runs cal 246 263 [v0, v1, v2, v3, v4] [vI (I 70 29), vR 70] I := st_getI (ins_of mI_246 (by rfl)) mC_246 (by decide) fr_11_373 cT_70 (wdc wid_246 wd_70) (Or.inl rfl)
set_option maxRecDepth 8000 in
theorem r246_263 : runs cal 246 263 [v0, v1, v2, v3, v4] [vI x0, vR 70] I = runs cal 246 264 [v0, v1, v2, v3, v4] [vI (1), vI x0, vR 70] I := runs_to (ins_of mI_246 (by rfl)) rfl rfl
set_option maxRecDepth 8000 in
theorem r246_264 : runs cal 246 264 [v0, v1, v2, v3, v4] [vI x0, vI x1, vR 70] I = runs cal 246 265 [v0, v1, v2, v3, v4] [vI (iadd x1 x0), vR 70] I := runs_to (ins_of mI_246 (by rfl)) rfl rfl
set_option maxRecDepth 8000 in
theorem r246_265 : runs cal 246 265 [v0, v1, v2, v3, v4] [vI x0, vR 70] I = runs cal 246 268 [v0, v1, v2, v3, v4] [] (mset I 70 29 x0) := st_putI (ins_of mI_246 (by rfl)) mC_246 fr_11_373 cT_70 (wdc wid_246 wd_70) rfl
set_option maxRecDepth 8000 in
theorem r246_268 : runs cal 246 268 [vR b0, vI w, v2, v3, v4] [] I = runs cal 246 271 [vR b0, vI (iadd w (-1)), v2, v3, v4] [] I := runs_to (ins_of mI_246 (by rfl)) rfl rfl
set_option maxRecDepth 8000 in
theorem r246_271 : runs cal 246 271 [vR 70, v1, v2, v3, v4] [] I = runs cal 246 272 [vR 70, v1, v2, v3, v4] [vR 70] I := runs_to (ins_of mI_246 (by rfl)) rfl rfl
set_option maxRecDepth 8000 in
theorem r246_272 : runs cal 246 272 [v0, v1, v2, v3, v4] [vR 70] I = runs cal 246 273 [v0, v1, v2, v3, v4] [vI (1), vR 70] I := runs_to (ins_of mI_246 (by rfl)) rfl rfl
set_option maxRecDepth 8000 in
theorem r246_273 : runs cal 246 273 [v0, v1, v2, v3, v4] [vI x0, vR 70] I = (cal 241 [vR 70, vI x0] I).bind (fun q => runs cal 246 276 [v0, v1, v2, v3, v4] (pushR q.1 []) q.2) := st_call (st := false) (ins_of mI_246 (by rfl)) mC_246 mr_11_415 (by decide) mS_241 mN_241 rfl (Nat.le_of_ble_eq_true rfl) rfl rfl (Or.inr ⟨_, _, rfl, rcv mC_241 rfl wid_246 (by decide +kernel)⟩) (Or.inl (wid_246.trans wid_241.symm))
set_option maxRecDepth 8000 in
theorem r246_276 : runs cal 246 276 [vR 70, v1, v2, v3, v4] [] I = runs cal 246 277 [vR 70, v1, v2, v3, v4] [vR 70] I := runs_to (ins_of mI_246 (by rfl)) rfl rfl
set_option maxRecDepth 8000 in
theorem r246_277 : runs cal 246 277 [v0, v1, v2, v3, v4] [vR 70] I = runs cal 246 278 [v0, v1, v2, v3, v4] [vR 70, vR 70] I := runs_to (ins_of mI_246 (by rfl)) rfl rfl
set_option maxRecDepth 8000 in
theorem r246_278 : runs cal 246 278 [v0, v1, v2, v3, v4] [vR 70, vR 70] I = runs cal 246 281 [v0, v1, v2, v3, v4] [vI (I 70 34), vR 70] I := st_getI (ins_of mI_246 (by rfl)) mC_246 (by decide) fr_11_382 cT_70 (wdc wid_246 wd_70) (Or.inl rfl)
set_option maxRecDepth 8000 in
theorem r246_281 : runs cal 246 281 [v0, v1, v2, v3, v4] [vI x0, vR 70] I = runs cal 246 282 [v0, v1, v2, v3, v4] [vI (1), vI x0, vR 70] I := runs_to (ins_of mI_246 (by rfl)) rfl rfl
set_option maxRecDepth 8000 in
theorem r246_282 : runs cal 246 282 [v0, v1, v2, v3, v4] [vI x0, vI x1, vR 70] I = runs cal 246 283 [v0, v1, v2, v3, v4] [vI (isub x1 x0), vR 70] I := runs_to (ins_of mI_246 (by rfl)) rfl rfl
set_option maxRecDepth 8000 in
theorem r246_283 : runs cal 246 283 [v0, v1, v2, v3, v4] [vI x0, vR 70] I = runs cal 246 286 [v0, v1, v2, v3, v4] [] (mset I 70 34 x0) := st_putI (ins_of mI_246 (by rfl)) mC_246 fr_11_382 cT_70 (wdc wid_246 wd_70) rfl
set_option maxRecDepth 8000 in
theorem r246_286 : runs cal 246 286 [vR 70, v1, v2, v3, v4] [] I = runs cal 246 287 [vR 70, v1, v2, v3, v4] [vR 70] I := runs_to (ins_of mI_246 (by rfl)) rfl rfl
set_option maxRecDepth 8000 in
theorem r246_287 : runs cal 246 287 [v0, v1, v2, v3, v4] [vR 70] I = runs cal 246 288 [v0, v1, v2, v3, v4] [vR 70, vR 70] I := runs_to (ins_of mI_246 (by rfl)) rfl rfl
set_option maxRecDepth 8000 in
theorem r246_288 : runs cal 246 288 [v0, v1, v2, v3, v4] [vR 70, vR 70] I = runs cal 246 291 [v0, v1, v2, v3, v4] [vI (I 70 32), vR 70] I := st_getI (ins_of mI_246 (by rfl)) mC_246 (by decide) fr_11_385 cT_70 (wdc wid_246 wd_70) (Or.inl rfl)
set_option maxRecDepth 8000 in
theorem r246_291 : runs cal 246 291 [v0, v1, v2, v3, v4] [vI x0, vR 70] I = runs cal 246 292 [v0, v1, v2, v3, v4] [vI (1), vI x0, vR 70] I := runs_to (ins_of mI_246 (by rfl)) rfl rfl
set_option maxRecDepth 8000 in
theorem r246_292 : runs cal 246 292 [v0, v1, v2, v3, v4] [vI x0, vI x1, vR 70] I = runs cal 246 293 [v0, v1, v2, v3, v4] [vI (isub x1 x0), vR 70] I := runs_to (ins_of mI_246 (by rfl)) rfl rfl
set_option maxRecDepth 8000 in
theorem r246_293 : runs cal 246 293 [v0, v1, v2, v3, v4] [vI x0, vR 70] I = runs cal 246 296 [v0, v1, v2, v3, v4] [] (mset I 70 32 x0) := st_putI (ins_of mI_246 (by rfl)) mC_246 fr_11_385 cT_70 (wdc wid_246 wd_70) rfl
set_option maxRecDepth 8000 in
theorem r246_296 : runs cal 246 296 [vR 70, v1, v2, v3, v4] [] I = runs cal 246 297 [vR 70, v1, v2, v3, v4] [vR 70] I := runs_to (ins_of mI_246 (by rfl)) rfl rfl
set_option maxRecDepth 8000 in
theorem r246_297 : runs cal 246 297 [vR 70, v1, v2, v3, v4] [vR 70] I = runs cal 246 298 [vR 70, v1, v2, v3, v4] [vR 70, vR 70] I := runs_to (ins_of mI_246 (by rfl)) rfl rfl
set_option maxRecDepth 8000 in
theorem r246_298 : runs cal 246 298 [v0, v1, v2, v3, v4] [vR 70, vR 70] I = runs cal 246 301 [v0, v1, v2, v3, v4] [vR 86, vR 70] I := st_getR (ins_of mI_246 (by rfl)) mC_246 (by decide) fr_11_58 cT_70 (wdc wid_246 wd_70) rfl rfl
set_option maxRecDepth 8000 in
theorem r246_301 : runs cal 246 301 [vR 70, v1, v2, v3, v4] [vR 86, vR 70] I = runs cal 246 302 [vR 70, v1, v2, v3, v4] [vR 70, vR 86, vR 70] I := runs_to (ins_of mI_246 (by rfl)) rfl rfl
set_option maxRecDepth 8000 in
theorem r246_302 : runs cal 246 302 [v0, v1, v2, v3, v4] [vR 70, vR 86, vR 70] I = runs cal 246 305 [v0, v1, v2, v3, v4] [vI (I 70 32), vR 86, vR 70] I := st_getI (ins_of mI_246 (by rfl)) mC_246 (by decide) fr_11_385 cT_70 (wdc wid_246 wd_70) (Or.inl rfl)
set_option maxRecDepth 8000 in
theorem r246_305 : runs cal 246 305 [v0, v1, v2, v3, v4] [vI x0, vR 86, vR 70] I = if 0 ≤ x0 ∧ x0 < 64 then runs cal 246 306 [v0, v1, v2, v3, v4] [vL (I 86 x0), vR 70] I else none := st_lald (ins_of mI_246 (by rfl)) cT_86 (wdc wid_246 wd_86)
set_option maxRecDepth 8000 in
theorem r246_306 : runs cal 246 306 [v0, v1, v2, v3, v4] [vL x0, vR 70] I = (cal 242 [vR 70, vL x0] I).bind (fun q => runs cal 246 309 [v0, v1, v2, v3, v4] (pushR q.1 []) q.2) := st_call (st := false) (ins_of mI_246 (by rfl)) mC_246 mr_11_409 (by decide) mS_242 mN_242 rfl (Nat.le_of_ble_eq_true rfl) rfl rfl (Or.inr ⟨_, _, rfl, rcv mC_242 rfl wid_246 (by decide +kernel)⟩) (Or.inl (wid_246.trans wid_242.symm))
set_option maxRecDepth 8000 in
theorem r246_309 : runs cal 246 309 [v0, v1, v2, v3, v4] [] I = runs cal 246 478 [v0, v1, v2, v3, v4] [] I := st_goto (ins_of mI_246 (by rfl)) (by decide)
set_option maxRecDepth 8000 in
theorem r246_312 : runs cal 246 312 [v0, v1, v2, v3, vI w] [] I = runs cal 246 314 [v0, v1, v2, v3, vI w] [vI w] I := runs_to (ins_of mI_246 (by rfl)) rfl rfl
set_option maxRecDepth 8000 in
theorem r246_314 : runs cal 246 314 [v0, v1, v2, v3, v4] [vI x0] I = (cal 239 [vI x0] I).bind (fun q => runs cal 246 317 [v0, v1, v2, v3, v4] (pushR q.1 []) q.2) := st_call (st := true) (ins_of mI_246 (by rfl)) mC_246 mr_11_388 (by decide) mS_239 mN_239 rfl (Nat.le_of_ble_eq_true rfl) rfl rfl (Or.inl rfl) (Or.inl (wid_246.trans wid_239.symm))
set_option maxRecDepth 8000 in
theorem r246_317 : runs cal 246 317 [v0, v1, v2, v3, v4] [vI x0] I = if 0 < x0 then runs cal 246 320 [v0, v1, v2, v3, v4] [] I else runs cal 246 445 [v0, v1, v2, v3, v4] [] I := st_if_le (ins_of mI_246 (by rfl)) (by decide)
set_option maxRecDepth 8000 in
theorem r246_320 : runs cal 246 320 [vR 70, v1, v2, v3, v4] [] I = runs cal 246 321 [vR 70, v1, v2, v3, v4] [vR 70] I := runs_to (ins_of mI_246 (by rfl)) rfl rfl
set_option maxRecDepth 8000 in
theorem r246_321 : runs cal 246 321 [v0, v1, v2, v3, vI w] [vR 70] I = runs cal 246 323 [v0, v1, v2, v3, vI w] [vI w, vR 70] I := runs_to (ins_of mI_246 (by rfl)) rfl rfl
set_option maxRecDepth 8000 in
theorem r246_323 : runs cal 246 323 [v0, v1, v2, v3, v4] [vI x0, vR 70] I = (cal 239 [vI x0] I).bind (fun q => runs cal 246 326 [v0, v1, v2, v3, v4] (pushR q.1 [vR 70]) q.2) := st_call (st := true) (ins_of mI_246 (by rfl)) mC_246 mr_11_388 (by decide) mS_239 mN_239 rfl (Nat.le_of_ble_eq_true rfl) rfl rfl (Or.inl rfl) (Or.inl (wid_246.trans wid_239.symm))
set_option maxRecDepth 8000 in
theorem r246_326 : runs cal 246 326 [v0, v1, v2, v3, v4] [vI x0, vR 70] I = runs cal 246 327 [v0, v1, v2, v3, v4] [vI (3), vI x0, vR 70] I := runs_to (ins_of mI_246 (by rfl)) rfl rfl
set_option maxRecDepth 8000 in
theorem r246_327 : runs cal 246 327 [v0, v1, v2, v3, v4] [vI x0, vI x1, vR 70] I = if x1 = x0 then runs cal 246 330 [v0, v1, v2, v3, v4] [vR 70] I else runs cal 246 334 [v0, v1, v2, v3, v4] [vR 70] I := st_cmp_ne (ins_of mI_246 (by rfl)) (by decide)
set_option maxRecDepth 8000 in
theorem r246_330 : runs cal 246 330 [v0, v1, v2, v3, v4] [vR 70] I = runs cal 246 331 [v0, v1, v2, v3, v4] [vI (4), vR 70] I := runs_to (ins_of mI_246 (by rfl)) rfl rfl
set_option maxRecDepth 8000 in
theorem r246_331 : runs cal 246 331 [v0, v1, v2, v3, v4] [vI x0, vR 70] I = runs cal 246 339 [v0, v1, v2, v3, v4] [vI x0, vR 70] I := st_goto (ins_of mI_246 (by rfl)) (by decide)
set_option maxRecDepth 8000 in
theorem r246_334 : runs cal 246 334 [v0, v1, v2, v3, vI w] [vR 70] I = runs cal 246 336 [v0, v1, v2, v3, vI w] [vI w, vR 70] I := runs_to (ins_of mI_246 (by rfl)) rfl rfl
set_option maxRecDepth 8000 in
theorem r246_336 : runs cal 246 336 [v0, v1, v2, v3, v4] [vI x0, vR 70] I = (cal 239 [vI x0] I).bind (fun q => runs cal 246 339 [v0, v1, v2, v3, v4] (pushR q.1 [vR 70]) q.2) := st_call (st := true) (ins_of mI_246 (by rfl)) mC_246 mr_11_388 (by decide) mS_239 mN_239 rfl (Nat.le_of_ble_eq_true rfl) rfl rfl (Or.inl rfl) (Or.inl (wid_246.trans wid_239.symm))
set_option maxRecDepth 8000 in
theorem r246_339 : runs cal 246 339 [v0, v1, v2, v3, v4] [vI x0, vR 70] I = (cal 241 [vR 70, vI x0] I).bind (fun q => runs cal 246 342 [v0, v1, v2, v3, v4] (pushR q.1 []) q.2) := st_call (st := false) (ins_of mI_246 (by rfl)) mC_246 mr_11_415 (by decide) mS_241 mN_241 rfl (Nat.le_of_ble_eq_true rfl) rfl rfl (Or.inr ⟨_, _, rfl, rcv mC_241 rfl wid_246 (by decide +kernel)⟩) (Or.inl (wid_246.trans wid_241.symm))
set_option maxRecDepth 8000 in
theorem r246_342 : runs cal 246 342 [v0, v1, v2, v3, vI w] [] I = runs cal 246 344 [v0, v1, v2, v3, vI w] [vI w] I := runs_to (ins_of mI_246 (by rfl)) rfl rfl
set_option maxRecDepth 8000 in
theorem r246_344 : runs cal 246 344 [v0, v1, v2, v3, v4] [vI x0] I = (cal 239 [vI x0] I).bind (fun q => runs cal 246 347 [v0, v1, v2, v3, v4] (pushR q.1 []) q.2) := st_call (st := true) (ins_of mI_246 (by rfl)) mC_246 mr_11_388 (by decide) mS_239 mN_239 rfl (Nat.le_of_ble_eq_true rfl) rfl rfl (Or.inl rfl) (Or.inl (wid_246.trans wid_239.symm))
set_option maxRecDepth 8000 in
theorem r246_347 : runs cal 246 347 [v0, v1, v2, v3, v4] [vI x0] I = runs cal 246 348 [v0, v1, v2, v3, v4] [vI (3), vI x0] I := runs_to (ins_of mI_246 (by rfl)) rfl rfl
set_option maxRecDepth 8000 in
theorem r246_348 : runs cal 246 348 [v0, v1, v2, v3, v4] [vI x0, vI x1] I = if x1 = x0 then runs cal 246 351 [v0, v1, v2, v3, v4] [] I else runs cal 246 409 [v0, v1, v2, v3, v4] [] I := st_cmp_ne (ins_of mI_246 (by rfl)) (by decide)
set_option maxRecDepth 8000 in
theorem r246_351 : runs cal 246 351 [vR 70, v1, v2, v3, v4] [] I = runs cal 246 352 [vR 70, v1, v2, v3, v4] [vR 70] I := runs_to (ins_of mI_246 (by rfl)) rfl rfl
set_option maxRecDepth 8000 in
theorem r246_352 : runs cal 246 352 [v0, v1, v2, v3, v4] [vR 70] I = runs cal 246 355 [v0, v1, v2, v3, v4] [vI (I 70 34)] I := st_getI (ins_of mI_246 (by rfl)) mC_246 (by decide) fr_11_382 cT_70 (wdc wid_246 wd_70) (Or.inl rfl)
set_option maxRecDepth 8000 in
theorem r246_355 : runs cal 246 355 [v0, v1, v2, v3, v4] [vI x0] I = if 0 < x0 then runs cal 246 358 [v0, v1, v2, v3, v4] [] I else runs cal 246 409 [v0, v1, v2, v3, v4] [] I := st_if_le (ins_of mI_246 (by rfl)) (by decide)
set_option maxRecDepth 8000 in
theorem r246_358 : runs cal 246 358 [vR 70, v1, v2, v3, v4] [] I = runs cal 246 359 [vR 70, v1, v2, v3, v4] [vR 70] I := runs_to (ins_of mI_246 (by rfl)) rfl rfl
set_option maxRecDepth 8000 in
theorem r246_359 : runs cal 246 359 [v0, v1, v2, v3, v4] [vR 70] I = runs cal 246 362 [v0, v1, v2, v3, v4] [vR 87] I := st_getR (ins_of mI_246 (by rfl)) mC_246 (by decide) fr_11_61 cT_70 (wdc wid_246 wd_70) rfl rfl
set_option maxRecDepth 8000 in
theorem r246_362 : runs cal 246 362 [vR 70, v1, v2, v3, v4] [vR 87] I = runs cal 246 363 [vR 70, v1, v2, v3, v4] [vR 70, vR 87] I := runs_to (ins_of mI_246 (by rfl)) rfl rfl
set_option maxRecDepth 8000 in
theorem r246_363 : runs cal 246 363 [v0, v1, v2, v3, v4] [vR 70, vR 87] I = runs cal 246 366 [v0, v1, v2, v3, v4] [vI (I 70 34), vR 87] I := st_getI (ins_of mI_246 (by rfl)) mC_246 (by decide) fr_11_382 cT_70 (wdc wid_246 wd_70) (Or.inl rfl)
set_option maxRecDepth 8000 in
theorem r246_366 : runs cal 246 366 [v0, v1, v2, v3, v4] [vI x0, vR 87] I = runs cal 246 367 [v0, v1, v2, v3, v4] [vI (1), vI x0, vR 87] I := runs_to (ins_of mI_246 (by rfl)) rfl rfl
set_option maxRecDepth 8000 in
theorem r246_367 : runs cal 246 367 [v0, v1, v2, v3, v4] [vI x0, vI x1, vR 87] I = runs cal 246 368 [v0, v1, v2, v3, v4] [vI (isub x1 x0), vR 87] I := runs_to (ins_of mI_246 (by rfl)) rfl rfl
set_option maxRecDepth 8000 in
theorem r246_368 : runs cal 246 368 [v0, v1, v2, v3, v4] [vI x0, vR 87] I = if 0 ≤ x0 ∧ x0 < 128 then runs cal 246 369 [v0, v1, v2, v3, v4] [vI (I 87 x0)] I else none := st_iald (ins_of mI_246 (by rfl)) cT_87 (wdc wid_246 wd_87)
set_option maxRecDepth 8000 in
theorem r246_369 : runs cal 246 369 [v0, v1, v2, v3, v4] [vI x0] I = runs cal 246 372 [v0, v1, v2, v3, v4] [vI (1000), vI x0] I := runs_to (ins_of mI_246 (by rfl)) rfl rfl
set_option maxRecDepth 8000 in
theorem r246_372 : runs cal 246 372 [v0, v1, v2, v3, v4] [vI x0, vI x1] I = if x1 < x0 then runs cal 246 375 [v0, v1, v2, v3, v4] [] I else runs cal 246 409 [v0, v1, v2, v3, v4] [] I := st_cmp_ge (ins_of mI_246 (by rfl)) (by decide)
set_option maxRecDepth 8000 in
theorem r246_375 : runs cal 246 375 [vR 70, v1, v2, v3, v4] [] I = runs cal 246 376 [vR 70, v1, v2, v3, v4] [vR 70] I := runs_to (ins_of mI_246 (by rfl)) rfl rfl
set_option maxRecDepth 8000 in
theorem r246_376 : runs cal 246 376 [v0, v1, v2, v3, v4] [vR 70] I = runs cal 246 379 [v0, v1, v2, v3, v4] [vR 87] I := st_getR (ins_of mI_246 (by rfl)) mC_246 (by decide) fr_11_61 cT_70 (wdc wid_246 wd_70) rfl rfl
set_option maxRecDepth 8000 in
theorem r246_379 : runs cal 246 379 [vR 70, v1, v2, v3, v4] [vR 87] I = runs cal 246 380 [vR 70, v1, v2, v3, v4] [vR 70, vR 87] I := runs_to (ins_of mI_246 (by rfl)) rfl rfl
set_option maxRecDepth 8000 in
theorem r246_380 : runs cal 246 380 [v0, v1, v2, v3, v4] [vR 70, vR 87] I = runs cal 246 383 [v0, v1, v2, v3, v4] [vI (I 70 34), vR 87] I := st_getI (ins_of mI_246 (by rfl)) mC_246 (by decide) fr_11_382 cT_70 (wdc wid_246 wd_70) (Or.inl rfl)
set_option maxRecDepth 8000 in
theorem r246_383 : runs cal 246 383 [v0, v1, v2, v3, v4] [vI x0, vR 87] I = runs cal 246 384 [v0, v1, v2, v3, v4] [vI (1), vI x0, vR 87] I := runs_to (ins_of mI_246 (by rfl)) rfl rfl
set_option maxRecDepth 8000 in
theorem r246_384 : runs cal 246 384 [v0, v1, v2, v3, v4] [vI x0, vI x1, vR 87] I = runs cal 246 385 [v0, v1, v2, v3, v4] [vI (isub x1 x0), vR 87] I := runs_to (ins_of mI_246 (by rfl)) rfl rfl
set_option maxRecDepth 8000 in
theorem r246_385 : runs cal 246 385 [v0, v1, v2, v3, v4] [vI x0, vR 87] I = if 0 ≤ x0 ∧ x0 < 128 then runs cal 246 386 [v0, v1, v2, v3, v4] [vI (I 87 x0)] I else none := st_iald (ins_of mI_246 (by rfl)) cT_87 (wdc wid_246 wd_87)
set_option maxRecDepth 8000 in
theorem r246_386 : runs cal 246 386 [v0, v1, v2, v3, v4] [vI x0] I = (cal 239 [vI x0] I).bind (fun q => runs cal 246 389 [v0, v1, v2, v3, v4] (pushR q.1 []) q.2) := st_call (st := true) (ins_of mI_246 (by rfl)) mC_246 mr_11_388 (by decide) mS_239 mN_239 rfl (Nat.le_of_ble_eq_true rfl) rfl rfl (Or.inl rfl) (Or.inl (wid_246.trans wid_239.symm))
set_option maxRecDepth 8000 in
theorem r246_389 : runs cal 246 389 [v0, v1, v2, v3, v4] [vI x0] I = runs cal 246 390 [v0, v1, v2, v3, v4] [vI (3), vI x0] I := runs_to (ins_of mI_246 (by rfl)) rfl rfl
set_option maxRecDepth 8000 in
theorem r246_390 : runs cal 246 390 [v0, v1, v2, v3, v4] [vI x0, vI x1] I = if x1 = x0 then runs cal 246 393 [v0, v1, v2, v3, v4] [] I else runs cal 246 409 [v0, v1, v2, v3, v4] [] I := st_cmp_ne (ins_of mI_246 (by rfl)) (by decide)
set_option maxRecDepth 8000 in
theorem r246_393 : runs cal 246 393 [vR 70, v1, v2, v3, v4] [] I = runs cal 246 394 [vR 70, v1, v2, v3, v4] [vR 70] I := runs_to (ins_of mI_246 (by rfl)) rfl rfl
set_option maxRecDepth 8000 in
theorem r246_394 : runs cal 246 394 [v0, v1, v2, v3, v4] [vR 70] I = runs cal 246 396 [v0, v1, v2, v3, v4] [vI (10), vR 70] I := runs_to (ins_of mI_246 (by rfl)) rfl rfl
set_option maxRecDepth 8000 in
theorem r246_396 : runs cal 246 396 [vR 70, v1, v2, v3, v4] [vI x0, vR 70] I = runs cal 246 397 [vR 70, v1, v2, v3, v4] [vR 70, vI x0, vR 70] I := runs_to (ins_of mI_246 (by rfl)) rfl rfl
set_option maxRecDepth 8000 in
theorem r246_397 : runs cal 246 397 [v0, v1, v2, v3, v4] [vR 70, vI x1, vR 70] I = runs cal 246 400 [v0, v1, v2, v3, v4] [vI (I 70 29), vI x1, vR 70] I := st_getI (ins_of mI_246 (by rfl)) mC_246 (by decide) fr_11_373 cT_70 (wdc wid_246 wd_70) (Or.inl rfl)
set_option maxRecDepth 8000 in
theorem r246_400 : runs cal 246 400 [v0, v1, v2, v3, v4] [vI x0, vI x1, vR 70] I = runs cal 246 401 [v0, v1, v2, v3, v4] [vI (imul x1 x0), vR 70] I := runs_to (ins_of mI_246 (by rfl)) rfl rfl
set_option maxRecDepth 8000 in
theorem r246_401 : runs cal 246 401 [v0, v1, v2, v3, v4] [vI x0, vR 70] I = runs cal 246 402 [v0, v1, v2, v3, v4] [vI (1), vI x0, vR 70] I := runs_to (ins_of mI_246 (by rfl)) rfl rfl
set_option maxRecDepth 8000 in
theorem r246_402 : runs cal 246 402 [v0, v1, v2, v3, v4] [vI x0, vI x1, vR 70] I = runs cal 246 403 [v0, v1, v2, v3, v4] [vI (iadd x1 x0), vR 70] I := runs_to (ins_of mI_246 (by rfl)) rfl rfl
set_option maxRecDepth 8000 in
theorem r246_403 : runs cal 246 403 [v0, v1, v2, v3, v4] [vI x0, vR 70] I = runs cal 246 406 [v0, v1, v2, v3, v4] [] (mset I 70 30 x0) := st_putI (ins_of mI_246 (by rfl)) mC_246 fr_11_397 cT_70 (wdc wid_246 wd_70) rfl
set_option maxRecDepth 8000 in
theorem r246_406 : runs cal 246 406 [v0, v1, v2, v3, v4] [] I = runs cal 246 478 [v0, v1, v2, v3, v4] [] I := st_goto (ins_of mI_246 (by rfl)) (by decide)
set_option maxRecDepth 8000 in
theorem r246_409 : runs cal 246 409 [vR 70, v1, v2, v3, v4] [] I = runs cal 246 410 [vR 70, v1, v2, v3, v4] [vR 70] I := runs_to (ins_of mI_246 (by rfl)) rfl rfl
set_option maxRecDepth 8000 in
theorem r246_410 : runs cal 246 410 [v0, v1, v2, v3, v4] [vR 70] I = runs cal 246 411 [v0, v1, v2, v3, v4] [vR 70, vR 70] I := runs_to (ins_of mI_246 (by rfl)) rfl rfl
set_option maxRecDepth 8000 in
theorem r246_411 : runs cal 246 411 [v0, v1, v2, v3, v4] [vR 70, vR 70] I = runs cal 246 414 [v0, v1, v2, v3, v4] [vI (I 70 29), vR 70] I := st_getI (ins_of mI_246 (by rfl)) mC_246 (by decide) fr_11_373 cT_70 (wdc wid_246 wd_70) (Or.inl rfl)
set_option maxRecDepth 8000 in
theorem r246_414 : runs cal 246 414 [v0, v1, v2, v3, v4] [vI x0, vR 70] I = runs cal 246 415 [v0, v1, v2, v3, v4] [vI (1), vI x0, vR 70] I := runs_to (ins_of mI_246 (by rfl)) rfl rfl
set_option maxRecDepth 8000 in
theorem r246_415 : runs cal 246 415 [v0, v1, v2, v3, v4] [vI x0, vI x1, vR 70] I = runs cal 246 416 [v0, v1, v2, v3, v4] [vI (iadd x1 x0), vR 70] I := runs_to (ins_of mI_246 (by rfl)) rfl rfl
set_option maxRecDepth 8000 in
theorem r246_416 : runs cal 246 416 [v0, v1, v2, v3, v4] [vI x0, vR 70] I = runs cal 246 419 [v0, v1, v2, v3, v4] [] (mset I 70 29 x0) := st_putI (ins_of mI_246 (by rfl)) mC_246 fr_11_373 cT_70 (wdc wid_246 wd_70) rfl
set_option maxRecDepth 8000 in
theorem r246_419 : runs cal 246 419 [vR 70, v1, v2, v3, v4] [] I = runs cal 246 420 [vR 70, v1, v2, v3, v4] [vR 70] I := runs_to (ins_of mI_246 (by rfl)) rfl rfl
set_option maxRecDepth 8000 in
theorem r246_420 : runs cal 246 420 [v0, v1, v2, v3, v4] [vR 70] I = runs cal 246 423 [v0, v1, v2, v3, v4] [vR 87] I := st_getR (ins_of mI_246 (by rfl)) mC_246 (by decide) fr_11_61 cT_70 (wdc wid_246 wd_70) rfl rfl
set_option maxRecDepth 8000 in
theorem r246_423 : runs cal 246 423 [vR 70, v1, v2, v3, v4] [vR 87] I = runs cal 246 424 [vR 70, v1, v2, v3, v4] [vR 70, vR 87] I := runs_to (ins_of mI_246 (by rfl)) rfl rfl
set_option maxRecDepth 8000 in
theorem r246_424 : runs cal 246 424 [v0, v1, v2, v3, v4] [vR 70, vR 87] I = runs cal 246 427 [v0, v1, v2, v3, v4] [vI (I 70 34), vR 87] I := st_getI (ins_of mI_246 (by rfl)) mC_246 (by decide) fr_11_382 cT_70 (wdc wid_246 wd_70) (Or.inl rfl)
set_option maxRecDepth 8000 in
theorem r246_427 : runs cal 246 427 [v0, v1, v2, v3, vI w] [vI x0, vR 87] I = runs cal 246 429 [v0, v1, v2, v3, vI w] [vI w, vI x0, vR 87] I := runs_to (ins_of mI_246 (by rfl)) rfl rfl
set_option maxRecDepth 8000 in
theorem r246_429 : runs cal 246 429 [v0, v1, v2, v3, v4] [vI x0, vI x1, vR 87] I = if 0 ≤ x1 ∧ x1 < 128 then runs cal 246 430 [v0, v1, v2, v3, v4] [] (mset I 87 x1 x0) else none := st_iast (ins_of mI_246 (by rfl)) cT_87 (wdc wid_246 wd_87)
set_option maxRecDepth 8000 in
theorem r246_430 : runs cal 246 430 [vR 70, v1, v2, v3, v4] [] I = runs cal 246 431 [vR 70, v1, v2, v3, v4] [vR 70] I := runs_to (ins_of mI_246 (by rfl)) rfl rfl
set_option maxRecDepth 8000 in
theorem r246_431 : runs cal 246 431 [v0, v1, v2, v3, v4] [vR 70] I = runs cal 246 432 [v0, v1, v2, v3, v4] [vR 70, vR 70] I := runs_to (ins_of mI_246 (by rfl)) rfl rfl
set_option maxRecDepth 8000 in
theorem r246_432 : runs cal 246 432 [v0, v1, v2, v3, v4] [vR 70, vR 70] I = runs cal 246 435 [v0, v1, v2, v3, v4] [vI (I 70 34), vR 70] I := st_getI (ins_of mI_246 (by rfl)) mC_246 (by decide) fr_11_382 cT_70 (wdc wid_246 wd_70) (Or.inl rfl)
set_option maxRecDepth 8000 in
theorem r246_435 : runs cal 246 435 [v0, v1, v2, v3, v4] [vI x0, vR 70] I = runs cal 246 436 [v0, v1, v2, v3, v4] [vI (1), vI x0, vR 70] I := runs_to (ins_of mI_246 (by rfl)) rfl rfl
set_option maxRecDepth 8000 in
theorem r246_436 : runs cal 246 436 [v0, v1, v2, v3, v4] [vI x0, vI x1, vR 70] I = runs cal 246 437 [v0, v1, v2, v3, v4] [vI (iadd x1 x0), vR 70] I := runs_to (ins_of mI_246 (by rfl)) rfl rfl
set_option maxRecDepth 8000 in
theorem r246_437 : runs cal 246 437 [v0, v1, v2, v3, v4] [vI x0, vR 70] I = runs cal 246 440 [v0, v1, v2, v3, v4] [] (mset I 70 34 x0) := st_putI (ins_of mI_246 (by rfl)) mC_246 fr_11_382 cT_70 (wdc wid_246 wd_70) rfl
set_option maxRecDepth 8000 in
theorem r246_440 : runs cal 246 440 [v0, v1, v2, v3, v4] [] I = runs cal 246 441 [v0, v1, v2, v3, v4] [vI (1)] I := runs_to (ins_of mI_246 (by rfl)) rfl rfl
set_option maxRecDepth 8000 in
theorem r246_441 : runs cal 246 441 [v0, vI u, v2, v3, v4] [vI x0] I = runs cal 246 442 [v0, vI u, vI x0, v3, v4] [] I := runs_to (ins_of mI_246 (by rfl)) rfl rfl
set_option maxRecDepth 8000 in
theorem r246_442 : runs cal 246 442 [v0, v1, v2, v3, v4] [] I = runs cal 246 478 [v0, v1, v2, v3, v4] [] I := st_goto (ins_of mI_246 (by rfl)) (by decide)
set_option maxRecDepth 8000 in
theorem r246_445 : runs cal 246 445 [v0, v1, v2, v3, vI w] [] I = runs cal 246 447 [v0, v1, v2, v3, vI w] [vI w] I := runs_to (ins_of mI_246 (by rfl)) rfl rfl
set_option maxRecDepth 8000 in
theorem r246_447 : runs cal 246 447 [v0, v1, v2, v3, v4] [vI x0] I = runs cal 246 448 [v0, v1, v2, v3, v4] [vI (-1), vI x0] I := runs_to (ins_of mI_246 (by rfl)) rfl rfl
set_option maxRecDepth 8000 in
theorem r246_448 : runs cal 246 448 [v0, v1, v2, v3, v4] [vI x0, vI x1] I = if x1 = x0 then runs cal 246 451 [v0, v1, v2, v3, v4] [] I else runs cal 246 465 [v0, v1, v2, v3, v4] [] I := st_cmp_ne (ins_of mI_246 (by rfl)) (by decide)
set_option maxRecDepth 8000 in
theorem r246_451 : runs cal 246 451 [v0, vI w, v2, v3, v4] [] I = runs cal 246 452 [v0, vI w, v2, v3, v4] [vI w] I := runs_to (ins_of mI_246 (by rfl)) rfl rfl
set_option maxRecDepth 8000 in
theorem r246_452 : runs cal 246 452 [v0, v1, v2, v3, v4] [vI x0] I = if x0 = 0 then runs cal 246 455 [v0, v1, v2, v3, v4] [] I else runs cal 246 465 [v0, v1, v2, v3, v4] [] I := st_if_ne (ins_of mI_246 (by rfl)) (by decide)
set_option maxRecDepth 8000 in
theorem r246_455 : runs cal 246 455 [vR 70, v1, v2, v3, v4] [] I = runs cal 246 456 [vR 70, v1, v2, v3, v4] [vR 70] I := runs_to (ins_of mI_246 (by rfl)) rfl rfl
set_option maxRecDepth 8000 in
theorem r246_456 : runs cal 246 456 [v0, v1, v2, v3, v4] [vR 70] I = runs cal 246 457 [v0, v1, v2, v3, v4] [vI (1), vR 70] I := runs_to (ins_of mI_246 (by rfl)) rfl rfl
set_option maxRecDepth 8000 in
theorem r246_457 : runs cal 246 457 [v0, v1, v2, v3, v4] [vI x0, vR 70] I = (cal 241 [vR 70, vI x0] I).bind (fun q => runs cal 246 460 [v0, v1, v2, v3, v4] (pushR q.1 []) q.2) := st_call (st := false) (ins_of mI_246 (by rfl)) mC_246 mr_11_415 (by decide) mS_241 mN_241 rfl (Nat.le_of_ble_eq_true rfl) rfl rfl (Or.inr ⟨_, _, rfl, rcv mC_241 rfl wid_246 (by decide +kernel)⟩) (Or.inl (wid_246.trans wid_241.symm))
set_option maxRecDepth 8000 in
theorem r246_460 : runs cal 246 460 [v0, v1, v2, v3, v4] [] I = runs cal 246 461 [v0, v1, v2, v3, v4] [vI (0)] I := runs_to (ins_of mI_246 (by rfl)) rfl rfl
set_option maxRecDepth 8000 in
theorem r246_461 : runs cal 246 461 [v0, v1, vI u, v3, v4] [vI x0] I = runs cal 246 462 [v0, v1, vI u, vI x0, v4] [] I := runs_to (ins_of mI_246 (by rfl)) rfl rfl
set_option maxRecDepth 8000 in
theorem r246_462 : runs cal 246 462 [v0, v1, v2, v3, v4] [] I = runs cal 246 478 [v0, v1, v2, v3, v4] [] I := st_goto (ins_of mI_246 (by rfl)) (by decide)
set_option maxRecDepth 8000 in
theorem r246_465 : runs cal 246 465 [vR 70, v1, v2, v3, v4] [] I = runs cal 246 466 [vR 70, v1, v2, v3, v4] [vR 70] I := runs_to (ins_of mI_246 (by rfl)) rfl rfl
set_option maxRecDepth 8000 in
theorem r246_466 : runs cal 246 466 [v0, v1, v2, v3, v4] [vR 70] I = runs cal 246 468 [v0, v1, v2, v3, v4] [vI (10), vR 70] I := runs_to (ins_of mI_246 (by rfl)) rfl rfl
set_option maxRecDepth 8000 in
theorem r246_468 : runs cal 246 468 [vR 70, v1, v2, v3, v4] [vI x0, vR 70] I = runs cal 246 469 [vR 70, v1, v2, v3, v4] [vR 70, vI x0, vR 70] I := runs_to (ins_of mI_246 (by rfl)) rfl rfl
set_option maxRecDepth 8000 in
theorem r246_469 : runs cal 246 469 [v0, v1, v2, v3, v4] [vR 70, vI x1, vR 70] I = runs cal 246 472 [v0, v1, v2, v3, v4] [vI (I 70 29), vI x1, vR 70] I := st_getI (ins_of mI_246 (by rfl)) mC_246 (by decide) fr_11_373 cT_70 (wdc wid_246 wd_70) (Or.inl rfl)
set_option maxRecDepth 8000 in
theorem r246_472 : runs cal 246 472 [v0, v1, v2, v3, v4] [vI x0, vI x1, vR 70] I = runs cal 246 473 [v0, v1, v2, v3, v4] [vI (imul x1 x0), vR 70] I := runs_to (ins_of mI_246 (by rfl)) rfl rfl
set_option maxRecDepth 8000 in
theorem r246_473 : runs cal 246 473 [v0, v1, v2, v3, v4] [vI x0, vR 70] I = runs cal 246 474 [v0, v1, v2, v3, v4] [vI (1), vI x0, vR 70] I := runs_to (ins_of mI_246 (by rfl)) rfl rfl
set_option maxRecDepth 8000 in
theorem r246_474 : runs cal 246 474 [v0, v1, v2, v3, v4] [vI x0, vI x1, vR 70] I = runs cal 246 475 [v0, v1, v2, v3, v4] [vI (iadd x1 x0), vR 70] I := runs_to (ins_of mI_246 (by rfl)) rfl rfl
set_option maxRecDepth 8000 in
theorem r246_475 : runs cal 246 475 [v0, v1, v2, v3, v4] [vI x0, vR 70] I = runs cal 246 478 [v0, v1, v2, v3, v4] [] (mset I 70 30 x0) := st_putI (ins_of mI_246 (by rfl)) mC_246 fr_11_397 cT_70 (wdc wid_246 wd_70) rfl
set_option maxRecDepth 8000 in
theorem r246_478 : runs cal 246 478 [v0, v1, v2, v3, v4] [] I = runs cal 246 26 [v0, v1, v2, v3, v4] [] I := st_goto (ins_of mI_246 (by rfl)) (by decide)
set_option maxRecDepth 8000 in
theorem r246_481 : runs cal 246 481 [vR 70, v1, v2, v3, v4] [] I = runs cal 246 482 [vR 70, v1, v2, v3, v4] [vR 70] I := runs_to (ins_of mI_246 (by rfl)) rfl rfl
set_option maxRecDepth 8000 in
theorem r246_482 : runs cal 246 482 [vR 70, v1, v2, v3, v4] [vR 70] I = runs cal 246 483 [vR 70, v1, v2, v3, v4] [vR 70, vR 70] I := runs_to (ins_of mI_246 (by rfl)) rfl rfl
set_option maxRecDepth 8000 in
theorem r246_483 : runs cal 246 483 [v0, v1, v2, v3, v4] [vR 70, vR 70] I = runs cal 246 486 [v0, v1, v2, v3, v4] [vI (I 70 30), vR 70] I := st_getI (ins_of mI_246 (by rfl)) mC_246 (by decide) fr_11_397 cT_70 (wdc wid_246 wd_70) (Or.inl rfl)
set_option maxRecDepth 8000 in
theorem r246_486 : runs cal 246 486 [v0, v1, v2, v3, v4] [vI x0, vR 70] I = runs cal 246 487 [v0, v1, v2, v3, v4] [vI (-1), vI x0, vR 70] I := runs_to (ins_of mI_246 (by rfl)) rfl rfl
set_option maxRecDepth 8000 in
theorem r246_487 : runs cal 246 487 [v0, v1, v2, v3, v4] [vI x0, vI x1, vR 70] I = if x1 = x0 then runs cal 246 490 [v0, v1, v2, v3, v4] [vR 70] I else runs cal 246 499 [v0, v1, v2, v3, v4] [vR 70] I := st_cmp_ne (ins_of mI_246 (by rfl)) (by decide)
set_option maxRecDepth 8000 in
theorem r246_490 : runs cal 246 490 [vR 70, v1, v2, v3, v4] [vR 70] I = runs cal 246 491 [vR 70, v1, v2, v3, v4] [vR 70, vR 70] I := runs_to (ins_of mI_246 (by rfl)) rfl rfl
set_option maxRecDepth 8000 in
theorem r246_491 : runs cal 246 491 [v0, v1, v2, v3, v4] [vR 70, vR 70] I = runs cal 246 494 [v0, v1, v2, v3, v4] [vR 86, vR 70] I := st_getR (ins_of mI_246 (by rfl)) mC_246 (by decide) fr_11_58 cT_70 (wdc wid_246 wd_70) rfl rfl
set_option maxRecDepth 8000 in
theorem r246_494 : runs cal 246 494 [v0, v1, v2, v3, v4] [vR 86, vR 70] I = runs cal 246 495 [v0, v1, v2, v3, v4] [vI (0), vR 86, vR 70] I := runs_to (ins_of mI_246 (by rfl)) rfl rfl
set_option maxRecDepth 8000 in
theorem r246_495 : runs cal 246 495 [v0, v1, v2, v3, v4] [vI x0, vR 86, vR 70] I = if 0 ≤ x0 ∧ x0 < 64 then runs cal 246 496 [v0, v1, v2, v3, v4] [vL (I 86 x0), vR 70] I else none := st_lald (ins_of mI_246 (by rfl)) cT_86 (wdc wid_246 wd_86)
set_option maxRecDepth 8000 in
theorem r246_496 : runs cal 246 496 [v0, v1, v2, v3, v4] [vL x0, vR 70] I = runs cal 246 500 [v0, v1, v2, v3, v4] [vL x0, vR 70] I := st_goto (ins_of mI_246 (by rfl)) (by decide)
set_option maxRecDepth 8000 in
theorem r246_499 : runs cal 246 499 [v0, v1, v2, v3, v4] [vR 70] I = runs cal 246 500 [v0, v1, v2, v3, v4] [vL 0, vR 70] I := runs_to (ins_of mI_246 (by rfl)) rfl rfl
set_option maxRecDepth 8000 in
theorem r246_500 : runs cal 246 500 [v0, v1, v2, v3, v4] [vL x0, vR 70] I = runs cal 246 503 [v0, v1, v2, v3, v4] [] (mset I 70 36 x0) := st_putL (ins_of mI_246 (by rfl)) mC_246 fr_11_418 cT_70 (wdc wid_246 wd_70) rfl
set_option maxRecDepth 8000 in
theorem r246_503 : runs cal 246 503 [vR 70, v1, v2, v3, v4] [] I = runs cal 246 504 [vR 70, v1, v2, v3, v4] [vR 70] I := runs_to (ins_of mI_246 (by rfl)) rfl rfl
set_option maxRecDepth 8000 in
theorem r246_504 : runs cal 246 504 [v0, v1, v2, v3, v4] [vR 70] I = runs cal 246 507 [v0, v1, v2, v3, v4] [vI (I 70 30)] I := st_getI (ins_of mI_246 (by rfl)) mC_246 (by decide) fr_11_397 cT_70 (wdc wid_246 wd_70) (Or.inl rfl)
set_option maxRecDepth 8000 in
theorem r246_507 : runs cal 246 507 [v0, v1, v2, v3, v4] [vI x0] I = runs cal 246 508 [v0, v1, v2, v3, v4] [vI (-1), vI x0] I := runs_to (ins_of mI_246 (by rfl)) rfl rfl
set_option maxRecDepth 8000 in
theorem r246_508 : runs cal 246 508 [v0, v1, v2, v3, v4] [vI x0, vI x1] I = if x1 = x0 then runs cal 246 511 [v0, v1, v2, v3, v4] [] I else runs cal 246 515 [v0, v1, v2, v3, v4] [] I := st_cmp_ne (ins_of mI_246 (by rfl)) (by decide)
set_option maxRecDepth 8000 in
theorem r246_511 : runs cal 246 511 [v0, v1, v2, v3, v4] [] I = runs cal 246 512 [v0, v1, v2, v3, v4] [vI (1)] I := runs_to (ins_of mI_246 (by rfl)) rfl rfl
set_option maxRecDepth 8000 in
theorem r246_512 : runs cal 246 512 [v0, v1, v2, v3, v4] [vI x0] I = runs cal 246 516 [v0, v1, v2, v3, v4] [vI x0] I := st_goto (ins_of mI_246 (by rfl)) (by decide)
set_option maxRecDepth 8000 in
theorem r246_515 : runs cal 246 515 [v0, v1, v2, v3, v4] [] I = runs cal 246 516 [v0, v1, v2, v3, v4] [vI (0)] I := runs_to (ins_of mI_246 (by rfl)) rfl rfl
set_option maxRecDepth 8000 in
theorem r246_516 : runs cal 246 516 [v0, v1, v2, v3, v4] [vI x0] I = if x0 = 0 ∨ x0 = 1 then some (some (vI x0), I) else none := st_retZ (ins_of mI_246 (by rfl)) mR_246 (Or.inl rfl)
theorem r247_0 : runs cal 247 0 [vR 70, v1] [] I = runs cal 247 1 [vR 70, v1] [vR 70] I := runs_to (ins_of mI_247 (by rfl)) rfl rfl
theorem r247_1 : runs cal 247 1 [v0, v1] [vR 70] I = (cal 246 [vR 70] I).bind (fun q => runs cal 247 4 [v0, v1] (pushR q.1 []) q.2) := st_call (st := false) (ins_of mI_247 (by rfl)) mC_247 mr_11_422 (by decide) mS_246 mN_246 rfl (Nat.le_of_ble_eq_true rfl) rfl rfl (Or.inr ⟨_, _, rfl, rcv mC_246 rfl wid_247 (by decide +kernel)⟩) (Or.inl (wid_247.trans wid_246.symm))
theorem r247_4 : runs cal 247 4 [vR b0, v1] [vI x0] I = runs cal 247 5 [vR b0, vI x0] [] I := runs_to (ins_of mI_247 (by rfl)) rfl rfl
theorem r247_5 : runs cal 247 5 [vR 70, v1] [] I = runs cal 247 6 [vR 70, v1] [vR 70] I := runs_to (ins_of mI_247 (by rfl)) rfl rfl
theorem r247_6 : runs cal 247 6 [v0, v1] [vR 70] I = runs cal 247 9 [v0, v1] [vI (I 70 30)] I := st_getI (ins_of mI_247 (by rfl)) mC_247 (by decide) fr_11_397 cT_70 (wdc wid_247 wd_70) (Or.inl rfl)
theorem r247_9 : runs cal 247 9 [v0, v1] [vI x0] I = some (some (vI x0), I) := st_ret (q := some (vI x0)) (k := 0) (ins_of mI_247 (by rfl)) rfl (by decide) mR_247 rfl trivial
theorem r248_0 : runs cal 248 0 [v0, v1, v2, v3, v4, v5] [] I = runs cal 248 1 [v0, v1, v2, v3, v4, v5] [vI (-1)] I := runs_to (ins_of mI_248 (by rfl)) rfl rfl
theorem r248_1 : runs cal 248 1 [v0, v1, vI u, v3, v4, v5] [vI x0] I = runs cal 248 2 [v0, v1, vI u, vI x0, v4, v5] [] I := runs_to (ins_of mI_248 (by rfl)) rfl rfl
theorem r248_2 : runs cal 248 2 [vR 70, v1, v2, v3, v4, v5] [] I = runs cal 248 3 [vR 70, v1, v2, v3, v4, v5] [vR 70] I := runs_to (ins_of mI_248 (by rfl)) rfl rfl
theorem r248_3 : runs cal 248 3 [v0, v1, v2, v3, v4, v5] [vR 70] I = (cal 160 [vR 70] I).bind (fun q => runs cal 248 6 [v0, v1, v2, v3, v4, v5] (pushR q.1 []) q.2) := st_call (st := false) (ins_of mI_248 (by rfl)) mC_248 mr_11_125 (by decide) mS_160 mN_160 rfl (Nat.le_of_ble_eq_true rfl) rfl rfl (Or.inr ⟨_, _, rfl, rcv mC_160 rfl wid_248 (by decide +kernel)⟩) (Or.inl (wid_248.trans wid_160.symm))
theorem r248_6 : runs cal 248 6 [v0, v1, v2, v3, v4, v5] [vI x0] I = runs cal 248 7 [v0, v1, v2, v3, v4, v5] [vI (1), vI x0] I := runs_to (ins_of mI_248 (by rfl)) rfl rfl
theorem r248_7 : runs cal 248 7 [v0, v1, v2, v3, v4, v5] [vI x0, vI x1] I = runs cal 248 8 [v0, v1, v2, v3, v4, v5] [vI (isub x1 x0)] I := runs_to (ins_of mI_248 (by rfl)) rfl rfl
theorem r248_8 : runs cal 248 8 [v0, v1, v2, vI u, v4, v5] [vI x0] I = runs cal 248 10 [v0, v1, v2, vI u, vI x0, v5] [] I := runs_to (ins_of mI_248 (by rfl)) rfl rfl
theorem r248_10 : runs cal 248 10 [v0, v1, v2, v3, vI w, v5] [] I = runs cal 248 12 [v0, v1, v2, v3, vI w, v5] [vI w] I := runs_to (ins_of mI_248 (by rfl)) rfl rfl
theorem r248_12 : runs cal 248 12 [v0, v1, v2, v3, v4, v5] [vI x0] I = if x0 < 0 then runs cal 248 81 [v0, v1, v2, v3, v4, v5] [] I else runs cal 248 15 [v0, v1, v2, v3, v4, v5] [] I := st_if_lt (ins_of mI_248 (by rfl)) (by decide)
theorem r248_15 : runs cal 248 15 [v0, v1, vI w, v3, v4, v5] [] I = runs cal 248 16 [v0, v1, vI w, v3, v4, v5] [vI w] I := runs_to (ins_of mI_248 (by rfl)) rfl rfl
theorem r248_16 : runs cal 248 16 [v0, v1, v2, v3, v4, v5] [vI x0] I = runs cal 248 17 [v0, v1, v2, v3, v4, v5] [vI (1), vI x0] I := runs_to (ins_of mI_248 (by rfl)) rfl rfl
theorem r248_17 : runs cal 248 17 [v0, v1, v2, v3, v4, v5] [vI x0, vI x1] I = if x1 = x0 then runs cal 248 20 [v0, v1, v2, v3, v4, v5] [] I else runs cal 248 37 [v0, v1, v2, v3, v4, v5] [] I := st_cmp_ne (ins_of mI_248 (by rfl)) (by decide)
theorem r248_20 : runs cal 248 20 [vR 70, v1, v2, v3, v4, v5] [] I = runs cal 248 21 [vR 70, v1, v2, v3, v4, v5] [vR 70] I := runs_to (ins_of mI_248 (by rfl)) rfl rfl
theorem r248_21 : runs cal 248 21 [v0, v1, v2, v3, v4, v5] [vR 70] I = runs cal 248 24 [v0, v1, v2, v3, v4, v5] [vR 78] I := st_getR (ins_of mI_248 (by rfl)) mC_248 (by decide) fr_11_33 cT_70 (wdc wid_248 wd_70) rfl rfl
theorem r248_24 : runs cal 248 24 [v0, v1, v2, v3, vI w, v5] [vR 78] I = runs cal 248 26 [v0, v1, v2, v3, vI w, v5] [vI w, vR 78] I := runs_to (ins_of mI_248 (by rfl)) rfl rfl
theorem r248_26 : runs cal 248 26 [v0, v1, v2, v3, v4, v5] [vI x0, vR 78] I = if 0 ≤ x0 ∧ x0 < 2 then runs cal 248 27 [v0, v1, v2, v3, v4, v5] [vI (I 78 x0)] I else none := st_iald (ins_of mI_248 (by rfl)) cT_78 (wdc wid_248 wd_78)
theorem r248_27 : runs cal 248 27 [vR 70, v1, v2, v3, v4, v5] [vI x0] I = runs cal 248 28 [vR 70, v1, v2, v3, v4, v5] [vR 70, vI x0] I := runs_to (ins_of mI_248 (by rfl)) rfl rfl
theorem r248_28 : runs cal 248 28 [v0, v1, v2, v3, vI w, v5] [vR 70, vI x1] I = runs cal 248 30 [v0, v1, v2, v3, vI w, v5] [vI w, vR 70, vI x1] I := runs_to (ins_of mI_248 (by rfl)) rfl rfl
theorem r248_30 : runs cal 248 30 [v0, v1, v2, v3, v4, v5] [vI x0, vR 70, vI x2] I = (cal 167 [vR 70, vI x0] I).bind (fun q => runs cal 248 33 [v0, v1, v2, v3, v4, v5] (pushR q.1 [vI x2]) q.2) := st_call (st := false) (ins_of mI_248 (by rfl)) mC_248 mr_11_134 (by decide) mS_167 mN_167 rfl (Nat.le_of_ble_eq_true rfl) rfl rfl (Or.inr ⟨_, _, rfl, rcv mC_167 rfl wid_248 (by decide +kernel)⟩) (Or.inl (wid_248.trans wid_167.symm))
theorem r248_33 : runs cal 248 33 [v0, v1, v2, v3, v4, v5] [vI x0, vI x1] I = runs cal 248 34 [v0, v1, v2, v3, v4, v5] [vI (iadd x1 x0)] I := runs_to (ins_of mI_248 (by rfl)) rfl rfl
theorem r248_34 : runs cal 248 34 [v0, v1, v2, v3, v4, v5] [vI x0] I = runs cal 248 46 [v0, v1, v2, v3, v4, v5] [vI x0] I := st_goto (ins_of mI_248 (by rfl)) (by decide)
theorem r248_37 : runs cal 248 37 [vR 70, v1, v2, v3, v4, v5] [] I = runs cal 248 38 [vR 70, v1, v2, v3, v4, v5] [vR 70] I := runs_to (ins_of mI_248 (by rfl)) rfl rfl
theorem r248_38 : runs cal 248 38 [v0, v1, v2, v3, v4, v5] [vR 70] I = runs cal 248 41 [v0, v1, v2, v3, v4, v5] [vR 78] I := st_getR (ins_of mI_248 (by rfl)) mC_248 (by decide) fr_11_33 cT_70 (wdc wid_248 wd_70) rfl rfl
theorem r248_41 : runs cal 248 41 [v0, v1, v2, v3, vI w, v5] [vR 78] I = runs cal 248 43 [v0, v1, v2, v3, vI w, v5] [vI w, vR 78] I := runs_to (ins_of mI_248 (by rfl)) rfl rfl
theorem r248_43 : runs cal 248 43 [v0, v1, v2, v3, v4, v5] [vI x0, vR 78] I = if 0 ≤ x0 ∧ x0 < 2 then runs cal 248 44 [v0, v1, v2, v3, v4, v5] [vI (I 78 x0)] I else none := st_iald (ins_of mI_248 (by rfl)) cT_78 (wdc wid_248 wd_78)
theorem r248_44 : runs cal 248 44 [v0, v1, v2, v3, v4, v5] [vI x0] I = runs cal 248 45 [v0, v1, v2, v3, v4, v5] [vI (1), vI x0] I := runs_to (ins_of mI_248 (by rfl)) rfl rfl
theorem r248_45 : runs cal 248 45 [v0, v1, v2, v3, v4, v5] [vI x0, vI x1] I = runs cal 248 46 [v0, v1, v2, v3, v4, v5] [vI (isub x1 x0)] I := runs_to (ins_of mI_248 (by rfl)) rfl rfl
theorem r248_46 : runs cal 248 46 [v0, v1, v2, v3, vI u, v5] [vI x0] I = runs cal 248 48 [v0, v1, v2, v3, vI u, vI x0] [] I := runs_to (ins_of mI_248 (by rfl)) rfl rfl
theorem r248_48 : runs cal 248 48 [vR 70, v1, v2, v3, v4, v5] [] I = runs cal 248 49 [vR 70, v1, v2, v3, v4, v5] [vR 70] I := runs_to (ins_of mI_248 (by rfl)) rfl rfl
theorem r248_49 : runs cal 248 49 [v0, v1, v2, v3, vI w, v5] [vR 70] I = runs cal 248 51 [v0, v1, v2, v3, vI w, v5] [vI w, vR 70] I := runs_to (ins_of mI_248 (by rfl)) rfl rfl
theorem r248_51 : runs cal 248 51 [v0, v1, v2, v3, v4, v5] [vI x0, vR 70] I = (cal 169 [vR 70, vI x0] I).bind (fun q => runs cal 248 54 [v0, v1, v2, v3, v4, v5] (pushR q.1 []) q.2) := st_call (st := false) (ins_of mI_248 (by rfl)) mC_248 mr_11_131 (by decide) mS_169 mN_169 rfl (Nat.le_of_ble_eq_true rfl) rfl rfl (Or.inr ⟨_, _, rfl, rcv mC_169 rfl wid_248 (by decide +kernel)⟩) (Or.inl (wid_248.trans wid_169.symm))
theorem r248_54 : runs cal 248 54 [v0, v1, v2, v3, v4, v5] [vI x0] I = if x0 = 0 then runs cal 248 73 [v0, v1, v2, v3, v4, v5] [] I else runs cal 248 57 [v0, v1, v2, v3, v4, v5] [] I := st_if_eq (ins_of mI_248 (by rfl)) (by decide)
theorem r248_57 : runs cal 248 57 [v0, v1, v2, v3, v4, vI w] [] I = runs cal 248 59 [v0, v1, v2, v3, v4, vI w] [vI w] I := runs_to (ins_of mI_248 (by rfl)) rfl rfl
theorem r248_59 : runs cal 248 59 [vR 70, v1, v2, v3, v4, v5] [vI x0] I = runs cal 248 60 [vR 70, v1, v2, v3, v4, v5] [vR 70, vI x0] I := runs_to (ins_of mI_248 (by rfl)) rfl rfl
theorem r248_60 : runs cal 248 60 [v0, v1, v2, v3, v4, v5] [vR 70, vI x1] I = runs cal 248 63 [v0, v1, v2, v3, v4, v5] [vR 77, vI x1] I := st_getR (ins_of mI_248 (by rfl)) mC_248 (by decide) fr_11_30 cT_70 (wdc wid_248 wd_70) rfl rfl
theorem r248_63 : runs cal 248 63 [v0, vI w, v2, v3, v4, v5] [vR 77, vI x1] I = runs cal 248 64 [v0, vI w, v2, v3, v4, v5] [vI w, vR 77, vI x1] I := runs_to (ins_of mI_248 (by rfl)) rfl rfl
theorem r248_64 : runs cal 248 64 [v0, v1, v2, v3, v4, v5] [vI x0, vR 77, vI x2] I = if 0 ≤ x0 ∧ x0 < 3 then runs cal 248 65 [v0, v1, v2, v3, v4, v5] [vI (I 77 x0), vI x2] I else none := st_iald (ins_of mI_248 (by rfl)) cT_77 (wdc wid_248 wd_77)
theorem r248_65 : runs cal 248 65 [v0, v1, v2, v3, v4, v5] [vI x0, vI x1] I = if x1 = x0 then runs cal 248 68 [v0, v1, v2, v3, v4, v5] [] I else runs cal 248 73 [v0, v1, v2, v3, v4, v5] [] I := st_cmp_ne (ins_of mI_248 (by rfl)) (by decide)
theorem r248_68 : runs cal 248 68 [v0, v1, v2, v3, vI w, v5] [] I = runs cal 248 70 [v0, v1, v2, v3, vI w, v5] [vI w] I := runs_to (ins_of mI_248 (by rfl)) rfl rfl
theorem r248_70 : runs cal 248 70 [v0, v1, v2, v3, v4, v5] [vI x0] I = runs cal 248 74 [v0, v1, v2, v3, v4, v5] [vI x0] I := st_goto (ins_of mI_248 (by rfl)) (by decide)
theorem r248_73 : runs cal 248 73 [v0, v1, v2, vI w, v4, v5] [] I = runs cal 248 74 [v0, v1, v2, vI w, v4, v5] [vI w] I := runs_to (ins_of mI_248 (by rfl)) rfl rfl
theorem r248_74 : runs cal 248 74 [v0, v1, vI u, v3, v4, v5] [vI x0] I = runs cal 248 75 [v0, v1, vI u, vI x0, v4, v5] [] I := runs_to (ins_of mI_248 (by rfl)) rfl rfl
theorem r248_75 : runs cal 248 75 [v0, v1, v2, vI u, vI w, v5] [] I = runs cal 248 78 [v0, v1, v2, vI u, vI (iadd w (-1)), v5] [] I := runs_to (ins_of mI_248 (by rfl)) rfl rfl
theorem r248_78 : runs cal 248 78 [v0, v1, v2, v3, v4, v5] [] I = runs cal 248 10 [v0, v1, v2, v3, v4, v5] [] I := st_goto (ins_of mI_248 (by rfl)) (by decide)
theorem r248_81 : runs cal 248 81 [v0, v1, v2, vI w, v4, v5] [] I = runs cal 248 82 [v0, v1, v2, vI w, v4, v5] [vI w] I := runs_to (ins_of mI_248 (by rfl)) rfl rfl
theorem r248_82 : runs cal 248 82 [v0, v1, v2, v3, v4, v5] [vI x0] I = some (some (vI x0), I) := st_ret (q := some (vI x0)) (k := 0) (ins_of mI_248 (by rfl)) rfl (by decide) mR_248 rfl trivial
theorem r249_0 : runs cal 249 0 [v0, v1, v2, v3, v4, v5, v6] [] I = runs cal 249 1 [v0, v1, v2, v3, v4, v5, v6] [vI (0)] I := runs_to (ins_of mI_249 (by rfl)) rfl rfl
theorem r249_1 : runs cal 249 1 [v0, v1, vI u, v3, v4, v5, v6] [vI x0] I = runs cal 249 2 [v0, v1, vI u, vI x0, v4, v5, v6] [] I := runs_to (ins_of mI_249 (by rfl)) rfl rfl
theorem r249_2 : runs cal 249 2 [v0, v1, v2, v3, v4, v5, v6] [] I = runs cal 249 3 [v0, v1, v2, v3, v4, v5, v6] [vI (0)] I := runs_to (ins_of mI_249 (by rfl)) rfl rfl
theorem r249_3 : runs cal 249 3 [v0, v1, v2, vI u, v4, v5, v6] [vI x0] I = runs cal 249 5 [v0, v1, v2, vI u, vI x0, v5, v6] [] I := runs_to (ins_of mI_249 (by rfl)) rfl rfl
theorem r249_5 : runs cal 249 5 [v0, v1, v2, v3, vI w, v5, v6] [] I = runs cal 249 7 [v0, v1, v2, v3, vI w, v5, v6] [vI w] I := runs_to (ins_of mI_249 (by rfl)) rfl rfl
theorem r249_7 : runs cal 249 7 [vR 70, v1, v2, v3, v4, v5, v6] [vI x0] I = runs cal 249 8 [vR 70, v1, v2, v3, v4, v5, v6] [vR 70, vI x0] I := runs_to (ins_of mI_249 (by rfl)) rfl rfl
theorem r249_8 : runs cal 249 8 [v0, v1, v2, v3, v4, v5, v6] [vR 70, vI x1] I = (cal 160 [vR 70] I).bind (fun q => runs cal 249 11 [v0, v1, v2, v3, v4, v5, v6] (pushR q.1 [vI x1]) q.2) := st_call (st := false) (ins_of mI_249 (by rfl)) mC_249 mr_11_125 (by decide) mS_160 mN_160 rfl (Nat.le_of_ble_eq_true rfl) rfl rfl (Or.inr ⟨_, _, rfl, rcv mC_160 rfl wid_249 (by decide +kernel)⟩) (Or.inl (wid_249.trans wid_160.symm))
theorem r249_11 : runs cal 249 11 [v0, v1, v2, v3, v4, v5, v6] [vI x0, vI x1] I = if x1 < x0 then runs cal 249 14 [v0, v1, v2, v3, v4, v5, v6] [] I else runs cal 249 112 [v0, v1, v2, v3, v4, v5, v6] [] I := st_cmp_ge (ins_of mI_249 (by rfl)) (by decide)
theorem r249_14 : runs cal 249 14 [v0, v1, vI w, v3, v4, v5, v6] [] I = runs cal 249 15 [v0, v1, vI w, v3, v4, v5, v6] [vI w] I := runs_to (ins_of mI_249 (by rfl)) rfl rfl
theorem r249_15 : runs cal 249 15 [v0, v1, v2, v3, v4, v5, v6] [vI x0] I = runs cal 249 16 [v0, v1, v2, v3, v4, v5, v6] [vI (1), vI x0] I := runs_to (ins_of mI_249 (by rfl)) rfl rfl
theorem r249_16 : runs cal 249 16 [v0, v1, v2, v3, v4, v5, v6] [vI x0, vI x1] I = if x1 = x0 then runs cal 249 19 [v0, v1, v2, v3, v4, v5, v6] [] I else runs cal 249 36 [v0, v1, v2, v3, v4, v5, v6] [] I := st_cmp_ne (ins_of mI_249 (by rfl)) (by decide)
theorem r249_19 : runs cal 249 19 [vR 70, v1, v2, v3, v4, v5, v6] [] I = runs cal 249 20 [vR 70, v1, v2, v3, v4, v5, v6] [vR 70] I := runs_to (ins_of mI_249 (by rfl)) rfl rfl
theorem r249_20 : runs cal 249 20 [v0, v1, v2, v3, v4, v5, v6] [vR 70] I = runs cal 249 23 [v0, v1, v2, v3, v4, v5, v6] [vR 78] I := st_getR (ins_of mI_249 (by rfl)) mC_249 (by decide) fr_11_33 cT_70 (wdc wid_249 wd_70) rfl rfl
theorem r249_23 : runs cal 249 23 [v0, v1, v2, v3, vI w, v5, v6] [vR 78] I = runs cal 249 25 [v0, v1, v2, v3, vI w, v5, v6] [vI w, vR 78] I := runs_to (ins_of mI_249 (by rfl)) rfl rfl
theorem r249_25 : runs cal 249 25 [v0, v1, v2, v3, v4, v5, v6] [vI x0, vR 78] I = if 0 ≤ x0 ∧ x0 < 2 then runs cal 249 26 [v0, v1, v2, v3, v4, v5, v6] [vI (I 78 x0)] I else none := st_iald (ins_of mI_249 (by rfl)) cT_78 (wdc wid_249 wd_78)
theorem r249_26 : runs cal 249 26 [vR 70, v1, v2, v3, v4, v5, v6] [vI x0] I = runs cal 249 27 [vR 70, v1, v2, v3, v4, v5, v6] [vR 70, vI x0] I := runs_to (ins_of mI_249 (by rfl)) rfl rfl
theorem r249_27 : runs cal 249 27 [v0, v1, v2, v3, vI w, v5, v6] [vR 70, vI x1] I = runs cal 249 29 [v0, v1, v2, v3, vI w, v5, v6] [vI w, vR 70, vI x1] I := runs_to (ins_of mI_249 (by rfl)) rfl rfl
theorem r249_29 : runs cal 249 29 [v0, v1, v2, v3, v4, v5, v6] [vI x0, vR 70, vI x2] I = (cal 167 [vR 70, vI x0] I).bind (fun q => runs cal 249 32 [v0, v1, v2, v3, v4, v5, v6] (pushR q.1 [vI x2]) q.2) := st_call (st := false) (ins_of mI_249 (by rfl)) mC_249 mr_11_134 (by decide) mS_167 mN_167 rfl (Nat.le_of_ble_eq_true rfl) rfl rfl (Or.inr ⟨_, _, rfl, rcv mC_167 rfl wid_249 (by decide +kernel)⟩) (Or.inl (wid_249.trans wid_167.symm))
theorem r249_32 : runs cal 249 32 [v0, v1, v2, v3, v4, v5, v6] [vI x0, vI x1] I = runs cal 249 33 [v0, v1, v2, v3, v4, v5, v6] [vI (iadd x1 x0)] I := runs_to (ins_of mI_249 (by rfl)) rfl rfl
theorem r249_33 : runs cal 249 33 [v0, v1, v2, v3, v4, v5, v6] [vI x0] I = runs cal 249 45 [v0, v1, v2, v3, v4, v5, v6] [vI x0] I := st_goto (ins_of mI_249 (by rfl)) (by decide)
theorem r249_36 : runs cal 249 36 [vR 70, v1, v2, v3, v4, v5, v6] [] I = runs cal 249 37 [vR 70, v1, v2, v3, v4, v5, v6] [vR 70] I := runs_to (ins_of mI_249 (by rfl)) rfl rfl
theorem r249_37 : runs cal 249 37 [v0, v1, v2, v3, v4, v5, v6] [vR 70] I = runs cal 249 40 [v0, v1, v2, v3, v4, v5, v6] [vR 78] I := st_getR (ins_of mI_249 (by rfl)) mC_249 (by decide) fr_11_33 cT_70 (wdc wid_249 wd_70) rfl rfl
theorem r249_40 : runs cal 249 40 [v0, v1, v2, v3, vI w, v5, v6] [vR 78] I = runs cal 249 42 [v0, v1, v2, v3, vI w, v5, v6] [vI w, vR 78] I := runs_to (ins_of mI_249 (by rfl)) rfl rfl
theorem r249_42 : runs cal 249 42 [v0, v1, v2, v3, v4, v5, v6] [vI x0, vR 78] I = if 0 ≤ x0 ∧ x0 < 2 then runs cal 249 43 [v0, v1, v2, v3, v4, v5, v6] [vI (I 78 x0)] I else none := st_iald (ins_of mI_249 (by rfl)) cT_78 (wdc wid_249 wd_78)
theorem r249_43 : runs cal 249 43 [v0, v1, v2, v3, v4, v5, v6] [vI x0] I = runs cal 249 44 [v0, v1, v2, v3, v4, v5, v6] [vI (1), vI x0] I := runs_to (ins_of mI_249 (by rfl)) rfl rfl
theorem r249_44 : runs cal 249 44 [v0, v1, v2, v3, v4, v5, v6] [vI x0, vI x1] I = runs cal 249 45 [v0, v1, v2, v3, v4, v5, v6] [vI (isub x1 x0)] I := runs_to (ins_of mI_249 (by rfl)) rfl rfl
theorem r249_45 : runs cal 249 45 [v0, v1, v2, v3, vI u, v5, v6] [vI x0] I = runs cal 249 47 [v0, v1, v2, v3, vI u, vI x0, v6] [] I := runs_to (ins_of mI_249 (by rfl)) rfl rfl
theorem r249_47 : runs cal 249 47 [vR 70, v1, v2, v3, v4, v5, v6] [] I = runs cal 249 48 [vR 70, v1, v2, v3, v4, v5, v6] [vR 70] I := runs_to (ins_of mI_249 (by rfl)) rfl rfl
theorem r249_48 : runs cal 249 48 [v0, v1, v2, v3, vI w, v5, v6] [vR 70] I = runs cal 249 50 [v0, v1, v2, v3, vI w, v5, v6] [vI w, vR 70] I := runs_to (ins_of mI_249 (by rfl)) rfl rfl
theorem r249_50 : runs cal 249 50 [v0, v1, v2, v3, v4, v5, v6] [vI x0, vR 70] I = (cal 169 [vR 70, vI x0] I).bind (fun q => runs cal 249 53 [v0, v1, v2, v3, v4, v5, v6] (pushR q.1 []) q.2) := st_call (st := false) (ins_of mI_249 (by rfl)) mC_249 mr_11_131 (by decide) mS_169 mN_169 rfl (Nat.le_of_ble_eq_true rfl) rfl rfl (Or.inr ⟨_, _, rfl, rcv mC_169 rfl wid_249 (by decide +kernel)⟩) (Or.inl (wid_249.trans wid_169.symm))
theorem r249_53 : runs cal 249 53 [v0, v1, v2, v3, v4, v5, v6] [vI x0] I = if x0 = 0 then runs cal 249 106 [v0, v1, v2, v3, v4, v5, v6] [] I else runs cal 249 56 [v0, v1, v2, v3, v4, v5, v6] [] I := st_if_eq (ins_of mI_249 (by rfl)) (by decide)
theorem r249_56 : runs cal 249 56 [v0, v1, v2, v3, v4, vI w, v6] [] I = runs cal 249 58 [v0, v1, v2, v3, v4, vI w, v6] [vI w] I := runs_to (ins_of mI_249 (by rfl)) rfl rfl
theorem r249_58 : runs cal 249 58 [vR 70, v1, v2, v3, v4, v5, v6] [vI x0] I = runs cal 249 59 [vR 70, v1, v2, v3, v4, v5, v6] [vR 70, vI x0] I := runs_to (ins_of mI_249 (by rfl)) rfl rfl
theorem r249_59 : runs cal 249 59 [v0, v1, v2, v3, v4, v5, v6] [vR 70, vI x1] I = runs cal 249 62 [v0, v1, v2, v3, v4, v5, v6] [vR 77, vI x1] I := st_getR (ins_of mI_249 (by rfl)) mC_249 (by decide) fr_11_30 cT_70 (wdc wid_249 wd_70) rfl rfl
theorem r249_62 : runs cal 249 62 [v0, vI w, v2, v3, v4, v5, v6] [vR 77, vI x1] I = runs cal 249 63 [v0, vI w, v2, v3, v4, v5, v6] [vI w, vR 77, vI x1] I := runs_to (ins_of mI_249 (by rfl)) rfl rfl
theorem r249_63 : runs cal 249 63 [v0, v1, v2, v3, v4, v5, v6] [vI x0, vR 77, vI x2] I = if 0 ≤ x0 ∧ x0 < 3 then runs cal 249 64 [v0, v1, v2, v3, v4, v5, v6] [vI (I 77 x0), vI x2] I else none := st_iald (ins_of mI_249 (by rfl)) cT_77 (wdc wid_249 wd_77)
theorem r249_64 : runs cal 249 64 [v0, v1, v2, v3, v4, v5, v6] [vI x0, vI x1] I = if x1 = x0 then runs cal 249 67 [v0, v1, v2, v3, v4, v5, v6] [] I else runs cal 249 106 [v0, v1, v2, v3, v4, v5, v6] [] I := st_cmp_ne (ins_of mI_249 (by rfl)) (by decide)
theorem r249_67 : runs cal 249 67 [vR 70, v1, v2, v3, v4, v5, v6] [] I = runs cal 249 68 [vR 70, v1, v2, v3, v4, v5, v6] [vR 70] I := runs_to (ins_of mI_249 (by rfl)) rfl rfl
theorem r249_68 : runs cal 249 68 [v0, v1, v2, v3, v4, v5, v6] [vR 70] I = runs cal 249 69 [v0, v1, v2, v3, v4, v5, v6] [vI (2), vR 70] I := runs_to (ins_of mI_249 (by rfl)) rfl rfl
theorem r249_69 : runs cal 249 69 [v0, vI w, v2, v3, v4, v5, v6] [vI x0, vR 70] I = runs cal 249 70 [v0, vI w, v2, v3, v4, v5, v6] [vI w, vI x0, vR 70] I := runs_to (ins_of mI_249 (by rfl)) rfl rfl
theorem r249_70 : runs cal 249 70 [v0, v1, v2, v3, vI w, v5, v6] [vI x0, vI x1, vR 70] I = runs cal 249 72 [v0, v1, v2, v3, vI w, v5, v6] [vI w, vI x0, vI x1, vR 70] I := runs_to (ins_of mI_249 (by rfl)) rfl rfl
theorem r249_72 : runs cal 249 72 [v0, v1, v2, v3, v4, v5, v6] [vI x0, vI x1, vI x2, vR 70] I = runs cal 249 73 [v0, v1, v2, v3, v4, v5, v6] [vI (0), vI x0, vI x1, vI x2, vR 70] I := runs_to (ins_of mI_249 (by rfl)) rfl rfl
theorem r249_73 : runs cal 249 73 [v0, v1, v2, v3, v4, v5, v6] [vI x0, vI x1, vI x2, vI x3, vR 70] I = (cal 250 [vR 70, vI x3, vI x2, vI x1, vI x0] I).bind (fun q => runs cal 249 76 [v0, v1, v2, v3, v4, v5, v6] (pushR q.1 []) q.2) := st_call (st := false) (ins_of mI_249 (by rfl)) mC_249 mr_11_425 (by decide) mS_250 mN_250 rfl (Nat.le_of_ble_eq_true rfl) rfl rfl (Or.inr ⟨_, _, rfl, rcv mC_250 rfl wid_249 (by decide +kernel)⟩) (Or.inl (wid_249.trans wid_250.symm))
theorem r249_76 : runs cal 249 76 [vR 70, v1, v2, v3, v4, v5, v6] [] I = runs cal 249 77 [vR 70, v1, v2, v3, v4, v5, v6] [vR 70] I := runs_to (ins_of mI_249 (by rfl)) rfl rfl
theorem r249_77 : runs cal 249 77 [v0, v1, v2, v3, v4, v5, v6] [vR 70] I = (cal 192 [vR 70] I).bind (fun q => runs cal 249 80 [v0, v1, v2, v3, v4, v5, v6] (pushR q.1 []) q.2) := st_call (st := false) (ins_of mI_249 (by rfl)) mC_249 mr_11_236 (by decide) mS_192 mN_192 rfl (Nat.le_of_ble_eq_true rfl) rfl rfl (Or.inr ⟨_, _, rfl, rcv mC_192 rfl wid_249 (by decide +kernel)⟩) (Or.inl (wid_249.trans wid_192.symm))
theorem r249_80 : runs cal 249 80 [v0, v1, v2, v3, v4, vI u, v6] [vI x0] I = runs cal 249 82 [v0, v1, v2, v3, v4, vI u, vI x0] [] I := runs_to (ins_of mI_249 (by rfl)) rfl rfl
theorem r249_82 : runs cal 249 82 [v0, v1, v2, v3, v4, v5, vI w] [] I = runs cal 249 84 [v0, v1, v2, v3, v4, v5, vI w] [vI w] I := runs_to (ins_of mI_249 (by rfl)) rfl rfl
theorem r249_84 : runs cal 249 84 [v0, v1, v2, v3, v4, v5, v6] [vI x0] I = if x0 = 0 then runs cal 249 87 [v0, v1, v2, v3, v4, v5, v6] [] I else runs cal 249 91 [v0, v1, v2, v3, v4, v5, v6] [] I := st_if_ne (ins_of mI_249 (by rfl)) (by decide)
theorem r249_87 : runs cal 249 87 [vR 70, v1, v2, v3, v4, v5, v6] [] I = runs cal 249 88 [vR 70, v1, v2, v3, v4, v5, v6] [vR 70] I := runs_to (ins_of mI_249 (by rfl)) rfl rfl
theorem r249_88 : runs cal 249 88 [v0, v1, v2, v3, v4, v5, v6] [vR 70] I = (cal 191 [vR 70] I).bind (fun q => runs cal 249 91 [v0, v1, v2, v3, v4, v5, v6] (pushR q.1 []) q.2) := st_call (st := false) (ins_of mI_249 (by rfl)) mC_249 mr_11_225 (by decide) mS_191 mN_191 rfl (Nat.le_of_ble_eq_true rfl) rfl rfl (Or.inr ⟨_, _, rfl, rcv mC_191 rfl wid_249 (by decide +kernel)⟩) (Or.inl (wid_249.trans wid_191.symm))
theorem r249_91 : runs cal 249 91 [v0, v1, v2, vI w, v4, v5, v6] [] I = runs cal 249 92 [v0, v1, v2, vI w, v4, v5, v6] [vI w] I := runs_to (ins_of mI_249 (by rfl)) rfl rfl
theorem r249_92 : runs cal 249 92 [v0, v1, v2, v3, v4, v5, v6] [vI x0] I = if x0 = 0 then runs cal 249 95 [v0, v1, v2, v3, v4, v5, v6] [] I else runs cal 249 100 [v0, v1, v2, v3, v4, v5, v6] [] I := st_if_ne (ins_of mI_249 (by rfl)) (by decide)
theorem r249_95 : runs cal 249 95 [v0, v1, v2, v3, v4, v5, vI w] [] I = runs cal 249 97 [v0, v1, v2, v3, v4, v5, vI w] [vI w] I := runs_to (ins_of mI_249 (by rfl)) rfl rfl
theorem r249_97 : runs cal 249 97 [v0, v1, v2, v3, v4, v5, v6] [vI x0] I = if x0 = 0 then runs cal 249 100 [v0, v1, v2, v3, v4, v5, v6] [] I else runs cal 249 104 [v0, v1, v2, v3, v4, v5, v6] [] I := st_if_ne (ins_of mI_249 (by rfl)) (by decide)
theorem r249_100 : runs cal 249 100 [v0, v1, v2, v3, v4, v5, v6] [] I = runs cal 249 101 [v0, v1, v2, v3, v4, v5, v6] [vI (1)] I := runs_to (ins_of mI_249 (by rfl)) rfl rfl
theorem r249_101 : runs cal 249 101 [v0, v1, v2, v3, v4, v5, v6] [vI x0] I = runs cal 249 105 [v0, v1, v2, v3, v4, v5, v6] [vI x0] I := st_goto (ins_of mI_249 (by rfl)) (by decide)
theorem r249_104 : runs cal 249 104 [v0, v1, v2, v3, v4, v5, v6] [] I = runs cal 249 105 [v0, v1, v2, v3, v4, v5, v6] [vI (0)] I := runs_to (ins_of mI_249 (by rfl)) rfl rfl
theorem r249_105 : runs cal 249 105 [v0, v1, vI u, v3, v4, v5, v6] [vI x0] I = runs cal 249 106 [v0, v1, vI u, vI x0, v4, v5, v6] [] I := runs_to (ins_of mI_249 (by rfl)) rfl rfl
theorem r249_106 : runs cal 249 106 [v0, v1, v2, vI u, vI w, v5, v6] [] I = runs cal 249 109 [v0, v1, v2, vI u, vI (iadd w (1)), v5, v6] [] I := runs_to (ins_of mI_249 (by rfl)) rfl rfl
theorem r249_109 : runs cal 249 109 [v0, v1, v2, v3, v4, v5, v6] [] I = runs cal 249 5 [v0, v1, v2, v3, v4, v5, v6] [] I := st_goto (ins_of mI_249 (by rfl)) (by decide)
theorem r249_112 : runs cal 249 112 [v0, v1, v2, vI w, v4, v5, v6] [] I = runs cal 249 113 [v0, v1, v2, vI w, v4, v5, v6] [vI w] I := runs_to (ins_of mI_249 (by rfl)) rfl rfl
theorem r249_113 : runs cal 249 113 [v0, v1, v2, v3, v4, v5, v6] [vI x0] I = if x0 = 0 ∨ x0 = 1 then some (some (vI x0), I) else none := st_retZ (ins_of mI_249 (by rfl)) mR_249 (Or.inl rfl)
theorem r250_0 : runs cal 250 0 [vR 70, v1, v2, v3, v4] [] I = runs cal 250 1 [vR 70, v1, v2, v3, v4] [vR 70] I := runs_to (ins_of mI_250 (by rfl)) rfl rfl
theorem r250_1 : runs cal 250 1 [v0, vI w, v2, v3, v4] [vR 70] I = runs cal 250 2 [v0, vI w, v2, v3, v4] [vI w, vR 70] I := runs_to (ins_of mI_250 (by rfl)) rfl rfl
theorem r250_2 : runs cal 250 2 [v0, v1, v2, v3, v4] [vI x0, vR 70] I = runs cal 250 5 [v0, v1, v2, v3, v4] [] (mset I 70 9 x0) := st_putI (ins_of mI_250 (by rfl)) mC_250 fr_11_172 cT_70 (wdc wid_250 wd_70) rfl
theorem r250_5 : runs cal 250 5 [vR 70, v1, v2, v3, v4] [] I = runs cal 250 6 [vR 70, v1, v2, v3, v4] [vR 70] I := runs_to (ins_of mI_250 (by rfl)) rfl rfl
theorem r250_6 : runs cal 250 6 [v0, v1, vI w, v3, v4] [vR 70] I = runs cal 250 7 [v0, v1, vI w, v3, v4] [vI w, vR 70] I := runs_to (ins_of mI_250 (by rfl)) rfl rfl
theorem r250_7 : runs cal 250 7 [v0, v1, v2, v3, v4] [vI x0, vR 70] I = runs cal 250 10 [v0, v1, v2, v3, v4] [] (mset I 70 10 x0) := st_putI (ins_of mI_250 (by rfl)) mC_250 fr_11_166 cT_70 (wdc wid_250 wd_70) rfl
theorem r250_10 : runs cal 250 10 [vR 70, v1, v2, v3, v4] [] I = runs cal 250 11 [vR 70, v1, v2, v3, v4] [vR 70] I := runs_to (ins_of mI_250 (by rfl)) rfl rfl
theorem r250_11 : runs cal 250 11 [v0, v1, v2, vI w, v4] [vR 70] I = runs cal 250 12 [v0, v1, v2, vI w, v4] [vI w, vR 70] I := runs_to (ins_of mI_250 (by rfl)) rfl rfl
theorem r250_12 : runs cal 250 12 [v0, v1, v2, v3, v4] [vI x0, vR 70] I = runs cal 250 15 [v0, v1, v2, v3, v4] [] (mset I 70 11 x0) := st_putI (ins_of mI_250 (by rfl)) mC_250 fr_11_175 cT_70 (wdc wid_250 wd_70) rfl
theorem r250_15 : runs cal 250 15 [vR 70, v1, v2, v3, v4] [] I = runs cal 250 16 [vR 70, v1, v2, v3, v4] [vR 70] I := runs_to (ins_of mI_250 (by rfl)) rfl rfl
theorem r250_16 : runs cal 250 16 [v0, v1, v2, v3, vI w] [vR 70] I = runs cal 250 18 [v0, v1, v2, v3, vI w] [vI w, vR 70] I := runs_to (ins_of mI_250 (by rfl)) rfl rfl
theorem r250_18 : runs cal 250 18 [v0, v1, v2, v3, v4] [vI x0, vR 70] I = runs cal 250 21 [v0, v1, v2, v3, v4] [] (mset I 70 12 x0) := st_putI (ins_of mI_250 (by rfl)) mC_250 fr_11_178 cT_70 (wdc wid_250 wd_70) rfl
theorem r250_21 : runs cal 250 21 [v0, v1, v2, v3, v4] [] I = some (none, I) := st_ret (q := none) (k := 3) (ins_of mI_250 (by rfl)) rfl (by decide) mR_250 rfl trivial
theorem r251_0 : runs cal 251 0 [vR 70, v1, v2, v3, v4, v5, v6, v7] [] I = runs cal 251 1 [vR 70, v1, v2, v3, v4, v5, v6, v7] [vR 70] I := runs_to (ins_of mI_251 (by rfl)) rfl rfl
theorem r251_1 : runs cal 251 1 [v0, v1, v2, v3, v4, v5, v6, v7] [vR 70] I = runs cal 251 4 [v0, v1, v2, v3, v4, v5, v6, v7] [vR 77] I := st_getR (ins_of mI_251 (by rfl)) mC_251 (by decide) fr_11_30 cT_70 (wdc wid_251 wd_70) rfl rfl
theorem r251_4 : runs cal 251 4 [v0, vI w, v2, v3, v4, v5, v6, v7] [vR 77] I = runs cal 251 5 [v0, vI w, v2, v3, v4, v5, v6, v7] [vI w, vR 77] I := runs_to (ins_of mI_251 (by rfl)) rfl rfl
theorem r251_5 : runs cal 251 5 [v0, v1, v2, v3, v4, v5, v6, v7] [vI x0, vR 77] I = if 0 ≤ x0 ∧ x0 < 3 then runs cal 251 6 [v0, v1, v2, v3, v4, v5, v6, v7] [vI (I 77 x0)] I else none := st_iald (ins_of mI_251 (by rfl)) cT_77 (wdc wid_251 wd_77)
theorem r251_6 : runs cal 251 6 [v0, v1, vI w, v3, v4, v5, v6, v7] [vI x0] I = runs cal 251 7 [v0, v1, vI w, v3, v4, v5, v6, v7] [vI w, vI x0] I := runs_to (ins_of mI_251 (by rfl)) rfl rfl
theorem r251_7 : runs cal 251 7 [v0, v1, v2, v3, v4, v5, v6, v7] [vI x0, vI x1] I = (cal 179 [vI x0] I).bind (fun q => runs cal 251 10 [v0, v1, v2, v3, v4, v5, v6, v7] (pushR q.1 [vI x1]) q.2) := st_call (st := true) (ins_of mI_251 (by rfl)) mC_251 mr_11_196 (by decide) mS_179 mN_179 rfl (Nat.le_of_ble_eq_true rfl) rfl rfl (Or.inl rfl) (Or.inl (wid_251.trans wid_179.symm))
theorem r251_10 : runs cal 251 10 [v0, v1, v2, v3, v4, v5, v6, v7] [vI x0, vI x1] I = runs cal 251 11 [v0, v1, v2, v3, v4, v5, v6, v7] [vI (iadd x1 x0)] I := runs_to (ins_of mI_251 (by rfl)) rfl rfl
theorem r251_11 : runs cal 251 11 [v0, v1, v2, vI u, v4, v5, v6, v7] [vI x0] I = runs cal 251 13 [v0, v1, v2, vI u, vI x0, v5, v6, v7] [] I := runs_to (ins_of mI_251 (by rfl)) rfl rfl
theorem r251_13 : runs cal 251 13 [vR 70, v1, v2, v3, v4, v5, v6, v7] [] I = runs cal 251 14 [vR 70, v1, v2, v3, v4, v5, v6, v7] [vR 70] I := runs_to (ins_of mI_251 (by rfl)) rfl rfl
theorem r251_14 : runs cal 251 14 [v0, v1, v2, v3, v4, v5, v6, v7] [vR 70] I = runs cal 251 17 [v0, v1, v2, v3, v4, v5, v6, v7] [vR 77] I := st_getR (ins_of mI_251 (by rfl)) mC_251 (by decide) fr_11_30 cT_70 (wdc wid_251 wd_70) rfl rfl
theorem r251_17 : runs cal 251 17 [v0, vI w, v2, v3, v4, v5, v6, v7] [vR 77] I = runs cal 251 18 [v0, vI w, v2, v3, v4, v5, v6, v7] [vI w, vR 77] I := runs_to (ins_of mI_251 (by rfl)) rfl rfl
theorem r251_18 : runs cal 251 18 [v0, v1, v2, v3, v4, v5, v6, v7] [vI x0, vR 77] I = if 0 ≤ x0 ∧ x0 < 3 then runs cal 251 19 [v0, v1, v2, v3, v4, v5, v6, v7] [vI (I 77 x0)] I else none := st_iald (ins_of mI_251 (by rfl)) cT_77 (wdc wid_251 wd_77)
theorem r251_19 : runs cal 251 19 [vR 70, v1, v2, v3, v4, v5, v6, v7] [vI x0] I = runs cal 251 20 [vR 70, v1, v2, v3, v4, v5, v6, v7] [vR 70, vI x0] I := runs_to (ins_of mI_251 (by rfl)) rfl rfl
theorem r251_20 : runs cal 251 20 [v0, vI w, v2, v3, v4, v5, v6, v7] [vR 70, vI x1] I = runs cal 251 21 [v0, vI w, v2, v3, v4, v5, v6, v7] [vI w, vR 70, vI x1] I := runs_to (ins_of mI_251 (by rfl)) rfl rfl
theorem r251_21 : runs cal 251 21 [v0, v1, v2, v3, v4, v5, v6, v7] [vI x0, vR 70, vI x2] I = (cal 177 [vR 70, vI x0] I).bind (fun q => runs cal 251 24 [v0, v1, v2, v3, v4, v5, v6, v7] (pushR q.1 [vI x2]) q.2) := st_call (st := false) (ins_of mI_251 (by rfl)) mC_251 mr_11_163 (by decide) mS_177 mN_177 rfl (Nat.le_of_ble_eq_true rfl) rfl rfl (Or.inr ⟨_, _, rfl, rcv mC_177 rfl wid_251 (by decide +kernel)⟩) (Or.inl (wid_251.trans wid_177.symm))
theorem r251_24 : runs cal 251 24 [v0, v1, v2, v3, v4, v5, v6, v7] [vI x0, vI x1] I = if x1 = x0 then runs cal 251 31 [v0, v1, v2, v3, v4, v5, v6, v7] [] I else runs cal 251 27 [v0, v1, v2, v3, v4, v5, v6, v7] [] I := st_cmp_eq (ins_of mI_251 (by rfl)) (by decide)
theorem r251_27 : runs cal 251 27 [v0, v1, v2, v3, v4, v5, v6, v7] [] I = runs cal 251 28 [v0, v1, v2, v3, v4, v5, v6, v7] [vI (1)] I := runs_to (ins_of mI_251 (by rfl)) rfl rfl
theorem r251_28 : runs cal 251 28 [v0, v1, v2, v3, v4, v5, v6, v7] [vI x0] I = runs cal 251 32 [v0, v1, v2, v3, v4, v5, v6, v7] [vI x0] I := st_goto (ins_of mI_251 (by rfl)) (by decide)
theorem r251_31 : runs cal 251 31 [v0, v1, v2, v3, v4, v5, v6, v7] [] I = runs cal 251 32 [v0, v1, v2, v3, v4, v5, v6, v7] [vI (0)] I := runs_to (ins_of mI_251 (by rfl)) rfl rfl
theorem r251_32 : runs cal 251 32 [v0, v1, v2, v3, vI u, v5, v6, v7] [vI x0] I = runs cal 251 34 [v0, v1, v2, v3, vI u, vI x0, v6, v7] [] I := runs_to (ins_of mI_251 (by rfl)) rfl rfl
theorem r251_34 : runs cal 251 34 [v0, v1, v2, v3, v4, v5, v6, v7] [] I = runs cal 251 35 [v0, v1, v2, v3, v4, v5, v6, v7] [vI (0)] I := runs_to (ins_of mI_251 (by rfl)) rfl rfl
theorem r251_35 : runs cal 251 35 [v0, v1, v2, v3, v4, vI u, v6, v7] [vI x0] I = runs cal 251 37 [v0, v1, v2, v3, v4, vI u, vI x0, v7] [] I := runs_to (ins_of mI_251 (by rfl)) rfl rfl
theorem r251_37 : runs cal 251 37 [v0, v1, v2, v3, v4, v5, v6, v7] [] I = runs cal 251 38 [v0, v1, v2, v3, v4, v5, v6, v7] [vI (0)] I := runs_to (ins_of mI_251 (by rfl)) rfl rfl
theorem r251_38 : runs cal 251 38 [v0, v1, v2, v3, v4, v5, vI u, v7] [vI x0] I = runs cal 251 40 [v0, v1, v2, v3, v4, v5, vI u, vI x0] [] I := runs_to (ins_of mI_251 (by rfl)) rfl rfl
theorem r251_40 : runs cal 251 40 [v0, v1, v2, v3, v4, v5, v6, vI w] [] I = runs cal 251 42 [v0, v1, v2, v3, v4, v5, v6, vI w] [vI w] I := runs_to (ins_of mI_251 (by rfl)) rfl rfl
theorem r251_42 : runs cal 251 42 [vR 70, v1, v2, v3, v4, v5, v6, v7] [vI x0] I = runs cal 251 43 [vR 70, v1, v2, v3, v4, v5, v6, v7] [vR 70, vI x0] I := runs_to (ins_of mI_251 (by rfl)) rfl rfl
theorem r251_43 : runs cal 251 43 [v0, v1, v2, v3, v4, v5, v6, v7] [vR 70, vI x1] I = (cal 159 [vR 70] I).bind (fun q => runs cal 251 46 [v0, v1, v2, v3, v4, v5, v6, v7] (pushR q.1 [vI x1]) q.2) := st_call (st := false) (ins_of mI_251 (by rfl)) mC_251 mr_11_117 (by decide) mS_159 mN_159 rfl (Nat.le_of_ble_eq_true rfl) rfl rfl (Or.inr ⟨_, _, rfl, rcv mC_159 rfl wid_251 (by decide +kernel)⟩) (Or.inl (wid_251.trans wid_159.symm))
theorem r251_46 : runs cal 251 46 [v0, v1, v2, v3, v4, v5, v6, v7] [vI x0, vI x1] I = if x1 < x0 then runs cal 251 49 [v0, v1, v2, v3, v4, v5, v6, v7] [] I else runs cal 251 82 [v0, v1, v2, v3, v4, v5, v6, v7] [] I := st_cmp_ge (ins_of mI_251 (by rfl)) (by decide)
theorem r251_49 : runs cal 251 49 [v0, v1, v2, v3, v4, v5, vI w, v7] [] I = runs cal 251 51 [v0, v1, v2, v3, v4, v5, vI w, v7] [vI w] I := runs_to (ins_of mI_251 (by rfl)) rfl rfl
theorem r251_51 : runs cal 251 51 [v0, v1, v2, v3, v4, vI w, v6, v7] [vI x0] I = runs cal 251 53 [v0, v1, v2, v3, v4, vI w, v6, v7] [vI w, vI x0] I := runs_to (ins_of mI_251 (by rfl)) rfl rfl
theorem r251_53 : runs cal 251 53 [v0, v1, v2, v3, v4, v5, v6, v7] [vI x0, vI x1] I = if x0 = 0 then runs cal 251 72 [v0, v1, v2, v3, v4, v5, v6, v7] [vI x1] I else runs cal 251 56 [v0, v1, v2, v3, v4, v5, v6, v7] [vI x1] I := st_if_eq (ins_of mI_251 (by rfl)) (by decide)
theorem r251_56 : runs cal 251 56 [vR 70, v1, v2, v3, v4, v5, v6, v7] [vI x0] I = runs cal 251 57 [vR 70, v1, v2, v3, v4, v5, v6, v7] [vR 70, vI x0] I := runs_to (ins_of mI_251 (by rfl)) rfl rfl
theorem r251_57 : runs cal 251 57 [v0, v1, v2, v3, v4, v5, v6, v7] [vR 70, vI x1] I = runs cal 251 60 [v0, v1, v2, v3, v4, v5, v6, v7] [vR 77, vI x1] I := st_getR (ins_of mI_251 (by rfl)) mC_251 (by decide) fr_11_30 cT_70 (wdc wid_251 wd_70) rfl rfl
theorem r251_60 : runs cal 251 60 [v0, v1, v2, v3, v4, v5, v6, vI w] [vR 77, vI x1] I = runs cal 251 62 [v0, v1, v2, v3, v4, v5, v6, vI w] [vI w, vR 77, vI x1] I := runs_to (ins_of mI_251 (by rfl)) rfl rfl
theorem r251_62 : runs cal 251 62 [v0, v1, v2, v3, v4, v5, v6, v7] [vI x0, vR 77, vI x2] I = if 0 ≤ x0 ∧ x0 < 3 then runs cal 251 63 [v0, v1, v2, v3, v4, v5, v6, v7] [vI (I 77 x0), vI x2] I else none := st_iald (ins_of mI_251 (by rfl)) cT_77 (wdc wid_251 wd_77)
theorem r251_63 : runs cal 251 63 [v0, v1, v2, v3, vI w, v5, v6, v7] [vI x0, vI x1] I = runs cal 251 65 [v0, v1, v2, v3, vI w, v5, v6, v7] [vI w, vI x0, vI x1] I := runs_to (ins_of mI_251 (by rfl)) rfl rfl
theorem r251_65 : runs cal 251 65 [v0, v1, v2, v3, v4, v5, v6, v7] [vI x0, vI x1, vI x2] I = if x1 = x0 then runs cal 251 68 [v0, v1, v2, v3, v4, v5, v6, v7] [vI x2] I else runs cal 251 72 [v0, v1, v2, v3, v4, v5, v6, v7] [vI x2] I := st_cmp_ne (ins_of mI_251 (by rfl)) (by decide)
theorem r251_68 : runs cal 251 68 [v0, v1, v2, v3, v4, v5, v6, v7] [vI x0] I = runs cal 251 69 [v0, v1, v2, v3, v4, v5, v6, v7] [vI (1), vI x0] I := runs_to (ins_of mI_251 (by rfl)) rfl rfl
theorem r251_69 : runs cal 251 69 [v0, v1, v2, v3, v4, v5, v6, v7] [vI x0, vI x1] I = runs cal 251 73 [v0, v1, v2, v3, v4, v5, v6, v7] [vI x0, vI x1] I := st_goto (ins_of mI_251 (by rfl)) (by decide)
theorem r251_72 : runs cal 251 72 [v0, v1, v2, v3, v4, v5, v6, v7] [vI x0] I = runs cal 251 73 [v0, v1, v2, v3, v4, v5, v6, v7] [vI (0), vI x0] I := runs_to (ins_of mI_251 (by rfl)) rfl rfl
theorem r251_73 : runs cal 251 73 [v0, v1, v2, v3, v4, v5, v6, v7] [vI x0, vI x1] I = runs cal 251 74 [v0, v1, v2, v3, v4, v5, v6, v7] [vI (iadd x1 x0)] I := runs_to (ins_of mI_251 (by rfl)) rfl rfl
theorem r251_74 : runs cal 251 74 [v0, v1, v2, v3, v4, vI u, v6, v7] [vI x0] I = runs cal 251 76 [v0, v1, v2, v3, v4, vI u, vI x0, v7] [] I := runs_to (ins_of mI_251 (by rfl)) rfl rfl
theorem r251_76 : runs cal 251 76 [v0, v1, v2, v3, v4, v5, vI u, vI w] [] I = runs cal 251 79 [v0, v1, v2, v3, v4, v5, vI u, vI (iadd w (1))] [] I := runs_to (ins_of mI_251 (by rfl)) rfl rfl
theorem r251_79 : runs cal 251 79 [v0, v1, v2, v3, v4, v5, v6, v7] [] I = runs cal 251 40 [v0, v1, v2, v3, v4, v5, v6, v7] [] I := st_goto (ins_of mI_251 (by rfl)) (by decide)
theorem r251_82 : runs cal 251 82 [vR 70, v1, v2, v3, v4, v5, v6, v7] [] I = runs cal 251 83 [vR 70, v1, v2, v3, v4, v5, v6, v7] [vR 70] I := runs_to (ins_of mI_251 (by rfl)) rfl rfl
theorem r251_83 : runs cal 251 83 [v0, v1, v2, v3, v4, v5, v6, v7] [vR 70] I = runs cal 251 86 [v0, v1, v2, v3, v4, v5, v6, v7] [vR 88] I := st_getR (ins_of mI_251 (by rfl)) mC_251 (by decide) fr_11_64 cT_70 (wdc wid_251 wd_70) rfl rfl
theorem r251_86 : runs cal 251 86 [v0, v1, v2, v3, v4, v5, v6, v7] [vR 88] I = runs cal 251 87 [v0, v1, v2, v3, v4, v5, v6, v7] [vI (0), vR 88] I := runs_to (ins_of mI_251 (by rfl)) rfl rfl
theorem r251_87 : runs cal 251 87 [v0, v1, v2, v3, v4, vI w, v6, v7] [vI x0, vR 88] I = runs cal 251 89 [v0, v1, v2, v3, v4, vI w, v6, v7] [vI w, vI x0, vR 88] I := runs_to (ins_of mI_251 (by rfl)) rfl rfl
theorem r251_89 : runs cal 251 89 [v0, v1, v2, v3, v4, v5, v6, v7] [vI x0, vI x1, vR 88] I = if x0 = 0 then runs cal 251 105 [v0, v1, v2, v3, v4, v5, v6, v7] [vI x1, vR 88] I else runs cal 251 92 [v0, v1, v2, v3, v4, v5, v6, v7] [vI x1, vR 88] I := st_if_eq (ins_of mI_251 (by rfl)) (by decide)
theorem r251_92 : runs cal 251 92 [vR 70, v1, v2, v3, v4, v5, v6, v7] [vI x0, vR 88] I = runs cal 251 93 [vR 70, v1, v2, v3, v4, v5, v6, v7] [vR 70, vI x0, vR 88] I := runs_to (ins_of mI_251 (by rfl)) rfl rfl
theorem r251_93 : runs cal 251 93 [v0, v1, v2, v3, vI w, v5, v6, v7] [vR 70, vI x1, vR 88] I = runs cal 251 95 [v0, v1, v2, v3, vI w, v5, v6, v7] [vI w, vR 70, vI x1, vR 88] I := runs_to (ins_of mI_251 (by rfl)) rfl rfl
theorem r251_95 : runs cal 251 95 [v0, v1, v2, v3, v4, v5, v6, v7] [vI x0, vR 70, vI x2, vR 88] I = (cal 172 [vR 70, vI x0] I).bind (fun q => runs cal 251 98 [v0, v1, v2, v3, v4, v5, v6, v7] (pushR q.1 [vI x2, vR 88]) q.2) := st_call (st := false) (ins_of mI_251 (by rfl)) mC_251 mr_11_154 (by decide) mS_172 mN_172 rfl (Nat.le_of_ble_eq_true rfl) rfl rfl (Or.inr ⟨_, _, rfl, rcv mC_172 rfl wid_251 (by decide +kernel)⟩) (Or.inl (wid_251.trans wid_172.symm))
theorem r251_98 : runs cal 251 98 [v0, v1, v2, v3, v4, v5, v6, v7] [vI x0, vI x1, vR 88] I = if x0 = 0 then runs cal 251 105 [v0, v1, v2, v3, v4, v5, v6, v7] [vI x1, vR 88] I else runs cal 251 101 [v0, v1, v2, v3, v4, v5, v6, v7] [vI x1, vR 88] I := st_if_eq (ins_of mI_251 (by rfl)) (by decide)
theorem r251_101 : runs cal 251 101 [v0, v1, v2, v3, v4, v5, v6, v7] [vI x0, vR 88] I = runs cal 251 102 [v0, v1, v2, v3, v4, v5, v6, v7] [vL 1, vI x0, vR 88] I := runs_to (ins_of mI_251 (by rfl)) rfl rfl
theorem r251_102 : runs cal 251 102 [v0, v1, v2, v3, v4, v5, v6, v7] [vL x0, vI x1, vR 88] I = runs cal 251 106 [v0, v1, v2, v3, v4, v5, v6, v7] [vL x0, vI x1, vR 88] I := st_goto (ins_of mI_251 (by rfl)) (by decide)
theorem r251_105 : runs cal 251 105 [v0, v1, v2, v3, v4, v5, v6, v7] [vI x0, vR 88] I = runs cal 251 106 [v0, v1, v2, v3, v4, v5, v6, v7] [vL 0, vI x0, vR 88] I := runs_to (ins_of mI_251 (by rfl)) rfl rfl
theorem r251_106 : runs cal 251 106 [v0, v1, v2, v3, v4, v5, v6, v7] [vL x0, vI x1, vR 88] I = if 0 ≤ x1 ∧ x1 < 6 then runs cal 251 107 [v0, v1, v2, v3, v4, v5, v6, v7] [] (mset I 88 x1 x0) else none := st_last (ins_of mI_251 (by rfl)) cT_88 (wdc wid_251 wd_88)
theorem r251_107 : runs cal 251 107 [vR 70, v1, v2, v3, v4, v5, v6, v7] [] I = runs cal 251 108 [vR 70, v1, v2, v3, v4, v5, v6, v7] [vR 70] I := runs_to (ins_of mI_251 (by rfl)) rfl rfl
theorem r251_108 : runs cal 251 108 [v0, v1, v2, v3, v4, v5, v6, v7] [vR 70] I = runs cal 251 111 [v0, v1, v2, v3, v4, v5, v6, v7] [vR 88] I := st_getR (ins_of mI_251 (by rfl)) mC_251 (by decide) fr_11_64 cT_70 (wdc wid_251 wd_70) rfl rfl
theorem r251_111 : runs cal 251 111 [v0, v1, v2, v3, v4, v5, v6, v7] [vR 88] I = runs cal 251 112 [v0, v1, v2, v3, v4, v5, v6, v7] [vI (1), vR 88] I := runs_to (ins_of mI_251 (by rfl)) rfl rfl
theorem r251_112 : runs cal 251 112 [v0, v1, v2, v3, v4, v5, vI w, v7] [vI x0, vR 88] I = runs cal 251 114 [v0, v1, v2, v3, v4, v5, vI w, v7] [vI w, vI x0, vR 88] I := runs_to (ins_of mI_251 (by rfl)) rfl rfl
theorem r251_114 : runs cal 251 114 [v0, v1, v2, v3, v4, v5, v6, v7] [vI x0, vI x1, vR 88] I = runs cal 251 115 [v0, v1, v2, v3, v4, v5, v6, v7] [vL x0, vI x1, vR 88] I := runs_to (ins_of mI_251 (by rfl)) rfl rfl
theorem r251_115 : runs cal 251 115 [v0, v1, v2, v3, v4, v5, v6, v7] [vL x0, vI x1, vR 88] I = if 0 ≤ x1 ∧ x1 < 6 then runs cal 251 116 [v0, v1, v2, v3, v4, v5, v6, v7] [] (mset I 88 x1 x0) else none := st_last (ins_of mI_251 (by rfl)) cT_88 (wdc wid_251 wd_88)
theorem r251_116 : runs cal 251 116 [vR 70, v1, v2, v3, v4, v5, v6, v7] [] I = runs cal 251 117 [vR 70, v1, v2, v3, v4, v5, v6, v7] [vR 70] I := runs_to (ins_of mI_251 (by rfl)) rfl rfl
theorem r251_117 : runs cal 251 117 [v0, v1, v2, v3, v4, v5, v6, v7] [vR 70] I = runs cal 251 120 [v0, v1, v2, v3, v4, v5, v6, v7] [vR 88] I := st_getR (ins_of mI_251 (by rfl)) mC_251 (by decide) fr_11_64 cT_70 (wdc wid_251 wd_70) rfl rfl
theorem r251_120 : runs cal 251 120 [v0, v1, v2, v3, v4, v5, v6, v7] [vR 88] I = runs cal 251 121 [v0, v1, v2, v3, v4, v5, v6, v7] [vI (2), vR 88] I := runs_to (ins_of mI_251 (by rfl)) rfl rfl
theorem r251_121 : runs cal 251 121 [vR 70, v1, v2, v3, v4, v5, v6, v7] [vI x0, vR 88] I = runs cal 251 122 [vR 70, v1, v2, v3, v4, v5, v6, v7] [vR 70, vI x0, vR 88] I := runs_to (ins_of mI_251 (by rfl)) rfl rfl
theorem r251_122 : runs cal 251 122 [v0, vI w, v2, v3, v4, v5, v6, v7] [vR 70, vI x1, vR 88] I = runs cal 251 123 [v0, vI w, v2, v3, v4, v5, v6, v7] [vI w, vR 70, vI x1, vR 88] I := runs_to (ins_of mI_251 (by rfl)) rfl rfl
theorem r251_123 : runs cal 251 123 [v0, v1, v2, v3, v4, v5, v6, v7] [vI x0, vR 70, vI x2, vR 88] I = (cal 173 [vR 70, vI x0] I).bind (fun q => runs cal 251 126 [v0, v1, v2, v3, v4, v5, v6, v7] (pushR q.1 [vI x2, vR 88]) q.2) := st_call (st := false) (ins_of mI_251 (by rfl)) mC_251 mr_11_148 (by decide) mS_173 mN_173 rfl (Nat.le_of_ble_eq_true rfl) rfl rfl (Or.inr ⟨_, _, rfl, rcv mC_173 rfl wid_251 (by decide +kernel)⟩) (Or.inl (wid_251.trans wid_173.symm))
theorem r251_126 : runs cal 251 126 [v0, v1, v2, v3, v4, v5, v6, v7] [vI x0, vI x1, vR 88] I = runs cal 251 127 [v0, v1, v2, v3, v4, v5, v6, v7] [vI (-1), vI x0, vI x1, vR 88] I := runs_to (ins_of mI_251 (by rfl)) rfl rfl
theorem r251_127 : runs cal 251 127 [v0, v1, v2, v3, v4, v5, v6, v7] [vI x0, vI x1, vI x2, vR 88] I = if x1 = x0 then runs cal 251 130 [v0, v1, v2, v3, v4, v5, v6, v7] [vI x2, vR 88] I else runs cal 251 134 [v0, v1, v2, v3, v4, v5, v6, v7] [vI x2, vR 88] I := st_cmp_ne (ins_of mI_251 (by rfl)) (by decide)
theorem r251_130 : runs cal 251 130 [v0, v1, v2, v3, v4, v5, v6, v7] [vI x0, vR 88] I = runs cal 251 131 [v0, v1, v2, v3, v4, v5, v6, v7] [vL 0, vI x0, vR 88] I := runs_to (ins_of mI_251 (by rfl)) rfl rfl
theorem r251_131 : runs cal 251 131 [v0, v1, v2, v3, v4, v5, v6, v7] [vL x0, vI x1, vR 88] I = runs cal 251 135 [v0, v1, v2, v3, v4, v5, v6, v7] [vL x0, vI x1, vR 88] I := st_goto (ins_of mI_251 (by rfl)) (by decide)
theorem r251_134 : runs cal 251 134 [v0, v1, v2, v3, v4, v5, v6, v7] [vI x0, vR 88] I = runs cal 251 135 [v0, v1, v2, v3, v4, v5, v6, v7] [vL 1, vI x0, vR 88] I := runs_to (ins_of mI_251 (by rfl)) rfl rfl
theorem r251_135 : runs cal 251 135 [v0, v1, v2, v3, v4, v5, v6, v7] [vL x0, vI x1, vR 88] I = if 0 ≤ x1 ∧ x1 < 6 then runs cal 251 136 [v0, v1, v2, v3, v4, v5, v6, v7] [] (mset I 88 x1 x0) else none := st_last (ins_of mI_251 (by rfl)) cT_88 (wdc wid_251 wd_88)
theorem r251_136 : runs cal 251 136 [vR 70, v1, v2, v3, v4, v5, v6, v7] [] I = runs cal 251 137 [vR 70, v1, v2, v3, v4, v5, v6, v7] [vR 70] I := runs_to (ins_of mI_251 (by rfl)) rfl rfl
theorem r251_137 : runs cal 251 137 [v0, v1, v2, v3, v4, v5, v6, v7] [vR 70] I = runs cal 251 140 [v0, v1, v2, v3, v4, v5, v6, v7] [vR 88] I := st_getR (ins_of mI_251 (by rfl)) mC_251 (by decide) fr_11_64 cT_70 (wdc wid_251 wd_70) rfl rfl
theorem r251_140 : runs cal 251 140 [v0, v1, v2, v3, v4, v5, v6, v7] [vR 88] I = runs cal 251 141 [v0, v1, v2, v3, v4, v5, v6, v7] [vI (3), vR 88] I := runs_to (ins_of mI_251 (by rfl)) rfl rfl
theorem r251_141 : runs cal 251 141 [vR 70, v1, v2, v3, v4, v5, v6, v7] [vI x0, vR 88] I = runs cal 251 142 [vR 70, v1, v2, v3, v4, v5, v6, v7] [vR 70, vI x0, vR 88] I := runs_to (ins_of mI_251 (by rfl)) rfl rfl
theorem r251_142 : runs cal 251 142 [v0, vI w, v2, v3, v4, v5, v6, v7] [vR 70, vI x1, vR 88] I = runs cal 251 143 [v0, vI w, v2, v3, v4, v5, v6, v7] [vI w, vR 70, vI x1, vR 88] I := runs_to (ins_of mI_251 (by rfl)) rfl rfl
theorem r251_143 : runs cal 251 143 [v0, v1, vI w, v3, v4, v5, v6, v7] [vI x0, vR 70, vI x2, vR 88] I = runs cal 251 144 [v0, v1, vI w, v3, v4, v5, v6, v7] [vI w, vI x0, vR 70, vI x2, vR 88] I := runs_to (ins_of mI_251 (by rfl)) rfl rfl
theorem r251_144 : runs cal 251 144 [v0, v1, v2, v3, v4, v5, v6, v7] [vI x0, vI x1, vR 70, vI x3, vR 88] I = (cal 249 [vR 70, vI x1, vI x0] I).bind (fun q => runs cal 251 147 [v0, v1, v2, v3, v4, v5, v6, v7] (pushR q.1 [vI x3, vR 88]) q.2) := st_call (st := false) (ins_of mI_251 (by rfl)) mC_251 mr_11_429 (by decide) mS_249 mN_249 rfl (Nat.le_of_ble_eq_true rfl) rfl rfl (Or.inr ⟨_, _, rfl, rcv mC_249 rfl wid_251 (by decide +kernel)⟩) (Or.inl (wid_251.trans wid_249.symm))
theorem r251_147 : runs cal 251 147 [v0, v1, v2, v3, v4, v5, v6, v7] [vI x0, vI x1, vR 88] I = if x0 = 0 then runs cal 251 154 [v0, v1, v2, v3, v4, v5, v6, v7] [vI x1, vR 88] I else runs cal 251 150 [v0, v1, v2, v3, v4, v5, v6, v7] [vI x1, vR 88] I := st_if_eq (ins_of mI_251 (by rfl)) (by decide)
theorem r251_150 : runs cal 251 150 [v0, v1, v2, v3, v4, v5, v6, v7] [vI x0, vR 88] I = runs cal 251 151 [v0, v1, v2, v3, v4, v5, v6, v7] [vL 1, vI x0, vR 88] I := runs_to (ins_of mI_251 (by rfl)) rfl rfl
theorem r251_151 : runs cal 251 151 [v0, v1, v2, v3, v4, v5, v6, v7] [vL x0, vI x1, vR 88] I = runs cal 251 155 [v0, v1, v2, v3, v4, v5, v6, v7] [vL x0, vI x1, vR 88] I := st_goto (ins_of mI_251 (by rfl)) (by decide)
theorem r251_154 : runs cal 251 154 [v0, v1, v2, v3, v4, v5, v6, v7] [vI x0, vR 88] I = runs cal 251 155 [v0, v1, v2, v3, v4, v5, v6, v7] [vL 0, vI x0, vR 88] I := runs_to (ins_of mI_251 (by rfl)) rfl rfl
theorem r251_155 : runs cal 251 155 [v0, v1, v2, v3, v4, v5, v6, v7] [vL x0, vI x1, vR 88] I = if 0 ≤ x1 ∧ x1 < 6 then runs cal 251 156 [v0, v1, v2, v3, v4, v5, v6, v7] [] (mset I 88 x1 x0) else none := st_last (ins_of mI_251 (by rfl)) cT_88 (wdc wid_251 wd_88)
theorem r251_156 : runs cal 251 156 [vR 70, v1, v2, v3, v4, v5, v6, v7] [] I = runs cal 251 157 [vR 70, v1, v2, v3, v4, v5, v6, v7] [vR 70] I := runs_to (ins_of mI_251 (by rfl)) rfl rfl
theorem r251_157 : runs cal 251 157 [v0, v1, v2, v3, v4, v5, v6, v7] [vR 70] I = runs cal 251 160 [v0, v1, v2, v3, v4, v5, v6, v7] [vR 88] I := st_getR (ins_of mI_251 (by rfl)) mC_251 (by decide) fr_11_64 cT_70 (wdc wid_251 wd_70) rfl rfl
theorem r251_160 : runs cal 251 160 [v0, v1, v2, v3, v4, v5, v6, v7] [vR 88] I = runs cal 251 161 [v0, v1, v2, v3, v4, v5, v6, v7] [vI (4), vR 88] I := runs_to (ins_of mI_251 (by rfl)) rfl rfl
theorem r251_161 : runs cal 251 161 [v0, vI w, v2, v3, v4, v5, v6, v7] [vI x0, vR 88] I = runs cal 251 162 [v0, vI w, v2, v3, v4, v5, v6, v7] [vI w, vI x0, vR 88] I := runs_to (ins_of mI_251 (by rfl)) rfl rfl
theorem r251_162 : runs cal 251 162 [v0, v1, v2, v3, v4, v5, v6, v7] [vI x0, vI x1, vR 88] I = runs cal 251 163 [v0, v1, v2, v3, v4, v5, v6, v7] [vL x0, vI x1, vR 88] I := runs_to (ins_of mI_251 (by rfl)) rfl rfl
theorem r251_163 : runs cal 251 163 [v0, v1, v2, v3, v4, v5, v6, v7] [vL x0, vI x1, vR 88] I = if 0 ≤ x1 ∧ x1 < 6 then runs cal 251 164 [v0, v1, v2, v3, v4, v5, v6, v7] [] (mset I 88 x1 x0) else none := st_last (ins_of mI_251 (by rfl)) cT_88 (wdc wid_251 wd_88)
theorem r251_164 : runs cal 251 164 [vR 70, v1, v2, v3, v4, v5, v6, v7] [] I = runs cal 251 165 [vR 70, v1, v2, v3, v4, v5, v6, v7] [vR 70] I := runs_to (ins_of mI_251 (by rfl)) rfl rfl
theorem r251_165 : runs cal 251 165 [v0, v1, v2, v3, v4, v5, v6, v7] [vR 70] I = runs cal 251 168 [v0, v1, v2, v3, v4, v5, v6, v7] [vR 88] I := st_getR (ins_of mI_251 (by rfl)) mC_251 (by decide) fr_11_64 cT_70 (wdc wid_251 wd_70) rfl rfl
theorem r251_168 : runs cal 251 168 [v0, v1, v2, v3, v4, v5, v6, v7] [vR 88] I = runs cal 251 169 [v0, v1, v2, v3, v4, v5, v6, v7] [vI (5), vR 88] I := runs_to (ins_of mI_251 (by rfl)) rfl rfl
theorem r251_169 : runs cal 251 169 [v0, v1, v2, vI w, v4, v5, v6, v7] [vI x0, vR 88] I = runs cal 251 170 [v0, v1, v2, vI w, v4, v5, v6, v7] [vI w, vI x0, vR 88] I := runs_to (ins_of mI_251 (by rfl)) rfl rfl
theorem r251_170 : runs cal 251 170 [v0, v1, v2, v3, v4, v5, v6, v7] [vI x0, vI x1, vR 88] I = runs cal 251 171 [v0, v1, v2, v3, v4, v5, v6, v7] [vL x0, vI x1, vR 88] I := runs_to (ins_of mI_251 (by rfl)) rfl rfl
theorem r251_171 : runs cal 251 171 [v0, v1, v2, v3, v4, v5, v6, v7] [vL x0, vI x1, vR 88] I = if 0 ≤ x1 ∧ x1 < 6 then runs cal 251 172 [v0, v1, v2, v3, v4, v5, v6, v7] [] (mset I 88 x1 x0) else none := st_last (ins_of mI_251 (by rfl)) cT_88 (wdc wid_251 wd_88)
theorem r251_172 : runs cal 251 172 [v0, v1, v2, v3, v4, v5, v6, v7] [] I = some (none, I) := st_ret (q := none) (k := 3) (ins_of mI_251 (by rfl)) rfl (by decide) mR_251 rfl trivial
theorem r252_0 : runs cal 252 0 [vR 70, v1, v2, v3, v4, v5, v6, v7] [] I = runs cal 252 1 [vR 70, v1, v2, v3, v4, v5, v6, v7] [vR 70] I := runs_to (ins_of mI_252 (by rfl)) rfl rfl
theorem r252_1 : runs cal 252 1 [v0, v1, v2, v3, v4, v5, v6, v7] [vR 70] I = runs cal 252 4 [v0, v1, v2, v3, v4, v5, v6, v7] [vR 77] I := st_getR (ins_of mI_252 (by rfl)) mC_252 (by decide) fr_11_30 cT_70 (wdc wid_252 wd_70) rfl rfl
theorem r252_4 : runs cal 252 4 [v0, vI w, v2, v3, v4, v5, v6, v7] [vR 77] I = runs cal 252 5 [v0, vI w, v2, v3, v4, v5, v6, v7] [vI w, vR 77] I := runs_to (ins_of mI_252 (by rfl)) rfl rfl
theorem r252_5 : runs cal 252 5 [v0, v1, v2, v3, v4, v5, v6, v7] [vI x0, vR 77] I = if 0 ≤ x0 ∧ x0 < 3 then runs cal 252 6 [v0, v1, v2, v3, v4, v5, v6, v7] [vI (I 77 x0)] I else none := st_iald (ins_of mI_252 (by rfl)) cT_77 (wdc wid_252 wd_77)
theorem r252_6 : runs cal 252 6 [vR 70, v1, v2, v3, v4, v5, v6, v7] [vI x0] I = runs cal 252 7 [vR 70, v1, v2, v3, v4, v5, v6, v7] [vR 70, vI x0] I := runs_to (ins_of mI_252 (by rfl)) rfl rfl
theorem r252_7 : runs cal 252 7 [v0, vI w, v2, v3, v4, v5, v6, v7] [vR 70, vI x1] I = runs cal 252 8 [v0, vI w, v2, v3, v4, v5, v6, v7] [vI w, vR 70, vI x1] I := runs_to (ins_of mI_252 (by rfl)) rfl rfl
theorem r252_8 : runs cal 252 8 [v0, v1, v2, v3, v4, v5, v6, v7] [vI x0, vR 70, vI x2] I = (cal 177 [vR 70, vI x0] I).bind (fun q => runs cal 252 11 [v0, v1, v2, v3, v4, v5, v6, v7] (pushR q.1 [vI x2]) q.2) := st_call (st := false) (ins_of mI_252 (by rfl)) mC_252 mr_11_163 (by decide) mS_177 mN_177 rfl (Nat.le_of_ble_eq_true rfl) rfl rfl (Or.inr ⟨_, _, rfl, rcv mC_177 rfl wid_252 (by decide +kernel)⟩) (Or.inl (wid_252.trans wid_177.symm))
theorem r252_11 : runs cal 252 11 [v0, v1, v2, v3, v4, v5, v6, v7] [vI x0, vI x1] I = if x1 = x0 then runs cal 252 14 [v0, v1, v2, v3, v4, v5, v6, v7] [] I else runs cal 252 16 [v0, v1, v2, v3, v4, v5, v6, v7] [] I := st_cmp_ne (ins_of mI_252 (by rfl)) (by decide)
theorem r252_14 : runs cal 252 14 [v0, v1, v2, v3, v4, v5, v6, v7] [] I = runs cal 252 15 [v0, v1, v2, v3, v4, v5, v6, v7] [vI (0)] I := runs_to (ins_of mI_252 (by rfl)) rfl rfl
theorem r252_15 : runs cal 252 15 [v0, v1, v2, v3, v4, v5, v6, v7] [vI x0] I = if x0 = 0 ∨ x0 = 1 then some (some (vI x0), I) else none := st_retZ (ins_of mI_252 (by rfl)) mR_252 (Or.inl rfl)
theorem r252_16 : runs cal 252 16 [vR 70, v1, v2, v3, v4, v5, v6, v7] [] I = runs cal 252 17 [vR 70, v1, v2, v3, v4, v5, v6, v7] [vR 70] I := runs_to (ins_of mI_252 (by rfl)) rfl rfl
theorem r252_17 : runs cal 252 17 [v0, vI w, v2, v3, v4, v5, v6, v7] [vR 70] I = runs cal 252 18 [v0, vI w, v2, v3, v4, v5, v6, v7] [vI w, vR 70] I := runs_to (ins_of mI_252 (by rfl)) rfl rfl
theorem r252_18 : runs cal 252 18 [v0, v1, v2, v3, v4, v5, v6, v7] [vI x0, vR 70] I = (cal 177 [vR 70, vI x0] I).bind (fun q => runs cal 252 21 [v0, v1, v2, v3, v4, v5, v6, v7] (pushR q.1 []) q.2) := st_call (st := false) (ins_of mI_252 (by rfl)) mC_252 mr_11_163 (by decide) mS_177 mN_177 rfl (Nat.le_of_ble_eq_true rfl) rfl rfl (Or.inr ⟨_, _, rfl, rcv mC_177 rfl wid_252 (by decide +kernel)⟩) (Or.inl (wid_252.trans wid_177.symm))
theorem r252_21 : runs cal 252 21 [vR 70, v1, v2, v3, v4, v5, v6, v7] [vI x0] I = runs cal 252 22 [vR 70, v1, v2, v3, v4, v5, v6, v7] [vR 70, vI x0] I := runs_to (ins_of mI_252 (by rfl)) rfl rfl
theorem r252_22 : runs cal 252 22 [v0, v1, v2, v3, v4, v5, v6, v7] [vR 70, vI x1] I = runs cal 252 25 [v0, v1, v2, v3, v4, v5, v6, v7] [vR 77, vI x1] I := st_getR (ins_of mI_252 (by rfl)) mC_252 (by decide) fr_11_30 cT_70 (wdc wid_252 wd_70) rfl rfl
theorem r252_25 : runs cal 252 25 [v0, vI w, v2, v3, v4, v5, v6, v7] [vR 77, vI x1] I = runs cal 252 26 [v0, vI w, v2, v3, v4, v5, v6, v7] [vI w, vR 77, vI x1] I := runs_to (ins_of mI_252 (by rfl)) rfl rfl
theorem r252_26 : runs cal 252 26 [v0, v1, v2, v3, v4, v5, v6, v7] [vI x0, vR 77, vI x2] I = if 0 ≤ x0 ∧ x0 < 3 then runs cal 252 27 [v0, v1, v2, v3, v4, v5, v6, v7] [vI (I 77 x0), vI x2] I else none := st_iald (ins_of mI_252 (by rfl)) cT_77 (wdc wid_252 wd_77)
theorem r252_27 : runs cal 252 27 [v0, v1, v2, v3, v4, v5, v6, v7] [vI x0, vI x1] I = if x0 < x1 then runs cal 252 30 [v0, v1, v2, v3, v4, v5, v6, v7] [] I else runs cal 252 34 [v0, v1, v2, v3, v4, v5, v6, v7] [] I := st_cmp_le (ins_of mI_252 (by rfl)) (by decide)
theorem r252_30 : runs cal 252 30 [v0, v1, v2, v3, v4, v5, v6, v7] [] I = runs cal 252 31 [v0, v1, v2, v3, v4, v5, v6, v7] [vI (1)] I := runs_to (ins_of mI_252 (by rfl)) rfl rfl
theorem r252_31 : runs cal 252 31 [v0, v1, v2, v3, v4, v5, v6, v7] [vI x0] I = runs cal 252 35 [v0, v1, v2, v3, v4, v5, v6, v7] [vI x0] I := st_goto (ins_of mI_252 (by rfl)) (by decide)
theorem r252_34 : runs cal 252 34 [v0, v1, v2, v3, v4, v5, v6, v7] [] I = runs cal 252 35 [v0, v1, v2, v3, v4, v5, v6, v7] [vI (0)] I := runs_to (ins_of mI_252 (by rfl)) rfl rfl
theorem r252_35 : runs cal 252 35 [v0, v1, vI u, v3, v4, v5, v6, v7] [vI x0] I = runs cal 252 36 [v0, v1, vI u, vI x0, v4, v5, v6, v7] [] I := runs_to (ins_of mI_252 (by rfl)) rfl rfl
theorem r252_36 : runs cal 252 36 [vR 70, v1, v2, v3, v4, v5, v6, v7] [] I = runs cal 252 37 [vR 70, v1, v2, v3, v4, v5, v6, v7] [vR 70] I := runs_to (ins_of mI_252 (by rfl)) rfl rfl
theorem r252_37 : runs cal 252 37 [v0, vI w, v2, v3, v4, v5, v6, v7] [vR 70] I = runs cal 252 38 [v0, vI w, v2, v3, v4, v5, v6, v7] [vI w, vR 70] I := runs_to (ins_of mI_252 (by rfl)) rfl rfl
theorem r252_38 : runs cal 252 38 [v0, v1, v2, vI w, v4, v5, v6, v7] [vI x0, vR 70] I = runs cal 252 39 [v0, v1, v2, vI w, v4, v5, v6, v7] [vI w, vI x0, vR 70] I := runs_to (ins_of mI_252 (by rfl)) rfl rfl
theorem r252_39 : runs cal 252 39 [v0, v1, vI w, v3, v4, v5, v6, v7] [vI x0, vI x1, vR 70] I = runs cal 252 40 [v0, v1, vI w, v3, v4, v5, v6, v7] [vI w, vI x0, vI x1, vR 70] I := runs_to (ins_of mI_252 (by rfl)) rfl rfl
theorem r252_40 : runs cal 252 40 [v0, v1, v2, v3, v4, v5, v6, v7] [vI x0, vI x1, vI x2, vR 70] I = (cal 251 [vR 70, vI x2, vI x1, vI x0] I).bind (fun q => runs cal 252 43 [v0, v1, v2, v3, v4, v5, v6, v7] (pushR q.1 []) q.2) := st_call (st := false) (ins_of mI_252 (by rfl)) mC_252 mr_11_432 (by decide) mS_251 mN_251 rfl (Nat.le_of_ble_eq_true rfl) rfl rfl (Or.inr ⟨_, _, rfl, rcv mC_251 rfl wid_252 (by decide +kernel)⟩) (Or.inl (wid_252.trans wid_251.symm))
theorem r252_43 : runs cal 252 43 [vR 70, v1, v2, v3, v4, v5, v6, v7] [] I = runs cal 252 44 [vR 70, v1, v2, v3, v4, v5, v6, v7] [vR 70] I := runs_to (ins_of mI_252 (by rfl)) rfl rfl
theorem r252_44 : runs cal 252 44 [v0, v1, v2, v3, v4, v5, v6, v7] [vR 70] I = (cal 246 [vR 70] I).bind (fun q => runs cal 252 47 [v0, v1, v2, v3, v4, v5, v6, v7] (pushR q.1 []) q.2) := st_call (st := false) (ins_of mI_252 (by rfl)) mC_252 mr_11_422 (by decide) mS_246 mN_246 rfl (Nat.le_of_ble_eq_true rfl) rfl rfl (Or.inr ⟨_, _, rfl, rcv mC_246 rfl wid_252 (by decide +kernel)⟩) (Or.inl (wid_252.trans wid_246.symm))
theorem r252_47 : runs cal 252 47 [v0, v1, v2, v3, v4, v5, v6, v7] [vI x0] I = if x0 = 0 then runs cal 252 61 [v0, v1, v2, v3, v4, v5, v6, v7] [] I else runs cal 252 50 [v0, v1, v2, v3, v4, v5, v6, v7] [] I := st_if_eq (ins_of mI_252 (by rfl)) (by decide)
theorem r252_50 : runs cal 252 50 [vR 70, v1, v2, v3, v4, v5, v6, v7] [] I = runs cal 252 51 [vR 70, v1, v2, v3, v4, v5, v6, v7] [vR 70] I := runs_to (ins_of mI_252 (by rfl)) rfl rfl
theorem r252_51 : runs cal 252 51 [v0, v1, v2, v3, v4, v5, v6, v7] [vR 70] I = runs cal 252 54 [v0, v1, v2, v3, v4, v5, v6, v7] [vL (I 70 36)] I := st_getL (ins_of mI_252 (by rfl)) mC_252 (by decide) fr_11_418 cT_70 (wdc wid_252 wd_70) rfl
theorem r252_54 : runs cal 252 54 [v0, v1, v2, v3, v4, v5, v6, v7] [vL x0] I = runs cal 252 57 [v0, v1, v2, v3, v4, v5, v6, v7] [vL (4), vL x0] I := runs_to (ins_of mI_252 (by rfl)) rfl (by simp only [stepI, ldk2, mC_252]; rfl)
theorem r252_57 : runs cal 252 57 [v0, v1, v2, v3, v4, v5, v6, v7] [vL x0, vL x1] I = if x0 = 0 then none else runs cal 252 58 [v0, v1, v2, v3, v4, v5, v6, v7] [vL (lrem x1 x0)] I := st_nzL (ins_of mI_252 (by rfl)) rfl rfl
theorem r252_58 : runs cal 252 58 [v0, v1, v2, v3, v4, v5, v6, v7] [vL x0] I = runs cal 252 62 [v0, v1, v2, v3, v4, v5, v6, v7] [vL x0] I := st_goto (ins_of mI_252 (by rfl)) (by decide)
theorem r252_61 : runs cal 252 61 [v0, v1, v2, v3, v4, v5, v6, v7] [] I = runs cal 252 62 [v0, v1, v2, v3, v4, v5, v6, v7] [vL 0] I := runs_to (ins_of mI_252 (by rfl)) rfl rfl
theorem r252_62 : runs cal 252 62 [v0, v1, v2, vI u, v4, v5, v6, v7] [vL x0] I = runs cal 252 64 [v0, v1, v2, vI u, vL x0, vR 0, v6, v7] [] I := runs_to (ins_of mI_252 (by rfl)) rfl rfl
theorem r252_64 : runs cal 252 64 [v0, v1, v2, v3, vL w, v5, v6, v7] [] I = runs cal 252 66 [v0, v1, v2, v3, vL w, v5, v6, v7] [vL w] I := runs_to (ins_of mI_252 (by rfl)) rfl rfl
theorem r252_66 : runs cal 252 66 [v0, v1, v2, v3, v4, v5, v6, v7] [vL x0] I = runs cal 252 67 [v0, v1, v2, v3, v4, v5, v6, v7] [vL 0, vL x0] I := runs_to (ins_of mI_252 (by rfl)) rfl rfl
theorem r252_67 : runs cal 252 67 [v0, v1, v2, v3, v4, v5, v6, v7] [vL x0, vL x1] I = if x1 < x0 then runs cal 252 71 [v0, v1, v2, v3, v4, v5, v6, v7] [] I else runs cal 252 80 [v0, v1, v2, v3, v4, v5, v6, v7] [] I := st_lc_ge (ins_of mI_252 (by rfl)) (ins_of mI_252 (by rfl)) (by decide)
theorem r252_68 : runs cal 252 68 [v0, v1, v2, v3, v4, v5, v6, v7] [vI x0] I = if x0 < 0 then runs cal 252 71 [v0, v1, v2, v3, v4, v5, v6, v7] [] I else runs cal 252 80 [v0, v1, v2, v3, v4, v5, v6, v7] [] I := st_if_ge (ins_of mI_252 (by rfl)) (by decide)
theorem r252_71 : runs cal 252 71 [v0, v1, v2, v3, vL w, v5, v6, v7] [] I = runs cal 252 73 [v0, v1, v2, v3, vL w, v5, v6, v7] [vL w] I := runs_to (ins_of mI_252 (by rfl)) rfl rfl
theorem r252_73 : runs cal 252 73 [v0, v1, v2, v3, v4, v5, v6, v7] [vL x0] I = runs cal 252 76 [v0, v1, v2, v3, v4, v5, v6, v7] [vL (4), vL x0] I := runs_to (ins_of mI_252 (by rfl)) rfl (by simp only [stepI, ldk2, mC_252]; rfl)
theorem r252_76 : runs cal 252 76 [v0, v1, v2, v3, v4, v5, v6, v7] [vL x0, vL x1] I = runs cal 252 77 [v0, v1, v2, v3, v4, v5, v6, v7] [vL (ladd x1 x0)] I := runs_to (ins_of mI_252 (by rfl)) rfl rfl
theorem r252_77 : runs cal 252 77 [v0, v1, v2, v3, v4, v5, v6, v7] [vL x0] I = runs cal 252 82 [v0, v1, v2, v3, v4, v5, v6, v7] [vL x0] I := st_goto (ins_of mI_252 (by rfl)) (by decide)
theorem r252_80 : runs cal 252 80 [v0, v1, v2, v3, vL w, v5, v6, v7] [] I = runs cal 252 82 [v0, v1, v2, v3, vL w, v5, v6, v7] [vL w] I := runs_to (ins_of mI_252 (by rfl)) rfl rfl
theorem r252_82 : runs cal 252 82 [v0, v1, v2, v3, v4, v5, v6, v7] [vL x0] I = runs cal 252 83 [v0, v1, v2, v3, v4, v5, v6, v7] [vI (l2i x0)] I := runs_to (ins_of mI_252 (by rfl)) rfl rfl
theorem r252_83 : runs cal 252 83 [v0, v1, v2, v3, v4, v5, v6, v7] [vI x0] I = runs cal 252 85 [v0, v1, v2, v3, v4, kill v5, vI x0, v7] [] I := runs_to (ins_of mI_252 (by rfl)) rfl rfl
theorem r252_85 : runs cal 252 85 [v0, v1, v2, v3, v4, v5, vI w, v7] [] I = runs cal 252 87 [v0, v1, v2, v3, v4, v5, vI w, v7] [vI w] I := runs_to (ins_of mI_252 (by rfl)) rfl rfl
theorem r252_87 : runs cal 252 87 [v0, v1, v2, v3, v4, v5, v6, v7] [vI x0] I = runs cal 252 88 [v0, v1, v2, v3, v4, v5, v6, v7] [vI (1), vI x0] I := runs_to (ins_of mI_252 (by rfl)) rfl rfl
theorem r252_88 : runs cal 252 88 [v0, v1, v2, v3, v4, v5, v6, v7] [vI x0, vI x1] I = if x1 = x0 then runs cal 252 91 [v0, v1, v2, v3, v4, v5, v6, v7] [] I else runs cal 252 120 [v0, v1, v2, v3, v4, v5, v6, v7] [] I := st_cmp_ne (ins_of mI_252 (by rfl)) (by decide)
theorem r252_91 : runs cal 252 91 [vR 70, v1, v2, v3, v4, v5, v6, v7] [] I = runs cal 252 92 [vR 70, v1, v2, v3, v4, v5, v6, v7] [vR 70] I := runs_to (ins_of mI_252 (by rfl)) rfl rfl
theorem r252_92 : runs cal 252 92 [v0, v1, v2, v3, v4, v5, v6, v7] [vR 70] I = runs cal 252 93 [v0, v1, v2, v3, v4, v5, v6, v7] [vI (0), vR 70] I := runs_to (ins_of mI_252 (by rfl)) rfl rfl
theorem r252_93 : runs cal 252 93 [v0, vI w, v2, v3, v4, v5, v6, v7] [vI x0, vR 70] I = runs cal 252 94 [v0, vI w, v2, v3, v4, v5, v6, v7] [vI w, vI x0, vR 70] I := runs_to (ins_of mI_252 (by rfl)) rfl rfl
theorem r252_94 : runs cal 252 94 [v0, v1, v2, vI w, v4, v5, v6, v7] [vI x0, vI x1, vR 70] I = runs cal 252 95 [v0, v1, v2, vI w, v4, v5, v6, v7] [vI w, vI x0, vI x1, vR 70] I := runs_to (ins_of mI_252 (by rfl)) rfl rfl
theorem r252_95 : runs cal 252 95 [v0, v1, v2, v3, v4, v5, v6, v7] [vI x0, vI x1, vI x2, vR 70] I = runs cal 252 96 [v0, v1, v2, v3, v4, v5, v6, v7] [vI (0), vI x0, vI x1, vI x2, vR 70] I := runs_to (ins_of mI_252 (by rfl)) rfl rfl
theorem r252_96 : runs cal 252 96 [v0, v1, v2, v3, v4, v5, v6, v7] [vI x0, vI x1, vI x2, vI x3, vR 70] I = (cal 250 [vR 70, vI x3, vI x2, vI x1, vI x0] I).bind (fun q => runs cal 252 99 [v0, v1, v2, v3, v4, v5, v6, v7] (pushR q.1 []) q.2) := st_call (st := false) (ins_of mI_252 (by rfl)) mC_252 mr_11_425 (by decide) mS_250 mN_250 rfl (Nat.le_of_ble_eq_true rfl) rfl rfl (Or.inr ⟨_, _, rfl, rcv mC_250 rfl wid_252 (by decide +kernel)⟩) (Or.inl (wid_252.trans wid_250.symm))
theorem r252_99 : runs cal 252 99 [vR 70, v1, v2, v3, v4, v5, v6, v7] [] I = runs cal 252 100 [vR 70, v1, v2, v3, v4, v5, v6, v7] [vR 70] I := runs_to (ins_of mI_252 (by rfl)) rfl rfl
theorem r252_100 : runs cal 252 100 [v0, v1, v2, v3, v4, v5, v6, v7] [vR 70] I = (cal 187 [vR 70] I).bind (fun q => runs cal 252 103 [v0, v1, v2, v3, v4, v5, v6, v7] (pushR q.1 []) q.2) := st_call (st := false) (ins_of mI_252 (by rfl)) mC_252 mr_11_213 (by decide) mS_187 mN_187 rfl (Nat.le_of_ble_eq_true rfl) rfl rfl (Or.inr ⟨_, _, rfl, rcv mC_187 rfl wid_252 (by decide +kernel)⟩) (Or.inl (wid_252.trans wid_187.symm))
theorem r252_103 : runs cal 252 103 [v0, v1, v2, v3, v4, v5, v6, v7] [vI x0] I = if x0 = 0 then runs cal 252 114 [v0, v1, v2, v3, v4, v5, v6, v7] [] I else runs cal 252 106 [v0, v1, v2, v3, v4, v5, v6, v7] [] I := st_if_eq (ins_of mI_252 (by rfl)) (by decide)
theorem r252_106 : runs cal 252 106 [vR 70, v1, v2, v3, v4, v5, v6, v7] [] I = runs cal 252 107 [vR 70, v1, v2, v3, v4, v5, v6, v7] [vR 70] I := runs_to (ins_of mI_252 (by rfl)) rfl rfl
theorem r252_107 : runs cal 252 107 [v0, v1, v2, v3, v4, v5, v6, v7] [vR 70] I = (cal 192 [vR 70] I).bind (fun q => runs cal 252 110 [v0, v1, v2, v3, v4, v5, v6, v7] (pushR q.1 []) q.2) := st_call (st := false) (ins_of mI_252 (by rfl)) mC_252 mr_11_236 (by decide) mS_192 mN_192 rfl (Nat.le_of_ble_eq_true rfl) rfl rfl (Or.inr ⟨_, _, rfl, rcv mC_192 rfl wid_252 (by decide +kernel)⟩) (Or.inl (wid_252.trans wid_192.symm))
theorem r252_110 : runs cal 252 110 [v0, v1, v2, v3, v4, v5, v6, v7] [vI x0] I = runs cal 252 111 [v0, v1, v2, v3, v4, v5, v6, v7] [vI (3), vI x0] I := runs_to (ins_of mI_252 (by rfl)) rfl rfl
theorem r252_111 : runs cal 252 111 [v0, v1, v2, v3, v4, v5, v6, v7] [vI x0, vI x1] I = if x1 = x0 then runs cal 252 114 [v0, v1, v2, v3, v4, v5, v6, v7] [] I else runs cal 252 118 [v0, v1, v2, v3, v4, v5, v6, v7] [] I := st_cmp_ne (ins_of mI_252 (by rfl)) (by decide)
theorem r252_114 : runs cal 252 114 [v0, v1, v2, v3, v4, v5, v6, v7] [] I = runs cal 252 115 [v0, v1, v2, v3, v4, v5, v6, v7] [vI (1)] I := runs_to (ins_of mI_252 (by rfl)) rfl rfl
theorem r252_115 : runs cal 252 115 [v0, v1, v2, v3, v4, v5, v6, v7] [vI x0] I = runs cal 252 119 [v0, v1, v2, v3, v4, v5, v6, v7] [vI x0] I := st_goto (ins_of mI_252 (by rfl)) (by decide)
theorem r252_118 : runs cal 252 118 [v0, v1, v2, v3, v4, v5, v6, v7] [] I = runs cal 252 119 [v0, v1, v2, v3, v4, v5, v6, v7] [vI (0)] I := runs_to (ins_of mI_252 (by rfl)) rfl rfl
theorem r252_119 : runs cal 252 119 [v0, v1, v2, v3, v4, v5, v6, v7] [vI x0] I = if x0 = 0 ∨ x0 = 1 then some (some (vI x0), I) else none := st_retZ (ins_of mI_252 (by rfl)) mR_252 (Or.inl rfl)
theorem r252_120 : runs cal 252 120 [v0, v1, v2, v3, v4, v5, vI w, v7] [] I = runs cal 252 122 [v0, v1, v2, v3, v4, v5, vI w, v7] [vI w] I := runs_to (ins_of mI_252 (by rfl)) rfl rfl
theorem r252_122 : runs cal 252 122 [v0, v1, v2, v3, v4, v5, v6, v7] [vI x0] I = runs cal 252 123 [v0, v1, v2, v3, v4, v5, v6, v7] [vI (2), vI x0] I := runs_to (ins_of mI_252 (by rfl)) rfl rfl
theorem r252_123 : runs cal 252 123 [v0, v1, v2, v3, v4, v5, v6, v7] [vI x0, vI x1] I = if x1 = x0 then runs cal 252 126 [v0, v1, v2, v3, v4, v5, v6, v7] [] I else runs cal 252 134 [v0, v1, v2, v3, v4, v5, v6, v7] [] I := st_cmp_ne (ins_of mI_252 (by rfl)) (by decide)
theorem r252_126 : runs cal 252 126 [vR 70, v1, v2, v3, v4, v5, v6, v7] [] I = runs cal 252 127 [vR 70, v1, v2, v3, v4, v5, v6, v7] [vR 70] I := runs_to (ins_of mI_252 (by rfl)) rfl rfl
theorem r252_127 : runs cal 252 127 [v0, vI w, v2, v3, v4, v5, v6, v7] [vR 70] I = runs cal 252 128 [v0, vI w, v2, v3, v4, v5, v6, v7] [vI w, vR 70] I := runs_to (ins_of mI_252 (by rfl)) rfl rfl
theorem r252_128 : runs cal 252 128 [v0, v1, v2, v3, v4, v5, v6, v7] [vI x0, vR 70] I = (cal 173 [vR 70, vI x0] I).bind (fun q => runs cal 252 131 [v0, v1, v2, v3, v4, v5, v6, v7] (pushR q.1 []) q.2) := st_call (st := false) (ins_of mI_252 (by rfl)) mC_252 mr_11_148 (by decide) mS_173 mN_173 rfl (Nat.le_of_ble_eq_true rfl) rfl rfl (Or.inr ⟨_, _, rfl, rcv mC_173 rfl wid_252 (by decide +kernel)⟩) (Or.inl (wid_252.trans wid_173.symm))
theorem r252_131 : runs cal 252 131 [v0, v1, v2, v3, v4, v5, v6, v7] [vI x0] I = runs cal 252 150 [v0, v1, v2, v3, v4, v5, v6, v7] [vI x0] I := st_goto (ins_of mI_252 (by rfl)) (by decide)
theorem r252_134 : runs cal 252 134 [v0, v1, v2, v3, v4, v5, vI w, v7] [] I = runs cal 252 136 [v0, v1, v2, v3, v4, v5, vI w, v7] [vI w] I := runs_to (ins_of mI_252 (by rfl)) rfl rfl
theorem r252_136 : runs cal 252 136 [v0, v1, v2, v3, v4, v5, v6, v7] [vI x0] I = runs cal 252 137 [v0, v1, v2, v3, v4, v5, v6, v7] [vI (3), vI x0] I := runs_to (ins_of mI_252 (by rfl)) rfl rfl
theorem r252_137 : runs cal 252 137 [v0, v1, v2, v3, v4, v5, v6, v7] [vI x0, vI x1] I = if x1 = x0 then runs cal 252 140 [v0, v1, v2, v3, v4, v5, v6, v7] [] I else runs cal 252 149 [v0, v1, v2, v3, v4, v5, v6, v7] [] I := st_cmp_ne (ins_of mI_252 (by rfl)) (by decide)
theorem r252_140 : runs cal 252 140 [vR 70, v1, v2, v3, v4, v5, v6, v7] [] I = runs cal 252 141 [vR 70, v1, v2, v3, v4, v5, v6, v7] [vR 70] I := runs_to (ins_of mI_252 (by rfl)) rfl rfl
theorem r252_141 : runs cal 252 141 [v0, vI w, v2, v3, v4, v5, v6, v7] [vR 70] I = runs cal 252 142 [v0, vI w, v2, v3, v4, v5, v6, v7] [vI w, vR 70] I := runs_to (ins_of mI_252 (by rfl)) rfl rfl
theorem r252_142 : runs cal 252 142 [v0, v1, v2, vI w, v4, v5, v6, v7] [vI x0, vR 70] I = runs cal 252 143 [v0, v1, v2, vI w, v4, v5, v6, v7] [vI w, vI x0, vR 70] I := runs_to (ins_of mI_252 (by rfl)) rfl rfl
theorem r252_143 : runs cal 252 143 [v0, v1, v2, v3, v4, v5, v6, v7] [vI x0, vI x1, vR 70] I = (cal 248 [vR 70, vI x1, vI x0] I).bind (fun q => runs cal 252 146 [v0, v1, v2, v3, v4, v5, v6, v7] (pushR q.1 []) q.2) := st_call (st := false) (ins_of mI_252 (by rfl)) mC_252 mr_11_438 (by decide) mS_248 mN_248 rfl (Nat.le_of_ble_eq_true rfl) rfl rfl (Or.inr ⟨_, _, rfl, rcv mC_248 rfl wid_252 (by decide +kernel)⟩) (Or.inl (wid_252.trans wid_248.symm))
theorem r252_146 : runs cal 252 146 [v0, v1, v2, v3, v4, v5, v6, v7] [vI x0] I = runs cal 252 150 [v0, v1, v2, v3, v4, v5, v6, v7] [vI x0] I := st_goto (ins_of mI_252 (by rfl)) (by decide)
theorem r252_149 : runs cal 252 149 [v0, v1, v2, v3, v4, v5, v6, v7] [] I = runs cal 252 150 [v0, v1, v2, v3, v4, v5, v6, v7] [vI (-1)] I := runs_to (ins_of mI_252 (by rfl)) rfl rfl
theorem r252_150 : runs cal 252 150 [v0, v1, v2, v3, v4, v5, vI u, v7] [vI x0] I = runs cal 252 152 [v0, v1, v2, v3, v4, v5, vI u, vI x0] [] I := runs_to (ins_of mI_252 (by rfl)) rfl rfl
theorem r252_152 : runs cal 252 152 [v0, v1, v2, v3, v4, v5, v6, vI w] [] I = runs cal 252 154 [v0, v1, v2, v3, v4, v5, v6, vI w] [vI w] I := runs_to (ins_of mI_252 (by rfl)) rfl rfl
theorem r252_154 : runs cal 252 154 [v0, v1, v2, v3, v4, v5, v6, v7] [vI x0] I = runs cal 252 155 [v0, v1, v2, v3, v4, v5, v6, v7] [vI (-1), vI x0] I := runs_to (ins_of mI_252 (by rfl)) rfl rfl
theorem r252_155 : runs cal 252 155 [v0, v1, v2, v3, v4, v5, v6, v7] [vI x0, vI x1] I = if x1 = x0 then runs cal 252 158 [v0, v1, v2, v3, v4, v5, v6, v7] [] I else runs cal 252 160 [v0, v1, v2, v3, v4, v5, v6, v7] [] I := st_cmp_ne (ins_of mI_252 (by rfl)) (by decide)
theorem r252_158 : runs cal 252 158 [v0, v1, v2, v3, v4, v5, v6, v7] [] I = runs cal 252 159 [v0, v1, v2, v3, v4, v5, v6, v7] [vI (0)] I := runs_to (ins_of mI_252 (by rfl)) rfl rfl
theorem r252_159 : runs cal 252 159 [v0, v1, v2, v3, v4, v5, v6, v7] [vI x0] I = if x0 = 0 ∨ x0 = 1 then some (some (vI x0), I) else none := st_retZ (ins_of mI_252 (by rfl)) mR_252 (Or.inl rfl)
theorem r252_160 : runs cal 252 160 [vR 70, v1, v2, v3, v4, v5, v6, v7] [] I = runs cal 252 161 [vR 70, v1, v2, v3, v4, v5, v6, v7] [vR 70] I := runs_to (ins_of mI_252 (by rfl)) rfl rfl
theorem r252_161 : runs cal 252 161 [v0, v1, v2, v3, v4, v5, vI w, v7] [vR 70] I = runs cal 252 163 [v0, v1, v2, v3, v4, v5, vI w, v7] [vI w, vR 70] I := runs_to (ins_of mI_252 (by rfl)) rfl rfl
theorem r252_163 : runs cal 252 163 [v0, v1, v2, v3, v4, v5, v6, v7] [vI x0, vR 70] I = runs cal 252 164 [v0, v1, v2, v3, v4, v5, v6, v7] [vI (2), vI x0, vR 70] I := runs_to (ins_of mI_252 (by rfl)) rfl rfl
theorem r252_164 : runs cal 252 164 [v0, v1, v2, v3, v4, v5, v6, v7] [vI x0, vI x1, vR 70] I = if x1 = x0 then runs cal 252 167 [v0, v1, v2, v3, v4, v5, v6, v7] [vR 70] I else runs cal 252 171 [v0, v1, v2, v3, v4, v5, v6, v7] [vR 70] I := st_cmp_ne (ins_of mI_252 (by rfl)) (by decide)
theorem r252_167 : runs cal 252 167 [v0, v1, v2, v3, v4, v5, v6, v7] [vR 70] I = runs cal 252 168 [v0, v1, v2, v3, v4, v5, v6, v7] [vI (1), vR 70] I := runs_to (ins_of mI_252 (by rfl)) rfl rfl
theorem r252_168 : runs cal 252 168 [v0, v1, v2, v3, v4, v5, v6, v7] [vI x0, vR 70] I = runs cal 252 172 [v0, v1, v2, v3, v4, v5, v6, v7] [vI x0, vR 70] I := st_goto (ins_of mI_252 (by rfl)) (by decide)
theorem r252_171 : runs cal 252 171 [v0, v1, v2, v3, v4, v5, v6, v7] [vR 70] I = runs cal 252 172 [v0, v1, v2, v3, v4, v5, v6, v7] [vI (2), vR 70] I := runs_to (ins_of mI_252 (by rfl)) rfl rfl
theorem r252_172 : runs cal 252 172 [v0, vI w, v2, v3, v4, v5, v6, v7] [vI x0, vR 70] I = runs cal 252 173 [v0, vI w, v2, v3, v4, v5, v6, v7] [vI w, vI x0, vR 70] I := runs_to (ins_of mI_252 (by rfl)) rfl rfl
theorem r252_173 : runs cal 252 173 [v0, v1, v2, v3, v4, v5, v6, vI w] [vI x0, vI x1, vR 70] I = runs cal 252 175 [v0, v1, v2, v3, v4, v5, v6, vI w] [vI w, vI x0, vI x1, vR 70] I := runs_to (ins_of mI_252 (by rfl)) rfl rfl
theorem r252_175 : runs cal 252 175 [v0, v1, v2, v3, v4, v5, vI w, v7] [vI x0, vI x1, vI x2, vR 70] I = runs cal 252 177 [v0, v1, v2, v3, v4, v5, vI w, v7] [vI w, vI x0, vI x1, vI x2, vR 70] I := runs_to (ins_of mI_252 (by rfl)) rfl rfl
theorem r252_177 : runs cal 252 177 [v0, v1, v2, v3, v4, v5, v6, v7] [vI x0, vI x1, vI x2, vI x3, vR 70] I = runs cal 252 178 [v0, v1, v2, v3, v4, v5, v6, v7] [vI (2), vI x0, vI x1, vI x2, vI x3, vR 70] I := runs_to (ins_of mI_252 (by rfl)) rfl rfl
theorem r252_178 : runs cal 252 178 [v0, v1, v2, v3, v4, v5, v6, v7] [vI x0, vI x1, vI x2, vI x3, vI x4, vR 70] I = if x1 = x0 then runs cal 252 181 [v0, v1, v2, v3, v4, v5, v6, v7] [vI x2, vI x3, vI x4, vR 70] I else runs cal 252 185 [v0, v1, v2, v3, v4, v5, v6, v7] [vI x2, vI x3, vI x4, vR 70] I := st_cmp_ne (ins_of mI_252 (by rfl)) (by decide)
theorem r252_181 : runs cal 252 181 [v0, v1, v2, vI w, v4, v5, v6, v7] [vI x0, vI x1, vI x2, vR 70] I = runs cal 252 182 [v0, v1, v2, vI w, v4, v5, v6, v7] [vI w, vI x0, vI x1, vI x2, vR 70] I := runs_to (ins_of mI_252 (by rfl)) rfl rfl
theorem r252_182 : runs cal 252 182 [v0, v1, v2, v3, v4, v5, v6, v7] [vI x0, vI x1, vI x2, vI x3, vR 70] I = runs cal 252 186 [v0, v1, v2, v3, v4, v5, v6, v7] [vI x0, vI x1, vI x2, vI x3, vR 70] I := st_goto (ins_of mI_252 (by rfl)) (by decide)
theorem r252_185 : runs cal 252 185 [v0, v1, v2, v3, v4, v5, v6, v7] [vI x0, vI x1, vI x2, vR 70] I = runs cal 252 186 [v0, v1, v2, v3, v4, v5, v6, v7] [vI (0), vI x0, vI x1, vI x2, vR 70] I := runs_to (ins_of mI_252 (by rfl)) rfl rfl
theorem r252_186 : runs cal 252 186 [v0, v1, v2, v3, v4, v5, v6, v7] [vI x0, vI x1, vI x2, vI x3, vR 70] I = (cal 250 [vR 70, vI x3, vI x2, vI x1, vI x0] I).bind (fun q => runs cal 252 189 [v0, v1, v2, v3, v4, v5, v6, v7] (pushR q.1 []) q.2) := st_call (st := false) (ins_of mI_252 (by rfl)) mC_252 mr_11_425 (by decide) mS_250 mN_250 rfl (Nat.le_of_ble_eq_true rfl) rfl rfl (Or.inr ⟨_, _, rfl, rcv mC_250 rfl wid_252 (by decide +kernel)⟩) (Or.inl (wid_252.trans wid_250.symm))
theorem r252_189 : runs cal 252 189 [vR 70, v1, v2, v3, v4, v5, v6, v7] [] I = runs cal 252 190 [vR 70, v1, v2, v3, v4, v5, v6, v7] [vR 70] I := runs_to (ins_of mI_252 (by rfl)) rfl rfl
theorem r252_190 : runs cal 252 190 [v0, v1, v2, v3, v4, v5, v6, v7] [vR 70] I = (cal 192 [vR 70] I).bind (fun q => runs cal 252 193 [v0, v1, v2, v3, v4, v5, v6, v7] (pushR q.1 []) q.2) := st_call (st := false) (ins_of mI_252 (by rfl)) mC_252 mr_11_236 (by decide) mS_192 mN_192 rfl (Nat.le_of_ble_eq_true rfl) rfl rfl (Or.inr ⟨_, _, rfl, rcv mC_192 rfl wid_252 (by decide +kernel)⟩) (Or.inl (wid_252.trans wid_192.symm))
theorem r252_193 : runs cal 252 193 [v0, v1, v2, v3, v4, v5, v6, v7] [vI x0] I = runs cal 252 194 [v0, v1, v2, v3, v4, v5, v6, v7] [vI (3), vI x0] I := runs_to (ins_of mI_252 (by rfl)) rfl rfl
theorem r252_194 : runs cal 252 194 [v0, v1, v2, v3, v4, v5, v6, v7] [vI x0, vI x1] I = if x1 = x0 then runs cal 252 197 [v0, v1, v2, v3, v4, v5, v6, v7] [] I else runs cal 252 201 [v0, v1, v2, v3, v4, v5, v6, v7] [] I := st_cmp_ne (ins_of mI_252 (by rfl)) (by decide)
theorem r252_197 : runs cal 252 197 [v0, v1, v2, v3, v4, v5, v6, v7] [] I = runs cal 252 198 [v0, v1, v2, v3, v4, v5, v6, v7] [vI (1)] I := runs_to (ins_of mI_252 (by rfl)) rfl rfl
theorem r252_198 : runs cal 252 198 [v0, v1, v2, v3, v4, v5, v6, v7] [vI x0] I = runs cal 252 202 [v0, v1, v2, v3, v4, v5, v6, v7] [vI x0] I := st_goto (ins_of mI_252 (by rfl)) (by decide)
theorem r252_201 : runs cal 252 201 [v0, v1, v2, v3, v4, v5, v6, v7] [] I = runs cal 252 202 [v0, v1, v2, v3, v4, v5, v6, v7] [vI (0)] I := runs_to (ins_of mI_252 (by rfl)) rfl rfl
theorem r252_202 : runs cal 252 202 [v0, v1, v2, v3, v4, v5, v6, v7] [vI x0] I = if x0 = 0 ∨ x0 = 1 then some (some (vI x0), I) else none := st_retZ (ins_of mI_252 (by rfl)) mR_252 (Or.inl rfl)
theorem r253_0 : runs cal 253 0 [vR 70, v1, v2] [] I = runs cal 253 1 [vR 70, v1, v2] [vR 70] I := runs_to (ins_of mI_253 (by rfl)) rfl rfl
theorem r253_1 : runs cal 253 1 [v0, v1, v2] [vR 70] I = (cal 164 [vR 70] I).bind (fun q => runs cal 253 4 [v0, v1, v2] (pushR q.1 []) q.2) := st_call (st := false) (ins_of mI_253 (by rfl)) mC_253 mr_11_230 (by decide) mS_164 mN_164 rfl (Nat.le_of_ble_eq_true rfl) rfl rfl (Or.inr ⟨_, _, rfl, rcv mC_164 rfl wid_253 (by decide +kernel)⟩) (Or.inl (wid_253.trans wid_164.symm))
theorem r253_4 : runs cal 253 4 [vR 70, v1, v2] [] I = runs cal 253 5 [vR 70, v1, v2] [vR 70] I := runs_to (ins_of mI_253 (by rfl)) rfl rfl
theorem r253_5 : runs cal 253 5 [v0, v1, v2] [vR 70] I = runs cal 253 6 [v0, v1, v2] [vI (-1), vR 70] I := runs_to (ins_of mI_253 (by rfl)) rfl rfl
theorem r253_6 : runs cal 253 6 [v0, v1, v2] [vI x0, vR 70] I = runs cal 253 9 [v0, v1, v2] [] (mset I 70 37 x0) := st_putI (ins_of mI_253 (by rfl)) mC_253 fr_11_441 cT_70 (wdc wid_253 wd_70) rfl
theorem r253_9 : runs cal 253 9 [vR 70, v1, v2] [] I = runs cal 253 10 [vR 70, v1, v2] [vR 70] I := runs_to (ins_of mI_253 (by rfl)) rfl rfl
theorem r253_10 : runs cal 253 10 [v0, v1, v2] [vR 70] I = runs cal 253 11 [v0, v1, v2] [vI (0), vR 70] I := runs_to (ins_of mI_253 (by rfl)) rfl rfl
theorem r253_11 : runs cal 253 11 [v0, v1, v2] [vI x0, vR 70] I = runs cal 253 14 [v0, v1, v2] [] (mset I 70 38 x0) := st_putI (ins_of mI_253 (by rfl)) mC_253 fr_11_444 cT_70 (wdc wid_253 wd_70) rfl
theorem r253_14 : runs cal 253 14 [vR 70, v1, v2] [] I = runs cal 253 15 [vR 70, v1, v2] [vR 70] I := runs_to (ins_of mI_253 (by rfl)) rfl rfl
theorem r253_15 : runs cal 253 15 [v0, v1, v2] [vR 70] I = runs cal 253 18 [v0, v1, v2] [vI (I 70 38)] I := st_getI (ins_of mI_253 (by rfl)) mC_253 (by decide) fr_11_444 cT_70 (wdc wid_253 wd_70) (Or.inl rfl)
theorem r253_18 : runs cal 253 18 [v0, vI w, v2] [vI x0] I = runs cal 253 19 [v0, vI w, v2] [vI w, vI x0] I := runs_to (ins_of mI_253 (by rfl)) rfl rfl
theorem r253_19 : runs cal 253 19 [v0, v1, v2] [vI x0, vI x1] I = if x1 < x0 then runs cal 253 22 [v0, v1, v2] [] I else runs cal 253 88 [v0, v1, v2] [] I := st_cmp_ge (ins_of mI_253 (by rfl)) (by decide)
theorem r253_22 : runs cal 253 22 [vR 70, v1, v2] [] I = runs cal 253 23 [vR 70, v1, v2] [vR 70] I := runs_to (ins_of mI_253 (by rfl)) rfl rfl
theorem r253_23 : runs cal 253 23 [v0, v1, v2] [vR 70] I = runs cal 253 26 [v0, v1, v2] [vI (I 70 37)] I := st_getI (ins_of mI_253 (by rfl)) mC_253 (by decide) fr_11_441 cT_70 (wdc wid_253 wd_70) (Or.inl rfl)
theorem r253_26 : runs cal 253 26 [v0, v1, v2] [vI x0] I = runs cal 253 27 [v0, v1, v2] [vI (-1), vI x0] I := runs_to (ins_of mI_253 (by rfl)) rfl rfl
theorem r253_27 : runs cal 253 27 [v0, v1, v2] [vI x0, vI x1] I = if x1 = x0 then runs cal 253 30 [v0, v1, v2] [] I else runs cal 253 88 [v0, v1, v2] [] I := st_cmp_ne (ins_of mI_253 (by rfl)) (by decide)
theorem r253_30 : runs cal 253 30 [v0, v1, v2] [] I = runs cal 253 31 [v0, v1, v2] [vI (0)] I := runs_to (ins_of mI_253 (by rfl)) rfl rfl
theorem r253_31 : runs cal 253 31 [v0, vI u, v2] [vI x0] I = runs cal 253 32 [v0, vI u, vI x0] [] I := runs_to (ins_of mI_253 (by rfl)) rfl rfl
theorem r253_32 : runs cal 253 32 [v0, v1, vI w] [] I = runs cal 253 33 [v0, v1, vI w] [vI w] I := runs_to (ins_of mI_253 (by rfl)) rfl rfl
theorem r253_33 : runs cal 253 33 [vR 70, v1, v2] [vI x0] I = runs cal 253 34 [vR 70, v1, v2] [vR 70, vI x0] I := runs_to (ins_of mI_253 (by rfl)) rfl rfl
theorem r253_34 : runs cal 253 34 [v0, v1, v2] [vR 70, vI x1] I = (cal 159 [vR 70] I).bind (fun q => runs cal 253 37 [v0, v1, v2] (pushR q.1 [vI x1]) q.2) := st_call (st := false) (ins_of mI_253 (by rfl)) mC_253 mr_11_117 (by decide) mS_159 mN_159 rfl (Nat.le_of_ble_eq_true rfl) rfl rfl (Or.inr ⟨_, _, rfl, rcv mC_159 rfl wid_253 (by decide +kernel)⟩) (Or.inl (wid_253.trans wid_159.symm))
theorem r253_37 : runs cal 253 37 [v0, v1, v2] [vI x0, vI x1] I = if x1 < x0 then runs cal 253 40 [v0, v1, v2] [] I else runs cal 253 75 [v0, v1, v2] [] I := st_cmp_ge (ins_of mI_253 (by rfl)) (by decide)
theorem r253_40 : runs cal 253 40 [vR 70, v1, v2] [] I = runs cal 253 41 [vR 70, v1, v2] [vR 70] I := runs_to (ins_of mI_253 (by rfl)) rfl rfl
theorem r253_41 : runs cal 253 41 [v0, v1, v2] [vR 70] I = runs cal 253 44 [v0, v1, v2] [vI (I 70 37)] I := st_getI (ins_of mI_253 (by rfl)) mC_253 (by decide) fr_11_441 cT_70 (wdc wid_253 wd_70) (Or.inl rfl)
theorem r253_44 : runs cal 253 44 [v0, v1, v2] [vI x0] I = runs cal 253 45 [v0, v1, v2] [vI (-1), vI x0] I := runs_to (ins_of mI_253 (by rfl)) rfl rfl
theorem r253_45 : runs cal 253 45 [v0, v1, v2] [vI x0, vI x1] I = if x1 = x0 then runs cal 253 48 [v0, v1, v2] [] I else runs cal 253 75 [v0, v1, v2] [] I := st_cmp_ne (ins_of mI_253 (by rfl)) (by decide)
theorem r253_48 : runs cal 253 48 [vR 70, v1, v2] [] I = runs cal 253 49 [vR 70, v1, v2] [vR 70] I := runs_to (ins_of mI_253 (by rfl)) rfl rfl
theorem r253_49 : runs cal 253 49 [vR 70, v1, v2] [vR 70] I = runs cal 253 50 [vR 70, v1, v2] [vR 70, vR 70] I := runs_to (ins_of mI_253 (by rfl)) rfl rfl
theorem r253_50 : runs cal 253 50 [v0, v1, vI w] [vR 70, vR 70] I = runs cal 253 51 [v0, v1, vI w] [vI w, vR 70, vR 70] I := runs_to (ins_of mI_253 (by rfl)) rfl rfl
theorem r253_51 : runs cal 253 51 [vR 70, v1, v2] [vI x0, vR 70, vR 70] I = runs cal 253 52 [vR 70, v1, v2] [vR 70, vI x0, vR 70, vR 70] I := runs_to (ins_of mI_253 (by rfl)) rfl rfl
theorem r253_52 : runs cal 253 52 [v0, v1, v2] [vR 70, vI x1, vR 70, vR 70] I = runs cal 253 55 [v0, v1, v2] [vI (I 70 38), vI x1, vR 70, vR 70] I := st_getI (ins_of mI_253 (by rfl)) mC_253 (by decide) fr_11_444 cT_70 (wdc wid_253 wd_70) (Or.inl rfl)
theorem r253_55 : runs cal 253 55 [v0, v1, v2] [vI x0, vI x1, vR 70, vR 70] I = (cal 252 [vR 70, vI x1, vI x0] I).bind (fun q => runs cal 253 58 [v0, v1, v2] (pushR q.1 [vR 70]) q.2) := st_call (st := false) (ins_of mI_253 (by rfl)) mC_253 mr_11_447 (by decide) mS_252 mN_252 rfl (Nat.le_of_ble_eq_true rfl) rfl rfl (Or.inr ⟨_, _, rfl, rcv mC_252 rfl wid_253 (by decide +kernel)⟩) (Or.inl (wid_253.trans wid_252.symm))
theorem r253_58 : runs cal 253 58 [v0, v1, v2] [vI x0, vR 70] I = if x0 = 0 then runs cal 253 65 [v0, v1, v2] [vR 70] I else runs cal 253 61 [v0, v1, v2] [vR 70] I := st_if_eq (ins_of mI_253 (by rfl)) (by decide)
theorem r253_61 : runs cal 253 61 [v0, v1, vI w] [vR 70] I = runs cal 253 62 [v0, v1, vI w] [vI w, vR 70] I := runs_to (ins_of mI_253 (by rfl)) rfl rfl
theorem r253_62 : runs cal 253 62 [v0, v1, v2] [vI x0, vR 70] I = runs cal 253 66 [v0, v1, v2] [vI x0, vR 70] I := st_goto (ins_of mI_253 (by rfl)) (by decide)
theorem r253_65 : runs cal 253 65 [v0, v1, v2] [vR 70] I = runs cal 253 66 [v0, v1, v2] [vI (-1), vR 70] I := runs_to (ins_of mI_253 (by rfl)) rfl rfl
theorem r253_66 : runs cal 253 66 [v0, v1, v2] [vI x0, vR 70] I = runs cal 253 69 [v0, v1, v2] [] (mset I 70 37 x0) := st_putI (ins_of mI_253 (by rfl)) mC_253 fr_11_441 cT_70 (wdc wid_253 wd_70) rfl
theorem r253_69 : runs cal 253 69 [v0, vI u, vI w] [] I = runs cal 253 72 [v0, vI u, vI (iadd w (1))] [] I := runs_to (ins_of mI_253 (by rfl)) rfl rfl
theorem r253_72 : runs cal 253 72 [v0, v1, v2] [] I = runs cal 253 32 [v0, v1, v2] [] I := st_goto (ins_of mI_253 (by rfl)) (by decide)
theorem r253_75 : runs cal 253 75 [vR 70, v1, v2] [] I = runs cal 253 76 [vR 70, v1, v2] [vR 70] I := runs_to (ins_of mI_253 (by rfl)) rfl rfl
theorem r253_76 : runs cal 253 76 [v0, v1, v2] [vR 70] I = runs cal 253 77 [v0, v1, v2] [vR 70, vR 70] I := runs_to (ins_of mI_253 (by rfl)) rfl rfl
theorem r253_77 : runs cal 253 77 [v0, v1, v2] [vR 70, vR 70] I = runs cal 253 80 [v0, v1, v2] [vI (I 70 38), vR 70] I := st_getI (ins_of mI_253 (by rfl)) mC_253 (by decide) fr_11_444 cT_70 (wdc wid_253 wd_70) (Or.inl rfl)
theorem r253_80 : runs cal 253 80 [v0, v1, v2] [vI x0, vR 70] I = runs cal 253 81 [v0, v1, v2] [vI (1), vI x0, vR 70] I := runs_to (ins_of mI_253 (by rfl)) rfl rfl
theorem r253_81 : runs cal 253 81 [v0, v1, v2] [vI x0, vI x1, vR 70] I = runs cal 253 82 [v0, v1, v2] [vI (iadd x1 x0), vR 70] I := runs_to (ins_of mI_253 (by rfl)) rfl rfl
theorem r253_82 : runs cal 253 82 [v0, v1, v2] [vI x0, vR 70] I = runs cal 253 85 [v0, v1, v2] [] (mset I 70 38 x0) := st_putI (ins_of mI_253 (by rfl)) mC_253 fr_11_444 cT_70 (wdc wid_253 wd_70) rfl
theorem r253_85 : runs cal 253 85 [v0, v1, v2] [] I = runs cal 253 14 [v0, v1, v2] [] I := st_goto (ins_of mI_253 (by rfl)) (by decide)
theorem r253_88 : runs cal 253 88 [v0, v1, v2] [] I = some (none, I) := st_ret (q := none) (k := 3) (ins_of mI_253 (by rfl)) rfl (by decide) mR_253 rfl trivial
theorem r254_0 : runs cal 254 0 [v0, vI w, v2, v3, v4] [] I = runs cal 254 1 [v0, vI w, v2, v3, v4] [vI w] I := runs_to (ins_of mI_254 (by rfl)) rfl rfl
theorem r254_1 : runs cal 254 1 [v0, v1, v2, v3, v4] [vI x0] I = runs cal 254 2 [v0, v1, v2, v3, v4] [vL x0] I := runs_to (ins_of mI_254 (by rfl)) rfl rfl
theorem r254_2 : runs cal 254 2 [v0, v1, v2, v3, v4] [vL x0] I = runs cal 254 3 [v0, v1, v2, v3, v4] [vL 0, vL x0] I := runs_to (ins_of mI_254 (by rfl)) rfl rfl
theorem r254_3 : runs cal 254 3 [v0, v1, v2, v3, v4] [vL x0, vL x1] I = runs cal 254 6 [v0, v1, v2, v3, v4] [vL (40), vL x0, vL x1] I := runs_to (ins_of mI_254 (by rfl)) rfl (by simp only [stepI, ldk2, mC_254]; rfl)
theorem r254_6 : runs cal 254 6 [v0, v1, v2, v3, v4] [vL x0, vL x1, vL x2] I = (cal 142 [vL x2, vL x1, vL x0] I).bind (fun q => runs cal 254 9 [v0, v1, v2, v3, v4] (pushR q.1 []) q.2) := st_call (st := true) (ins_of mI_254 (by rfl)) mC_254 mr_11_121 (by decide) mS_142 mN_142 rfl (Nat.le_of_ble_eq_true rfl) rfl rfl (Or.inl rfl) (Or.inl (wid_254.trans wid_142.symm))
theorem r254_9 : runs cal 254 9 [v0, v1, v2, v3, v4] [vI x0] I = if x0 = 0 then runs cal 254 24 [v0, v1, v2, v3, v4] [] I else runs cal 254 12 [v0, v1, v2, v3, v4] [] I := st_if_eq (ins_of mI_254 (by rfl)) (by decide)
theorem r254_12 : runs cal 254 12 [v0, v1, vI w, v3, v4] [] I = runs cal 254 13 [v0, v1, vI w, v3, v4] [vI w] I := runs_to (ins_of mI_254 (by rfl)) rfl rfl
theorem r254_13 : runs cal 254 13 [v0, v1, v2, v3, v4] [vI x0] I = runs cal 254 14 [v0, v1, v2, v3, v4] [vL x0] I := runs_to (ins_of mI_254 (by rfl)) rfl rfl
theorem r254_14 : runs cal 254 14 [v0, v1, v2, v3, v4] [vL x0] I = runs cal 254 15 [v0, v1, v2, v3, v4] [vL 0, vL x0] I := runs_to (ins_of mI_254 (by rfl)) rfl rfl
theorem r254_15 : runs cal 254 15 [v0, v1, v2, v3, v4] [vL x0, vL x1] I = runs cal 254 18 [v0, v1, v2, v3, v4] [vL (2), vL x0, vL x1] I := runs_to (ins_of mI_254 (by rfl)) rfl (by simp only [stepI, ldk2, mC_254]; rfl)
theorem r254_18 : runs cal 254 18 [v0, v1, v2, v3, v4] [vL x0, vL x1, vL x2] I = (cal 142 [vL x2, vL x1, vL x0] I).bind (fun q => runs cal 254 21 [v0, v1, v2, v3, v4] (pushR q.1 []) q.2) := st_call (st := true) (ins_of mI_254 (by rfl)) mC_254 mr_11_121 (by decide) mS_142 mN_142 rfl (Nat.le_of_ble_eq_true rfl) rfl rfl (Or.inl rfl) (Or.inl (wid_254.trans wid_142.symm))
theorem r254_21 : runs cal 254 21 [v0, v1, v2, v3, v4] [vI x0] I = if x0 = 0 then runs cal 254 24 [v0, v1, v2, v3, v4] [] I else runs cal 254 31 [v0, v1, v2, v3, v4] [] I := st_if_ne (ins_of mI_254 (by rfl)) (by decide)
theorem r254_24 : runs cal 254 24 [vR 70, v1, v2, v3, v4] [] I = runs cal 254 25 [vR 70, v1, v2, v3, v4] [vR 70] I := runs_to (ins_of mI_254 (by rfl)) rfl rfl
theorem r254_25 : runs cal 254 25 [v0, v1, v2, v3, v4] [vR 70] I = runs cal 254 27 [v0, v1, v2, v3, v4] [vI (-2), vR 70] I := runs_to (ins_of mI_254 (by rfl)) rfl rfl
theorem r254_27 : runs cal 254 27 [v0, v1, v2, v3, v4] [vI x0, vR 70] I = (cal 143 [vR 70, vI x0] I).bind (fun q => runs cal 254 30 [v0, v1, v2, v3, v4] (pushR q.1 []) q.2) := st_call (st := false) (ins_of mI_254 (by rfl)) mC_254 mr_11_251 (by decide) mS_143 mN_143 rfl (Nat.le_of_ble_eq_true rfl) rfl rfl (Or.inr ⟨_, _, rfl, rcv mC_143 rfl wid_254 (by decide +kernel)⟩) (Or.inl (wid_254.trans wid_143.symm))
theorem r254_30 : runs cal 254 30 [v0, v1, v2, v3, v4] [vI x0] I = some (some (vI x0), I) := st_ret (q := some (vI x0)) (k := 0) (ins_of mI_254 (by rfl)) rfl (by decide) mR_254 rfl trivial
theorem r254_31 : runs cal 254 31 [vR 70, v1, v2, v3, v4] [] I = runs cal 254 32 [vR 70, v1, v2, v3, v4] [vR 70] I := runs_to (ins_of mI_254 (by rfl)) rfl rfl
theorem r254_32 : runs cal 254 32 [v0, vI w, v2, v3, v4] [vR 70] I = runs cal 254 33 [v0, vI w, v2, v3, v4] [vI w, vR 70] I := runs_to (ins_of mI_254 (by rfl)) rfl rfl
theorem r254_33 : runs cal 254 33 [v0, v1, v2, v3, v4] [vI x0, vR 70] I = (cal 253 [vR 70, vI x0] I).bind (fun q => runs cal 254 36 [v0, v1, v2, v3, v4] (pushR q.1 []) q.2) := st_call (st := false) (ins_of mI_254 (by rfl)) mC_254 mr_11_452 (by decide) mS_253 mN_253 rfl (Nat.le_of_ble_eq_true rfl) rfl rfl (Or.inr ⟨_, _, rfl, rcv mC_253 rfl wid_254 (by decide +kernel)⟩) (Or.inl (wid_254.trans wid_253.symm))
theorem r254_36 : runs cal 254 36 [v0, v1, v2, v3, v4] [] I = runs cal 254 37 [v0, v1, v2, v3, v4] [vI (0)] I := runs_to (ins_of mI_254 (by rfl)) rfl rfl
theorem r254_37 : runs cal 254 37 [v0, v1, vI u, v3, v4] [vI x0] I = runs cal 254 38 [v0, v1, vI u, vI x0, v4] [] I := runs_to (ins_of mI_254 (by rfl)) rfl rfl
theorem r254_38 : runs cal 254 38 [v0, v1, v2, v3, v4] [] I = runs cal 254 39 [v0, v1, v2, v3, v4] [vI (0)] I := runs_to (ins_of mI_254 (by rfl)) rfl rfl
theorem r254_39 : runs cal 254 39 [v0, v1, v2, vI u, v4] [vI x0] I = runs cal 254 41 [v0, v1, v2, vI u, vI x0] [] I := runs_to (ins_of mI_254 (by rfl)) rfl rfl
theorem r254_41 : runs cal 254 41 [v0, v1, v2, v3, vI w] [] I = runs cal 254 43 [v0, v1, v2, v3, vI w] [vI w] I := runs_to (ins_of mI_254 (by rfl)) rfl rfl
theorem r254_43 : runs cal 254 43 [vR 70, v1, v2, v3, v4] [vI x0] I = runs cal 254 44 [vR 70, v1, v2, v3, v4] [vR 70, vI x0] I := runs_to (ins_of mI_254 (by rfl)) rfl rfl
theorem r254_44 : runs cal 254 44 [v0, v1, v2, v3, v4] [vR 70, vI x1] I = (cal 159 [vR 70] I).bind (fun q => runs cal 254 47 [v0, v1, v2, v3, v4] (pushR q.1 [vI x1]) q.2) := st_call (st := false) (ins_of mI_254 (by rfl)) mC_254 mr_11_117 (by decide) mS_159 mN_159 rfl (Nat.le_of_ble_eq_true rfl) rfl rfl (Or.inr ⟨_, _, rfl, rcv mC_159 rfl wid_254 (by decide +kernel)⟩) (Or.inl (wid_254.trans wid_159.symm))
theorem r254_47 : runs cal 254 47 [v0, v1, v2, v3, v4] [vI x0, vI x1] I = if x1 < x0 then runs cal 254 50 [v0, v1, v2, v3, v4] [] I else runs cal 254 80 [v0, v1, v2, v3, v4] [] I := st_cmp_ge (ins_of mI_254 (by rfl)) (by decide)
theorem r254_50 : runs cal 254 50 [v0, v1, v2, vI w, v4] [] I = runs cal 254 51 [v0, v1, v2, vI w, v4] [vI w] I := runs_to (ins_of mI_254 (by rfl)) rfl rfl
theorem r254_51 : runs cal 254 51 [vR 70, v1, v2, v3, v4] [vI x0] I = runs cal 254 52 [vR 70, v1, v2, v3, v4] [vR 70, vI x0] I := runs_to (ins_of mI_254 (by rfl)) rfl rfl
theorem r254_52 : runs cal 254 52 [v0, v1, v2, v3, v4] [vR 70, vI x1] I = runs cal 254 55 [v0, v1, v2, v3, v4] [vR 77, vI x1] I := st_getR (ins_of mI_254 (by rfl)) mC_254 (by decide) fr_11_30 cT_70 (wdc wid_254 wd_70) rfl rfl
theorem r254_55 : runs cal 254 55 [v0, v1, v2, v3, vI w] [vR 77, vI x1] I = runs cal 254 57 [v0, v1, v2, v3, vI w] [vI w, vR 77, vI x1] I := runs_to (ins_of mI_254 (by rfl)) rfl rfl
theorem r254_57 : runs cal 254 57 [v0, v1, v2, v3, v4] [vI x0, vR 77, vI x2] I = if 0 ≤ x0 ∧ x0 < 3 then runs cal 254 58 [v0, v1, v2, v3, v4] [vI (I 77 x0), vI x2] I else none := st_iald (ins_of mI_254 (by rfl)) cT_77 (wdc wid_254 wd_77)
theorem r254_58 : runs cal 254 58 [vR 70, v1, v2, v3, v4] [vI x0, vI x1] I = runs cal 254 59 [vR 70, v1, v2, v3, v4] [vR 70, vI x0, vI x1] I := runs_to (ins_of mI_254 (by rfl)) rfl rfl
theorem r254_59 : runs cal 254 59 [v0, v1, v2, v3, vI w] [vR 70, vI x1, vI x2] I = runs cal 254 61 [v0, v1, v2, v3, vI w] [vI w, vR 70, vI x1, vI x2] I := runs_to (ins_of mI_254 (by rfl)) rfl rfl
theorem r254_61 : runs cal 254 61 [v0, v1, v2, v3, v4] [vI x0, vR 70, vI x2, vI x3] I = (cal 177 [vR 70, vI x0] I).bind (fun q => runs cal 254 64 [v0, v1, v2, v3, v4] (pushR q.1 [vI x2, vI x3]) q.2) := st_call (st := false) (ins_of mI_254 (by rfl)) mC_254 mr_11_163 (by decide) mS_177 mN_177 rfl (Nat.le_of_ble_eq_true rfl) rfl rfl (Or.inr ⟨_, _, rfl, rcv mC_177 rfl wid_254 (by decide +kernel)⟩) (Or.inl (wid_254.trans wid_177.symm))
theorem r254_64 : runs cal 254 64 [v0, v1, v2, v3, v4] [vI x0, vI x1, vI x2] I = if x1 = x0 then runs cal 254 67 [v0, v1, v2, v3, v4] [vI x2] I else runs cal 254 71 [v0, v1, v2, v3, v4] [vI x2] I := st_cmp_ne (ins_of mI_254 (by rfl)) (by decide)
theorem r254_67 : runs cal 254 67 [v0, v1, v2, v3, v4] [vI x0] I = runs cal 254 68 [v0, v1, v2, v3, v4] [vI (1), vI x0] I := runs_to (ins_of mI_254 (by rfl)) rfl rfl
theorem r254_68 : runs cal 254 68 [v0, v1, v2, v3, v4] [vI x0, vI x1] I = runs cal 254 72 [v0, v1, v2, v3, v4] [vI x0, vI x1] I := st_goto (ins_of mI_254 (by rfl)) (by decide)
theorem r254_71 : runs cal 254 71 [v0, v1, v2, v3, v4] [vI x0] I = runs cal 254 72 [v0, v1, v2, v3, v4] [vI (0), vI x0] I := runs_to (ins_of mI_254 (by rfl)) rfl rfl
theorem r254_72 : runs cal 254 72 [v0, v1, v2, v3, v4] [vI x0, vI x1] I = runs cal 254 73 [v0, v1, v2, v3, v4] [vI (iadd x1 x0)] I := runs_to (ins_of mI_254 (by rfl)) rfl rfl
theorem r254_73 : runs cal 254 73 [v0, v1, vI u, v3, v4] [vI x0] I = runs cal 254 74 [v0, v1, vI u, vI x0, v4] [] I := runs_to (ins_of mI_254 (by rfl)) rfl rfl
theorem r254_74 : runs cal 254 74 [v0, v1, v2, vI u, vI w] [] I = runs cal 254 77 [v0, v1, v2, vI u, vI (iadd w (1))] [] I := runs_to (ins_of mI_254 (by rfl)) rfl rfl
theorem r254_77 : runs cal 254 77 [v0, v1, v2, v3, v4] [] I = runs cal 254 41 [v0, v1, v2, v3, v4] [] I := st_goto (ins_of mI_254 (by rfl)) (by decide)
theorem r254_80 : runs cal 254 80 [v0, v1, vI w, v3, v4] [] I = runs cal 254 81 [v0, v1, vI w, v3, v4] [vI w] I := runs_to (ins_of mI_254 (by rfl)) rfl rfl
theorem r254_81 : runs cal 254 81 [v0, v1, v2, v3, v4] [vI x0] I = if x0 = 0 then runs cal 254 84 [v0, v1, v2, v3, v4] [] I else runs cal 254 91 [v0, v1, v2, v3, v4] [] I := st_if_ne (ins_of mI_254 (by rfl)) (by decide)
theorem r254_84 : runs cal 254 84 [vR 70, v1, v2, v3, v4] [] I = runs cal 254 85 [vR 70, v1, v2, v3, v4] [vR 70] I := runs_to (ins_of mI_254 (by rfl)) rfl rfl
theorem r254_85 : runs cal 254 85 [v0, v1, v2, v3, v4] [vR 70] I = runs cal 254 88 [v0, v1, v2, v3, v4] [vI (I 70 37)] I := st_getI (ins_of mI_254 (by rfl)) mC_254 (by decide) fr_11_441 cT_70 (wdc wid_254 wd_70) (Or.inl rfl)
theorem r254_88 : runs cal 254 88 [v0, v1, v2, v3, v4] [vI x0] I = runs cal 254 104 [v0, v1, v2, v3, v4] [vI x0] I := st_goto (ins_of mI_254 (by rfl)) (by decide)
theorem r254_91 : runs cal 254 91 [v0, v1, vI w, v3, v4] [] I = runs cal 254 92 [v0, v1, vI w, v3, v4] [vI w] I := runs_to (ins_of mI_254 (by rfl)) rfl rfl
theorem r254_92 : runs cal 254 92 [v0, v1, v2, v3, v4] [vI x0] I = runs cal 254 93 [v0, v1, v2, v3, v4] [vI (1), vI x0] I := runs_to (ins_of mI_254 (by rfl)) rfl rfl
theorem r254_93 : runs cal 254 93 [v0, v1, v2, v3, v4] [vI x0, vI x1] I = if x1 = x0 then runs cal 254 96 [v0, v1, v2, v3, v4] [] I else runs cal 254 100 [v0, v1, v2, v3, v4] [] I := st_cmp_ne (ins_of mI_254 (by rfl)) (by decide)
theorem r254_96 : runs cal 254 96 [v0, v1, v2, vI w, v4] [] I = runs cal 254 97 [v0, v1, v2, vI w, v4] [vI w] I := runs_to (ins_of mI_254 (by rfl)) rfl rfl
theorem r254_97 : runs cal 254 97 [v0, v1, v2, v3, v4] [vI x0] I = runs cal 254 104 [v0, v1, v2, v3, v4] [vI x0] I := st_goto (ins_of mI_254 (by rfl)) (by decide)
theorem r254_100 : runs cal 254 100 [vR 70, v1, v2, v3, v4] [] I = runs cal 254 101 [vR 70, v1, v2, v3, v4] [vR 70] I := runs_to (ins_of mI_254 (by rfl)) rfl rfl
theorem r254_101 : runs cal 254 101 [v0, v1, v2, v3, v4] [vR 70] I = runs cal 254 104 [v0, v1, v2, v3, v4] [vI (I 70 38)] I := st_getI (ins_of mI_254 (by rfl)) mC_254 (by decide) fr_11_444 cT_70 (wdc wid_254 wd_70) (Or.inl rfl)
theorem r254_104 : runs cal 254 104 [v0, v1, v2, v3, v4] [vI x0] I = some (some (vI x0), I) := st_ret (q := some (vI x0)) (k := 0) (ins_of mI_254 (by rfl)) rfl (by decide) mR_254 rfl trivial
theorem r255_0 : runs cal 255 0 [v0, vI w, v2, v3, v4, v5, v6, v7, v8] [] I = runs cal 255 1 [v0, vI w, v2, v3, v4, v5, v6, v7, v8] [vI w] I := runs_to (ins_of mI_255 (by rfl)) rfl rfl
theorem r255_1 : runs cal 255 1 [v0, v1, v2, v3, v4, v5, v6, v7, v8] [vI x0] I = runs cal 255 2 [v0, v1, v2, v3, v4, v5, v6, v7, v8] [vL x0] I := runs_to (ins_of mI_255 (by rfl)) rfl rfl
theorem r255_2 : runs cal 255 2 [v0, v1, v2, v3, v4, v5, v6, v7, v8] [vL x0] I = runs cal 255 3 [v0, v1, v2, v3, v4, v5, v6, v7, v8] [vL 1, vL x0] I := runs_to (ins_of mI_255 (by rfl)) rfl rfl
theorem r255_3 : runs cal 255 3 [v0, v1, v2, v3, v4, v5, v6, v7, v8] [vL x0, vL x1] I = runs cal 255 6 [v0, v1, v2, v3, v4, v5, v6, v7, v8] [vL (20), vL x0, vL x1] I := runs_to (ins_of mI_255 (by rfl)) rfl (by simp only [stepI, ldk2, mC_255]; rfl)
theorem r255_6 : runs cal 255 6 [v0, v1, v2, v3, v4, v5, v6, v7, v8] [vL x0, vL x1, vL x2] I = (cal 142 [vL x2, vL x1, vL x0] I).bind (fun q => runs cal 255 9 [v0, v1, v2, v3, v4, v5, v6, v7, v8] (pushR q.1 []) q.2) := st_call (st := true) (ins_of mI_255 (by rfl)) mC_255 mr_11_121 (by decide) mS_142 mN_142 rfl (Nat.le_of_ble_eq_true rfl) rfl rfl (Or.inl rfl) (Or.inl (wid_255.trans wid_142.symm))
theorem r255_9 : runs cal 255 9 [v0, v1, v2, v3, v4, v5, v6, v7, v8] [vI x0] I = if x0 = 0 then runs cal 255 35 [v0, v1, v2, v3, v4, v5, v6, v7, v8] [] I else runs cal 255 12 [v0, v1, v2, v3, v4, v5, v6, v7, v8] [] I := st_if_eq (ins_of mI_255 (by rfl)) (by decide)
theorem r255_12 : runs cal 255 12 [v0, v1, vI w, v3, v4, v5, v6, v7, v8] [] I = runs cal 255 13 [v0, v1, vI w, v3, v4, v5, v6, v7, v8] [vI w] I := runs_to (ins_of mI_255 (by rfl)) rfl rfl
theorem r255_13 : runs cal 255 13 [v0, v1, v2, v3, v4, v5, v6, v7, v8] [vI x0] I = runs cal 255 14 [v0, v1, v2, v3, v4, v5, v6, v7, v8] [vL x0] I := runs_to (ins_of mI_255 (by rfl)) rfl rfl
theorem r255_14 : runs cal 255 14 [v0, v1, v2, v3, v4, v5, v6, v7, v8] [vL x0] I = runs cal 255 15 [v0, v1, v2, v3, v4, v5, v6, v7, v8] [vL 0, vL x0] I := runs_to (ins_of mI_255 (by rfl)) rfl rfl
theorem r255_15 : runs cal 255 15 [v0, v1, v2, v3, v4, v5, v6, v7, v8] [vL x0, vL x1] I = runs cal 255 18 [v0, v1, v2, v3, v4, v5, v6, v7, v8] [vL (10), vL x0, vL x1] I := runs_to (ins_of mI_255 (by rfl)) rfl (by simp only [stepI, ldk2, mC_255]; rfl)
theorem r255_18 : runs cal 255 18 [v0, v1, v2, v3, v4, v5, v6, v7, v8] [vL x0, vL x1, vL x2] I = (cal 142 [vL x2, vL x1, vL x0] I).bind (fun q => runs cal 255 21 [v0, v1, v2, v3, v4, v5, v6, v7, v8] (pushR q.1 []) q.2) := st_call (st := true) (ins_of mI_255 (by rfl)) mC_255 mr_11_121 (by decide) mS_142 mN_142 rfl (Nat.le_of_ble_eq_true rfl) rfl rfl (Or.inl rfl) (Or.inl (wid_255.trans wid_142.symm))
theorem r255_21 : runs cal 255 21 [v0, v1, v2, v3, v4, v5, v6, v7, v8] [vI x0] I = if x0 = 0 then runs cal 255 35 [v0, v1, v2, v3, v4, v5, v6, v7, v8] [] I else runs cal 255 24 [v0, v1, v2, v3, v4, v5, v6, v7, v8] [] I := st_if_eq (ins_of mI_255 (by rfl)) (by decide)
theorem r255_24 : runs cal 255 24 [v0, v1, v2, vI w, v4, v5, v6, v7, v8] [] I = runs cal 255 25 [v0, v1, v2, vI w, v4, v5, v6, v7, v8] [vI w] I := runs_to (ins_of mI_255 (by rfl)) rfl rfl
theorem r255_25 : runs cal 255 25 [v0, v1, v2, v3, v4, v5, v6, v7, v8] [vI x0] I = runs cal 255 26 [v0, v1, v2, v3, v4, v5, v6, v7, v8] [vL x0] I := runs_to (ins_of mI_255 (by rfl)) rfl rfl
theorem r255_26 : runs cal 255 26 [v0, v1, v2, v3, v4, v5, v6, v7, v8] [vL x0] I = runs cal 255 27 [v0, v1, v2, v3, v4, v5, v6, v7, v8] [vL 0, vL x0] I := runs_to (ins_of mI_255 (by rfl)) rfl rfl
theorem r255_27 : runs cal 255 27 [v0, vI w, v2, v3, v4, v5, v6, v7, v8] [vL x0, vL x1] I = runs cal 255 28 [v0, vI w, v2, v3, v4, v5, v6, v7, v8] [vI w, vL x0, vL x1] I := runs_to (ins_of mI_255 (by rfl)) rfl rfl
theorem r255_28 : runs cal 255 28 [v0, v1, v2, v3, v4, v5, v6, v7, v8] [vI x0, vL x1, vL x2] I = runs cal 255 29 [v0, v1, v2, v3, v4, v5, v6, v7, v8] [vL x0, vL x1, vL x2] I := runs_to (ins_of mI_255 (by rfl)) rfl rfl
theorem r255_29 : runs cal 255 29 [v0, v1, v2, v3, v4, v5, v6, v7, v8] [vL x0, vL x1, vL x2] I = (cal 142 [vL x2, vL x1, vL x0] I).bind (fun q => runs cal 255 32 [v0, v1, v2, v3, v4, v5, v6, v7, v8] (pushR q.1 []) q.2) := st_call (st := true) (ins_of mI_255 (by rfl)) mC_255 mr_11_121 (by decide) mS_142 mN_142 rfl (Nat.le_of_ble_eq_true rfl) rfl rfl (Or.inl rfl) (Or.inl (wid_255.trans wid_142.symm))
theorem r255_32 : runs cal 255 32 [v0, v1, v2, v3, v4, v5, v6, v7, v8] [vI x0] I = if x0 = 0 then runs cal 255 35 [v0, v1, v2, v3, v4, v5, v6, v7, v8] [] I else runs cal 255 42 [v0, v1, v2, v3, v4, v5, v6, v7, v8] [] I := st_if_ne (ins_of mI_255 (by rfl)) (by decide)
theorem r255_35 : runs cal 255 35 [vR 70, v1, v2, v3, v4, v5, v6, v7, v8] [] I = runs cal 255 36 [vR 70, v1, v2, v3, v4, v5, v6, v7, v8] [vR 70] I := runs_to (ins_of mI_255 (by rfl)) rfl rfl
theorem r255_36 : runs cal 255 36 [v0, v1, v2, v3, v4, v5, v6, v7, v8] [vR 70] I = runs cal 255 38 [v0, v1, v2, v3, v4, v5, v6, v7, v8] [vI (-2), vR 70] I := runs_to (ins_of mI_255 (by rfl)) rfl rfl
theorem r255_38 : runs cal 255 38 [v0, v1, v2, v3, v4, v5, v6, v7, v8] [vI x0, vR 70] I = (cal 143 [vR 70, vI x0] I).bind (fun q => runs cal 255 41 [v0, v1, v2, v3, v4, v5, v6, v7, v8] (pushR q.1 []) q.2) := st_call (st := false) (ins_of mI_255 (by rfl)) mC_255 mr_11_251 (by decide) mS_143 mN_143 rfl (Nat.le_of_ble_eq_true rfl) rfl rfl (Or.inr ⟨_, _, rfl, rcv mC_143 rfl wid_255 (by decide +kernel)⟩) (Or.inl (wid_255.trans wid_143.symm))
theorem r255_41 : runs cal 255 41 [v0, v1, v2, v3, v4, v5, v6, v7, v8] [vI x0] I = some (some (vI x0), I) := st_ret (q := some (vI x0)) (k := 0) (ins_of mI_255 (by rfl)) rfl (by decide) mR_255 rfl trivial
theorem r255_42 : runs cal 255 42 [vR 70, v1, v2, v3, v4, v5, v6, v7, v8] [] I = runs cal 255 43 [vR 70, v1, v2, v3, v4, v5, v6, v7, v8] [vR 70] I := runs_to (ins_of mI_255 (by rfl)) rfl rfl
theorem r255_43 : runs cal 255 43 [v0, v1, v2, v3, v4, v5, v6, v7, v8] [vR 70] I = runs cal 255 45 [v0, v1, v2, v3, v4, v5, v6, v7, v8] [vI (40), vR 70] I := runs_to (ins_of mI_255 (by rfl)) rfl rfl
theorem r255_45 : runs cal 255 45 [v0, v1, v2, v3, v4, v5, v6, v7, v8] [vI x0, vR 70] I = (cal 253 [vR 70, vI x0] I).bind (fun q => runs cal 255 48 [v0, v1, v2, v3, v4, v5, v6, v7, v8] (pushR q.1 []) q.2) := st_call (st := false) (ins_of mI_255 (by rfl)) mC_255 mr_11_452 (by decide) mS_253 mN_253 rfl (Nat.le_of_ble_eq_true rfl) rfl rfl (Or.inr ⟨_, _, rfl, rcv mC_253 rfl wid_255 (by decide +kernel)⟩) (Or.inl (wid_255.trans wid_253.symm))
theorem r255_48 : runs cal 255 48 [vR 70, v1, v2, v3, v4, v5, v6, v7, v8] [] I = runs cal 255 49 [vR 70, v1, v2, v3, v4, v5, v6, v7, v8] [vR 70] I := runs_to (ins_of mI_255 (by rfl)) rfl rfl
theorem r255_49 : runs cal 255 49 [v0, v1, v2, v3, v4, v5, v6, v7, v8] [vR 70] I = runs cal 255 52 [v0, v1, v2, v3, v4, v5, v6, v7, v8] [vI (I 70 37)] I := st_getI (ins_of mI_255 (by rfl)) mC_255 (by decide) fr_11_441 cT_70 (wdc wid_255 wd_70) (Or.inl rfl)
theorem r255_52 : runs cal 255 52 [v0, v1, v2, v3, v4, v5, v6, v7, v8] [vI x0] I = runs cal 255 53 [v0, v1, v2, v3, v4, v5, v6, v7, v8] [vI (-1), vI x0] I := runs_to (ins_of mI_255 (by rfl)) rfl rfl
theorem r255_53 : runs cal 255 53 [v0, v1, v2, v3, v4, v5, v6, v7, v8] [vI x0, vI x1] I = if x1 = x0 then runs cal 255 56 [v0, v1, v2, v3, v4, v5, v6, v7, v8] [] I else runs cal 255 60 [v0, v1, v2, v3, v4, v5, v6, v7, v8] [] I := st_cmp_ne (ins_of mI_255 (by rfl)) (by decide)
theorem r255_56 : runs cal 255 56 [v0, v1, v2, v3, v4, v5, v6, v7, v8] [] I = runs cal 255 57 [v0, v1, v2, v3, v4, v5, v6, v7, v8] [vI (0)] I := runs_to (ins_of mI_255 (by rfl)) rfl rfl
theorem r255_57 : runs cal 255 57 [v0, v1, v2, v3, v4, v5, v6, v7, v8] [vI x0] I = runs cal 255 61 [v0, v1, v2, v3, v4, v5, v6, v7, v8] [vI x0] I := st_goto (ins_of mI_255 (by rfl)) (by decide)
theorem r255_60 : runs cal 255 60 [v0, v1, vI w, v3, v4, v5, v6, v7, v8] [] I = runs cal 255 61 [v0, v1, vI w, v3, v4, v5, v6, v7, v8] [vI w] I := runs_to (ins_of mI_255 (by rfl)) rfl rfl
theorem r255_61 : runs cal 255 61 [v0, v1, v2, vI u, v4, v5, v6, v7, v8] [vI x0] I = runs cal 255 63 [v0, v1, v2, vI u, vI x0, v5, v6, v7, v8] [] I := runs_to (ins_of mI_255 (by rfl)) rfl rfl
theorem r255_63 : runs cal 255 63 [vR 70, v1, v2, v3, v4, v5, v6, v7, v8] [] I = runs cal 255 64 [vR 70, v1, v2, v3, v4, v5, v6, v7, v8] [vR 70] I := runs_to (ins_of mI_255 (by rfl)) rfl rfl
theorem r255_64 : runs cal 255 64 [v0, v1, v2, v3, v4, v5, v6, v7, v8] [vR 70] I = runs cal 255 65 [v0, v1, v2, v3, v4, v5, v6, v7, v8] [vI (2), vR 70] I := runs_to (ins_of mI_255 (by rfl)) rfl rfl
theorem r255_65 : runs cal 255 65 [v0, v1, v2, v3, v4, v5, v6, v7, v8] [vI x0, vR 70] I = runs cal 255 66 [v0, v1, v2, v3, v4, v5, v6, v7, v8] [vL 0, vI x0, vR 70] I := runs_to (ins_of mI_255 (by rfl)) rfl rfl
theorem r255_66 : runs cal 255 66 [v0, v1, v2, v3, v4, v5, v6, v7, v8] [vL x0, vI x1, vR 70] I = (cal 146 [vR 70, vI x1, vL x0] I).bind (fun q => runs cal 255 69 [v0, v1, v2, v3, v4, v5, v6, v7, v8] (pushR q.1 []) q.2) := st_call (st := false) (ins_of mI_255 (by rfl)) mC_255 mr_11_67 (by decide) mS_146 mN_146 rfl (Nat.le_of_ble_eq_true rfl) rfl rfl (Or.inr ⟨_, _, rfl, rcv mC_146 rfl wid_255 (by decide +kernel)⟩) (Or.inl (wid_255.trans wid_146.symm))
theorem r255_69 : runs cal 255 69 [vR 70, v1, v2, v3, v4, v5, v6, v7, v8] [] I = runs cal 255 70 [vR 70, v1, v2, v3, v4, v5, v6, v7, v8] [vR 70] I := runs_to (ins_of mI_255 (by rfl)) rfl rfl
theorem r255_70 : runs cal 255 70 [v0, v1, v2, v3, v4, v5, v6, v7, v8] [vR 70] I = runs cal 255 71 [v0, v1, v2, v3, v4, v5, v6, v7, v8] [vI (3), vR 70] I := runs_to (ins_of mI_255 (by rfl)) rfl rfl
theorem r255_71 : runs cal 255 71 [v0, v1, v2, v3, v4, v5, v6, v7, v8] [vI x0, vR 70] I = runs cal 255 72 [v0, v1, v2, v3, v4, v5, v6, v7, v8] [vL 1, vI x0, vR 70] I := runs_to (ins_of mI_255 (by rfl)) rfl rfl
theorem r255_72 : runs cal 255 72 [v0, v1, v2, v3, v4, v5, v6, v7, v8] [vL x0, vI x1, vR 70] I = (cal 146 [vR 70, vI x1, vL x0] I).bind (fun q => runs cal 255 75 [v0, v1, v2, v3, v4, v5, v6, v7, v8] (pushR q.1 []) q.2) := st_call (st := false) (ins_of mI_255 (by rfl)) mC_255 mr_11_67 (by decide) mS_146 mN_146 rfl (Nat.le_of_ble_eq_true rfl) rfl rfl (Or.inr ⟨_, _, rfl, rcv mC_146 rfl wid_255 (by decide +kernel)⟩) (Or.inl (wid_255.trans wid_146.symm))
theorem r255_75 : runs cal 255 75 [v0, v1, v2, v3, v4, v5, v6, v7, v8] [] I = runs cal 255 76 [v0, v1, v2, v3, v4, v5, v6, v7, v8] [vL 1] I := runs_to (ins_of mI_255 (by rfl)) rfl rfl
theorem r255_76 : runs cal 255 76 [v0, v1, v2, v3, vI u, v5, v6, v7, v8] [vL x0] I = runs cal 255 78 [v0, v1, v2, v3, vI u, vL x0, vR 0, v7, v8] [] I := runs_to (ins_of mI_255 (by rfl)) rfl rfl
theorem r255_78 : runs cal 255 78 [v0, v1, v2, v3, v4, v5, v6, v7, v8] [] I = runs cal 255 79 [v0, v1, v2, v3, v4, v5, v6, v7, v8] [vI (0)] I := runs_to (ins_of mI_255 (by rfl)) rfl rfl
theorem r255_79 : runs cal 255 79 [v0, v1, v2, v3, v4, v5, v6, v7, v8] [vI x0] I = runs cal 255 81 [v0, v1, v2, v3, v4, v5, kill v6, vI x0, v8] [] I := runs_to (ins_of mI_255 (by rfl)) rfl rfl
theorem r255_81 : runs cal 255 81 [v0, v1, v2, v3, v4, v5, v6, vI w, v8] [] I = runs cal 255 83 [v0, v1, v2, v3, v4, v5, v6, vI w, v8] [vI w] I := runs_to (ins_of mI_255 (by rfl)) rfl rfl
theorem r255_83 : runs cal 255 83 [v0, vI w, v2, v3, v4, v5, v6, v7, v8] [vI x0] I = runs cal 255 84 [v0, vI w, v2, v3, v4, v5, v6, v7, v8] [vI w, vI x0] I := runs_to (ins_of mI_255 (by rfl)) rfl rfl
theorem r255_84 : runs cal 255 84 [v0, v1, v2, v3, v4, v5, v6, v7, v8] [vI x0, vI x1] I = if x0 < x1 then runs cal 255 188 [v0, v1, v2, v3, v4, v5, v6, v7, v8] [] I else runs cal 255 87 [v0, v1, v2, v3, v4, v5, v6, v7, v8] [] I := st_cmp_gt (ins_of mI_255 (by rfl)) (by decide)
theorem r255_87 : runs cal 255 87 [vR 70, v1, v2, v3, v4, v5, v6, v7, v8] [] I = runs cal 255 88 [vR 70, v1, v2, v3, v4, v5, v6, v7, v8] [vR 70] I := runs_to (ins_of mI_255 (by rfl)) rfl rfl
theorem r255_88 : runs cal 255 88 [v0, v1, v2, v3, v4, v5, v6, v7, v8] [vR 70] I = runs cal 255 90 [v0, v1, v2, v3, v4, v5, v6, v7, v8] [vI (7), vR 70] I := runs_to (ins_of mI_255 (by rfl)) rfl rfl
theorem r255_90 : runs cal 255 90 [v0, v1, v2, v3, v4, v5, v6, vI w, v8] [vI x0, vR 70] I = runs cal 255 92 [v0, v1, v2, v3, v4, v5, v6, vI w, v8] [vI w, vI x0, vR 70] I := runs_to (ins_of mI_255 (by rfl)) rfl rfl
theorem r255_92 : runs cal 255 92 [v0, v1, v2, vI w, v4, v5, v6, v7, v8] [vI x0, vI x1, vR 70] I = runs cal 255 93 [v0, v1, v2, vI w, v4, v5, v6, v7, v8] [vI w, vI x0, vI x1, vR 70] I := runs_to (ins_of mI_255 (by rfl)) rfl rfl
theorem r255_93 : runs cal 255 93 [v0, v1, v2, v3, v4, v5, v6, v7, v8] [vI x0, vI x1, vI x2, vR 70] I = if x1 < x0 then runs cal 255 96 [v0, v1, v2, v3, v4, v5, v6, v7, v8] [vI x2, vR 70] I else runs cal 255 100 [v0, v1, v2, v3, v4, v5, v6, v7, v8] [vI x2, vR 70] I := st_cmp_ge (ins_of mI_255 (by rfl)) (by decide)
theorem r255_96 : runs cal 255 96 [v0, v1, v2, v3, v4, v5, v6, v7, v8] [vI x0, vR 70] I = runs cal 255 97 [v0, v1, v2, v3, v4, v5, v6, v7, v8] [vL 0, vI x0, vR 70] I := runs_to (ins_of mI_255 (by rfl)) rfl rfl
theorem r255_97 : runs cal 255 97 [v0, v1, v2, v3, v4, v5, v6, v7, v8] [vL x0, vI x1, vR 70] I = runs cal 255 102 [v0, v1, v2, v3, v4, v5, v6, v7, v8] [vL x0, vI x1, vR 70] I := st_goto (ins_of mI_255 (by rfl)) (by decide)
theorem r255_100 : runs cal 255 100 [v0, v1, v2, v3, v4, vL w, v6, v7, v8] [vI x0, vR 70] I = runs cal 255 102 [v0, v1, v2, v3, v4, vL w, v6, v7, v8] [vL w, vI x0, vR 70] I := runs_to (ins_of mI_255 (by rfl)) rfl rfl
theorem r255_102 : runs cal 255 102 [v0, v1, v2, v3, v4, v5, v6, v7, v8] [vL x0, vI x1, vR 70] I = (cal 146 [vR 70, vI x1, vL x0] I).bind (fun q => runs cal 255 105 [v0, v1, v2, v3, v4, v5, v6, v7, v8] (pushR q.1 []) q.2) := st_call (st := false) (ins_of mI_255 (by rfl)) mC_255 mr_11_67 (by decide) mS_146 mN_146 rfl (Nat.le_of_ble_eq_true rfl) rfl rfl (Or.inr ⟨_, _, rfl, rcv mC_146 rfl wid_255 (by decide +kernel)⟩) (Or.inl (wid_255.trans wid_146.symm))
theorem r255_105 : runs cal 255 105 [v0, v1, v2, v3, v4, v5, v6, v7, v8] [] I = runs cal 255 106 [v0, v1, v2, v3, v4, v5, v6, v7, v8] [vI (0)] I := runs_to (ins_of mI_255 (by rfl)) rfl rfl
theorem r255_106 : runs cal 255 106 [v0, v1, v2, v3, v4, v5, v6, vI u, v8] [vI x0] I = runs cal 255 108 [v0, v1, v2, v3, v4, v5, v6, vI u, vI x0] [] I := runs_to (ins_of mI_255 (by rfl)) rfl rfl
theorem r255_108 : runs cal 255 108 [v0, v1, v2, v3, v4, v5, v6, v7, vI w] [] I = runs cal 255 110 [v0, v1, v2, v3, v4, v5, v6, v7, vI w] [vI w] I := runs_to (ins_of mI_255 (by rfl)) rfl rfl
theorem r255_110 : runs cal 255 110 [v0, vI w, v2, v3, v4, v5, v6, v7, v8] [vI x0] I = runs cal 255 111 [v0, vI w, v2, v3, v4, v5, v6, v7, v8] [vI w, vI x0] I := runs_to (ins_of mI_255 (by rfl)) rfl rfl
theorem r255_111 : runs cal 255 111 [v0, v1, v2, v3, v4, v5, v6, v7, v8] [vI x0, vI x1] I = if x1 < x0 then runs cal 255 114 [v0, v1, v2, v3, v4, v5, v6, v7, v8] [] I else runs cal 255 145 [v0, v1, v2, v3, v4, v5, v6, v7, v8] [] I := st_cmp_ge (ins_of mI_255 (by rfl)) (by decide)
theorem r255_114 : runs cal 255 114 [vR 70, v1, v2, v3, v4, v5, v6, v7, v8] [] I = runs cal 255 115 [vR 70, v1, v2, v3, v4, v5, v6, v7, v8] [vR 70] I := runs_to (ins_of mI_255 (by rfl)) rfl rfl
theorem r255_115 : runs cal 255 115 [v0, v1, v2, v3, v4, v5, v6, v7, v8] [vR 70] I = runs cal 255 117 [v0, v1, v2, v3, v4, v5, v6, v7, v8] [vI (7), vR 70] I := runs_to (ins_of mI_255 (by rfl)) rfl rfl
theorem r255_117 : runs cal 255 117 [v0, v1, v2, v3, v4, v5, v6, v7, vI w] [vI x0, vR 70] I = runs cal 255 119 [v0, v1, v2, v3, v4, v5, v6, v7, vI w] [vI w, vI x0, vR 70] I := runs_to (ins_of mI_255 (by rfl)) rfl rfl
theorem r255_119 : runs cal 255 119 [v0, v1, v2, v3, v4, v5, v6, vI w, v8] [vI x0, vI x1, vR 70] I = runs cal 255 121 [v0, v1, v2, v3, v4, v5, v6, vI w, v8] [vI w, vI x0, vI x1, vR 70] I := runs_to (ins_of mI_255 (by rfl)) rfl rfl
theorem r255_121 : runs cal 255 121 [v0, v1, v2, v3, v4, v5, v6, v7, v8] [vI x0, vI x1, vI x2, vR 70] I = if x1 < x0 then runs cal 255 124 [v0, v1, v2, v3, v4, v5, v6, v7, v8] [vI x2, vR 70] I else runs cal 255 130 [v0, v1, v2, v3, v4, v5, v6, v7, v8] [vI x2, vR 70] I := st_cmp_ge (ins_of mI_255 (by rfl)) (by decide)
theorem r255_124 : runs cal 255 124 [v0, v1, v2, v3, vI w, v5, v6, v7, v8] [vI x0, vR 70] I = runs cal 255 126 [v0, v1, v2, v3, vI w, v5, v6, v7, v8] [vI w, vI x0, vR 70] I := runs_to (ins_of mI_255 (by rfl)) rfl rfl
theorem r255_126 : runs cal 255 126 [v0, v1, v2, v3, v4, v5, v6, v7, v8] [vI x0, vI x1, vR 70] I = runs cal 255 127 [v0, v1, v2, v3, v4, v5, v6, v7, v8] [vL x0, vI x1, vR 70] I := runs_to (ins_of mI_255 (by rfl)) rfl rfl
theorem r255_127 : runs cal 255 127 [v0, v1, v2, v3, v4, v5, v6, v7, v8] [vL x0, vI x1, vR 70] I = runs cal 255 136 [v0, v1, v2, v3, v4, v5, v6, v7, v8] [vL x0, vI x1, vR 70] I := st_goto (ins_of mI_255 (by rfl)) (by decide)
theorem r255_130 : runs cal 255 130 [v0, v1, v2, v3, v4, v5, v6, v7, v8] [vI x0, vR 70] I = runs cal 255 132 [v0, v1, v2, v3, v4, v5, v6, v7, v8] [vI (10), vI x0, vR 70] I := runs_to (ins_of mI_255 (by rfl)) rfl rfl
theorem r255_132 : runs cal 255 132 [v0, v1, v2, v3, vI w, v5, v6, v7, v8] [vI x0, vI x1, vR 70] I = runs cal 255 134 [v0, v1, v2, v3, vI w, v5, v6, v7, v8] [vI w, vI x0, vI x1, vR 70] I := runs_to (ins_of mI_255 (by rfl)) rfl rfl
theorem r255_134 : runs cal 255 134 [v0, v1, v2, v3, v4, v5, v6, v7, v8] [vI x0, vI x1, vI x2, vR 70] I = runs cal 255 135 [v0, v1, v2, v3, v4, v5, v6, v7, v8] [vI (isub x1 x0), vI x2, vR 70] I := runs_to (ins_of mI_255 (by rfl)) rfl rfl
theorem r255_135 : runs cal 255 135 [v0, v1, v2, v3, v4, v5, v6, v7, v8] [vI x0, vI x1, vR 70] I = runs cal 255 136 [v0, v1, v2, v3, v4, v5, v6, v7, v8] [vL x0, vI x1, vR 70] I := runs_to (ins_of mI_255 (by rfl)) rfl rfl
theorem r255_136 : runs cal 255 136 [v0, v1, v2, v3, v4, v5, v6, v7, v8] [vL x0, vI x1, vR 70] I = (cal 149 [vR 70, vI x1, vL x0] I).bind (fun q => runs cal 255 139 [v0, v1, v2, v3, v4, v5, v6, v7, v8] (pushR q.1 []) q.2) := st_call (st := false) (ins_of mI_255 (by rfl)) mC_255 mr_11_97 (by decide) mS_149 mN_149 rfl (Nat.le_of_ble_eq_true rfl) rfl rfl (Or.inr ⟨_, _, rfl, rcv mC_149 rfl wid_255 (by decide +kernel)⟩) (Or.inl (wid_255.trans wid_149.symm))
theorem r255_139 : runs cal 255 139 [v0, v1, v2, v3, v4, v5, v6, vI u, vI w] [] I = runs cal 255 142 [v0, v1, v2, v3, v4, v5, v6, vI u, vI (iadd w (1))] [] I := runs_to (ins_of mI_255 (by rfl)) rfl rfl
theorem r255_142 : runs cal 255 142 [v0, v1, v2, v3, v4, v5, v6, v7, v8] [] I = runs cal 255 108 [v0, v1, v2, v3, v4, v5, v6, v7, v8] [] I := st_goto (ins_of mI_255 (by rfl)) (by decide)
theorem r255_145 : runs cal 255 145 [vR 70, v1, v2, v3, v4, v5, v6, v7, v8] [] I = runs cal 255 146 [vR 70, v1, v2, v3, v4, v5, v6, v7, v8] [vR 70] I := runs_to (ins_of mI_255 (by rfl)) rfl rfl
theorem r255_146 : runs cal 255 146 [v0, v1, v2, v3, v4, v5, v6, v7, v8] [vR 70] I = runs cal 255 147 [v0, v1, v2, v3, v4, v5, v6, v7, v8] [vI (2), vR 70] I := runs_to (ins_of mI_255 (by rfl)) rfl rfl
theorem r255_147 : runs cal 255 147 [v0, v1, v2, v3, v4, v5, v6, v7, v8] [vI x0, vR 70] I = runs cal 255 149 [v0, v1, v2, v3, v4, v5, v6, v7, v8] [vI (7), vI x0, vR 70] I := runs_to (ins_of mI_255 (by rfl)) rfl rfl
theorem r255_149 : runs cal 255 149 [v0, v1, v2, v3, v4, v5, v6, v7, v8] [vI x0, vI x1, vR 70] I = (cal 151 [vR 70, vI x1, vI x0] I).bind (fun q => runs cal 255 152 [v0, v1, v2, v3, v4, v5, v6, v7, v8] (pushR q.1 []) q.2) := st_call (st := false) (ins_of mI_255 (by rfl)) mC_255 mr_11_457 (by decide) mS_151 mN_151 rfl (Nat.le_of_ble_eq_true rfl) rfl rfl (Or.inr ⟨_, _, rfl, rcv mC_151 rfl wid_255 (by decide +kernel)⟩) (Or.inl (wid_255.trans wid_151.symm))
theorem r255_152 : runs cal 255 152 [v0, v1, v2, v3, v4, vL w, v6, v7, v8] [] I = runs cal 255 154 [v0, v1, v2, v3, v4, vL w, v6, v7, v8] [vL w] I := runs_to (ins_of mI_255 (by rfl)) rfl rfl
theorem r255_154 : runs cal 255 154 [v0, vI w, v2, v3, v4, v5, v6, v7, v8] [vL x0] I = runs cal 255 155 [v0, vI w, v2, v3, v4, v5, v6, v7, v8] [vI w, vL x0] I := runs_to (ins_of mI_255 (by rfl)) rfl rfl
theorem r255_155 : runs cal 255 155 [v0, v1, v2, v3, v4, v5, v6, vI w, v8] [vI x0, vL x1] I = runs cal 255 157 [v0, v1, v2, v3, v4, v5, v6, vI w, v8] [vI w, vI x0, vL x1] I := runs_to (ins_of mI_255 (by rfl)) rfl rfl
theorem r255_157 : runs cal 255 157 [v0, v1, v2, v3, v4, v5, v6, v7, v8] [vI x0, vI x1, vL x2] I = runs cal 255 158 [v0, v1, v2, v3, v4, v5, v6, v7, v8] [vI (isub x1 x0), vL x2] I := runs_to (ins_of mI_255 (by rfl)) rfl rfl
theorem r255_158 : runs cal 255 158 [v0, v1, v2, v3, v4, v5, v6, v7, v8] [vI x0, vL x1] I = runs cal 255 159 [v0, v1, v2, v3, v4, v5, v6, v7, v8] [vL x0, vL x1] I := runs_to (ins_of mI_255 (by rfl)) rfl rfl
theorem r255_159 : runs cal 255 159 [v0, v1, v2, v3, v4, v5, v6, v7, v8] [vL x0, vL x1] I = runs cal 255 160 [v0, v1, v2, v3, v4, v5, v6, v7, v8] [vL (lmul x1 x0)] I := runs_to (ins_of mI_255 (by rfl)) rfl rfl
theorem r255_160 : runs cal 255 160 [v0, v1, v2, v3, v4, v5, v6, vI w, v8] [vL x0] I = runs cal 255 162 [v0, v1, v2, v3, v4, v5, v6, vI w, v8] [vI w, vL x0] I := runs_to (ins_of mI_255 (by rfl)) rfl rfl
theorem r255_162 : runs cal 255 162 [v0, v1, v2, v3, v4, v5, v6, v7, v8] [vI x0, vL x1] I = runs cal 255 163 [v0, v1, v2, v3, v4, v5, v6, v7, v8] [vI (1), vI x0, vL x1] I := runs_to (ins_of mI_255 (by rfl)) rfl rfl
theorem r255_163 : runs cal 255 163 [v0, v1, v2, v3, v4, v5, v6, v7, v8] [vI x0, vI x1, vL x2] I = runs cal 255 164 [v0, v1, v2, v3, v4, v5, v6, v7, v8] [vI (iadd x1 x0), vL x2] I := runs_to (ins_of mI_255 (by rfl)) rfl rfl
theorem r255_164 : runs cal 255 164 [v0, v1, v2, v3, v4, v5, v6, v7, v8] [vI x0, vL x1] I = runs cal 255 165 [v0, v1, v2, v3, v4, v5, v6, v7, v8] [vL x0, vL x1] I := runs_to (ins_of mI_255 (by rfl)) rfl rfl
theorem r255_165 : runs cal 255 165 [v0, v1, v2, v3, v4, v5, v6, v7, v8] [vL x0, vL x1] I = if x0 = 0 then none else runs cal 255 166 [v0, v1, v2, v3, v4, v5, v6, v7, v8] [vL (ldiv x1 x0)] I := st_nzL (ins_of mI_255 (by rfl)) rfl rfl
theorem r255_166 : runs cal 255 166 [v0, v1, v2, v3, vI u, v5, v6, v7, v8] [vL x0] I = runs cal 255 168 [v0, v1, v2, v3, vI u, vL x0, vR 0, v7, v8] [] I := runs_to (ins_of mI_255 (by rfl)) rfl rfl
theorem r255_168 : runs cal 255 168 [v0, v1, v2, v3, v4, v5, v6, vI w, v8] [] I = runs cal 255 170 [v0, v1, v2, v3, v4, v5, v6, vI w, v8] [vI w] I := runs_to (ins_of mI_255 (by rfl)) rfl rfl
theorem r255_170 : runs cal 255 170 [v0, vI w, v2, v3, v4, v5, v6, v7, v8] [vI x0] I = runs cal 255 171 [v0, vI w, v2, v3, v4, v5, v6, v7, v8] [vI w, vI x0] I := runs_to (ins_of mI_255 (by rfl)) rfl rfl
theorem r255_171 : runs cal 255 171 [v0, v1, v2, v3, v4, v5, v6, v7, v8] [vI x0, vI x1] I = if x1 < x0 then runs cal 255 174 [v0, v1, v2, v3, v4, v5, v6, v7, v8] [] I else runs cal 255 182 [v0, v1, v2, v3, v4, v5, v6, v7, v8] [] I := st_cmp_ge (ins_of mI_255 (by rfl)) (by decide)
theorem r255_174 : runs cal 255 174 [vR 70, v1, v2, v3, v4, v5, v6, v7, v8] [] I = runs cal 255 175 [vR 70, v1, v2, v3, v4, v5, v6, v7, v8] [vR 70] I := runs_to (ins_of mI_255 (by rfl)) rfl rfl
theorem r255_175 : runs cal 255 175 [v0, v1, v2, v3, v4, v5, v6, v7, v8] [vR 70] I = runs cal 255 176 [v0, v1, v2, v3, v4, v5, v6, v7, v8] [vI (3), vR 70] I := runs_to (ins_of mI_255 (by rfl)) rfl rfl
theorem r255_176 : runs cal 255 176 [v0, v1, v2, v3, v4, v5, v6, v7, v8] [vI x0, vR 70] I = runs cal 255 179 [v0, v1, v2, v3, v4, v5, v6, v7, v8] [vL (10), vI x0, vR 70] I := runs_to (ins_of mI_255 (by rfl)) rfl (by simp only [stepI, ldk2, mC_255]; rfl)
theorem r255_179 : runs cal 255 179 [v0, v1, v2, v3, v4, v5, v6, v7, v8] [vL x0, vI x1, vR 70] I = (cal 149 [vR 70, vI x1, vL x0] I).bind (fun q => runs cal 255 182 [v0, v1, v2, v3, v4, v5, v6, v7, v8] (pushR q.1 []) q.2) := st_call (st := false) (ins_of mI_255 (by rfl)) mC_255 mr_11_97 (by decide) mS_149 mN_149 rfl (Nat.le_of_ble_eq_true rfl) rfl rfl (Or.inr ⟨_, _, rfl, rcv mC_149 rfl wid_255 (by decide +kernel)⟩) (Or.inl (wid_255.trans wid_149.symm))
theorem r255_182 : runs cal 255 182 [v0, v1, v2, v3, v4, v5, v6, vI w, v8] [] I = runs cal 255 185 [v0, v1, v2, v3, v4, v5, kill v6, vI (iadd w (1)), v8] [] I := runs_to (ins_of mI_255 (by rfl)) rfl rfl
theorem r255_185 : runs cal 255 185 [v0, v1, v2, v3, v4, v5, v6, v7, v8] [] I = runs cal 255 81 [v0, v1, v2, v3, v4, v5, v6, v7, v8] [] I := st_goto (ins_of mI_255 (by rfl)) (by decide)
theorem r255_188 : runs cal 255 188 [vR 70, v1, v2, v3, v4, v5, v6, v7, v8] [] I = runs cal 255 189 [vR 70, v1, v2, v3, v4, v5, v6, v7, v8] [vR 70] I := runs_to (ins_of mI_255 (by rfl)) rfl rfl
theorem r255_189 : runs cal 255 189 [v0, v1, v2, v3, v4, v5, v6, v7, v8] [vR 70] I = runs cal 255 190 [v0, v1, v2, v3, v4, v5, v6, v7, v8] [vI (2), vR 70] I := runs_to (ins_of mI_255 (by rfl)) rfl rfl
theorem r255_190 : runs cal 255 190 [v0, v1, v2, v3, v4, v5, v6, v7, v8] [vI x0, vR 70] I = runs cal 255 191 [v0, v1, v2, v3, v4, v5, v6, v7, v8] [vI (3), vI x0, vR 70] I := runs_to (ins_of mI_255 (by rfl)) rfl rfl
theorem r255_191 : runs cal 255 191 [v0, v1, v2, v3, v4, v5, v6, v7, v8] [vI x0, vI x1, vR 70] I = runs cal 255 192 [v0, v1, v2, v3, v4, v5, v6, v7, v8] [vI (0), vI x0, vI x1, vR 70] I := runs_to (ins_of mI_255 (by rfl)) rfl rfl
theorem r255_192 : runs cal 255 192 [v0, v1, v2, v3, v4, v5, v6, v7, v8] [vI x0, vI x1, vI x2, vR 70] I = (cal 158 [vR 70, vI x2, vI x1, vI x0] I).bind (fun q => runs cal 255 195 [v0, v1, v2, v3, v4, v5, v6, v7, v8] (pushR q.1 []) q.2) := st_call (st := false) (ins_of mI_255 (by rfl)) mC_255 mr_11_113 (by decide) mS_158 mN_158 rfl (Nat.le_of_ble_eq_true rfl) rfl rfl (Or.inr ⟨_, _, rfl, rcv mC_158 rfl wid_255 (by decide +kernel)⟩) (Or.inl (wid_255.trans wid_158.symm))
theorem r255_195 : runs cal 255 195 [v0, v1, v2, v3, v4, v5, v6, v7, v8] [] I = runs cal 255 196 [v0, v1, v2, v3, v4, v5, v6, v7, v8] [vI (1)] I := runs_to (ins_of mI_255 (by rfl)) rfl rfl
theorem r255_196 : runs cal 255 196 [v0, v1, v2, v3, v4, v5, v6, v7, v8] [vI x0] I = some (some (vI x0), I) := st_ret (q := some (vI x0)) (k := 0) (ins_of mI_255 (by rfl)) rfl (by decide) mR_255 rfl trivial
theorem r256_0 : runs cal 256 0 [v0, vI w] [] I = runs cal 256 1 [v0, vI w] [vI w] I := runs_to (ins_of mI_256 (by rfl)) rfl rfl
theorem r256_1 : runs cal 256 1 [v0, v1] [vI x0] I = if x0 = 0 then runs cal 256 4 [v0, v1] [] I else runs cal 256 11 [v0, v1] [] I := st_if_ne (ins_of mI_256 (by rfl)) (by decide)
theorem r256_4 : runs cal 256 4 [vR 70, v1] [] I = runs cal 256 5 [vR 70, v1] [vR 70] I := runs_to (ins_of mI_256 (by rfl)) rfl rfl
theorem r256_5 : runs cal 256 5 [v0, v1] [vR 70] I = runs cal 256 8 [v0, v1] [vI (I 70 6)] I := st_getI (ins_of mI_256 (by rfl)) mC_256 (by decide) fr_11_103 cT_70 (wdc wid_256 wd_70) (Or.inl rfl)
theorem r256_8 : runs cal 256 8 [v0, v1] [vI x0] I = runs cal 256 45 [v0, v1] [vI x0] I := st_goto (ins_of mI_256 (by rfl)) (by decide)
theorem r256_11 : runs cal 256 11 [v0, vI w] [] I = runs cal 256 12 [v0, vI w] [vI w] I := runs_to (ins_of mI_256 (by rfl)) rfl rfl
theorem r256_12 : runs cal 256 12 [v0, v1] [vI x0] I = runs cal 256 13 [v0, v1] [vI (1), vI x0] I := runs_to (ins_of mI_256 (by rfl)) rfl rfl
theorem r256_13 : runs cal 256 13 [v0, v1] [vI x0, vI x1] I = if x1 = x0 then runs cal 256 16 [v0, v1] [] I else runs cal 256 25 [v0, v1] [] I := st_cmp_ne (ins_of mI_256 (by rfl)) (by decide)
theorem r256_16 : runs cal 256 16 [vR 70, v1] [] I = runs cal 256 17 [vR 70, v1] [vR 70] I := runs_to (ins_of mI_256 (by rfl)) rfl rfl
theorem r256_17 : runs cal 256 17 [v0, v1] [vR 70] I = runs cal 256 20 [v0, v1] [vR 76] I := st_getR (ins_of mI_256 (by rfl)) mC_256 (by decide) fr_11_27 cT_70 (wdc wid_256 wd_70) rfl rfl
theorem r256_20 : runs cal 256 20 [v0, v1] [vR 76] I = runs cal 256 21 [v0, v1] [vI (0), vR 76] I := runs_to (ins_of mI_256 (by rfl)) rfl rfl
theorem r256_21 : runs cal 256 21 [v0, v1] [vI x0, vR 76] I = if 0 ≤ x0 ∧ x0 < 8 then runs cal 256 22 [v0, v1] [vI (I 76 x0)] I else none := st_iald (ins_of mI_256 (by rfl)) cT_76 (wdc wid_256 wd_76)
theorem r256_22 : runs cal 256 22 [v0, v1] [vI x0] I = runs cal 256 45 [v0, v1] [vI x0] I := st_goto (ins_of mI_256 (by rfl)) (by decide)
theorem r256_25 : runs cal 256 25 [v0, vI w] [] I = runs cal 256 26 [v0, vI w] [vI w] I := runs_to (ins_of mI_256 (by rfl)) rfl rfl
theorem r256_26 : runs cal 256 26 [v0, v1] [vI x0] I = runs cal 256 27 [v0, v1] [vI (2), vI x0] I := runs_to (ins_of mI_256 (by rfl)) rfl rfl
theorem r256_27 : runs cal 256 27 [v0, v1] [vI x0, vI x1] I = if x1 = x0 then runs cal 256 30 [v0, v1] [] I else runs cal 256 39 [v0, v1] [] I := st_cmp_ne (ins_of mI_256 (by rfl)) (by decide)
theorem r256_30 : runs cal 256 30 [vR 70, v1] [] I = runs cal 256 31 [vR 70, v1] [vR 70] I := runs_to (ins_of mI_256 (by rfl)) rfl rfl
theorem r256_31 : runs cal 256 31 [v0, v1] [vR 70] I = runs cal 256 34 [v0, v1] [vR 76] I := st_getR (ins_of mI_256 (by rfl)) mC_256 (by decide) fr_11_27 cT_70 (wdc wid_256 wd_70) rfl rfl
theorem r256_34 : runs cal 256 34 [v0, v1] [vR 76] I = runs cal 256 35 [v0, v1] [vI (1), vR 76] I := runs_to (ins_of mI_256 (by rfl)) rfl rfl
theorem r256_35 : runs cal 256 35 [v0, v1] [vI x0, vR 76] I = if 0 ≤ x0 ∧ x0 < 8 then runs cal 256 36 [v0, v1] [vI (I 76 x0)] I else none := st_iald (ins_of mI_256 (by rfl)) cT_76 (wdc wid_256 wd_76)
theorem r256_36 : runs cal 256 36 [v0, v1] [vI x0] I = runs cal 256 45 [v0, v1] [vI x0] I := st_goto (ins_of mI_256 (by rfl)) (by decide)
theorem r256_39 : runs cal 256 39 [vR 70, v1] [] I = runs cal 256 40 [vR 70, v1] [vR 70] I := runs_to (ins_of mI_256 (by rfl)) rfl rfl
theorem r256_40 : runs cal 256 40 [v0, v1] [vR 70] I = runs cal 256 42 [v0, v1] [vI (-2), vR 70] I := runs_to (ins_of mI_256 (by rfl)) rfl rfl
theorem r256_42 : runs cal 256 42 [v0, v1] [vI x0, vR 70] I = (cal 143 [vR 70, vI x0] I).bind (fun q => runs cal 256 45 [v0, v1] (pushR q.1 []) q.2) := st_call (st := false) (ins_of mI_256 (by rfl)) mC_256 mr_11_251 (by decide) mS_143 mN_143 rfl (Nat.le_of_ble_eq_true rfl) rfl rfl (Or.inr ⟨_, _, rfl, rcv mC_143 rfl wid_256 (by decide +kernel)⟩) (Or.inl (wid_256.trans wid_143.symm))
theorem r256_45 : runs cal 256 45 [v0, v1] [vI x0] I = some (some (vI x0), I) := st_ret (q := some (vI x0)) (k := 0) (ins_of mI_256 (by rfl)) rfl (by decide) mR_256 rfl trivial
theorem r257_0 : runs cal 257 0 [v0, vI w, v2] [] I = runs cal 257 1 [v0, vI w, v2] [vI w] I := runs_to (ins_of mI_257 (by rfl)) rfl rfl
theorem r257_1 : runs cal 257 1 [v0, v1, v2] [vI x0] I = runs cal 257 2 [v0, v1, v2] [vL x0] I := runs_to (ins_of mI_257 (by rfl)) rfl rfl
theorem r257_2 : runs cal 257 2 [v0, v1, v2] [vL x0] I = runs cal 257 3 [v0, v1, v2] [vL 0, vL x0] I := runs_to (ins_of mI_257 (by rfl)) rfl rfl
theorem r257_3 : runs cal 257 3 [v0, v1, v2] [vL x0, vL x1] I = runs cal 257 4 [v0, v1, v2] [vL 1, vL x0, vL x1] I := runs_to (ins_of mI_257 (by rfl)) rfl rfl
theorem r257_4 : runs cal 257 4 [v0, v1, v2] [vL x0, vL x1, vL x2] I = (cal 142 [vL x2, vL x1, vL x0] I).bind (fun q => runs cal 257 7 [v0, v1, v2] (pushR q.1 []) q.2) := st_call (st := true) (ins_of mI_257 (by rfl)) mC_257 mr_11_121 (by decide) mS_142 mN_142 rfl (Nat.le_of_ble_eq_true rfl) rfl rfl (Or.inl rfl) (Or.inl (wid_257.trans wid_142.symm))
theorem r257_7 : runs cal 257 7 [v0, v1, v2] [vI x0] I = if x0 = 0 then runs cal 257 14 [v0, v1, v2] [] I else runs cal 257 10 [v0, v1, v2] [] I := st_if_eq (ins_of mI_257 (by rfl)) (by decide)
theorem r257_10 : runs cal 257 10 [v0, v1, vI w] [] I = runs cal 257 11 [v0, v1, vI w] [vI w] I := runs_to (ins_of mI_257 (by rfl)) rfl rfl
theorem r257_11 : runs cal 257 11 [v0, v1, v2] [vI x0] I = if x0 < 0 then runs cal 257 14 [v0, v1, v2] [] I else runs cal 257 21 [v0, v1, v2] [] I := st_if_ge (ins_of mI_257 (by rfl)) (by decide)
theorem r257_14 : runs cal 257 14 [vR 70, v1, v2] [] I = runs cal 257 15 [vR 70, v1, v2] [vR 70] I := runs_to (ins_of mI_257 (by rfl)) rfl rfl
theorem r257_15 : runs cal 257 15 [v0, v1, v2] [vR 70] I = runs cal 257 17 [v0, v1, v2] [vI (-2), vR 70] I := runs_to (ins_of mI_257 (by rfl)) rfl rfl
theorem r257_17 : runs cal 257 17 [v0, v1, v2] [vI x0, vR 70] I = (cal 143 [vR 70, vI x0] I).bind (fun q => runs cal 257 20 [v0, v1, v2] (pushR q.1 []) q.2) := st_call (st := false) (ins_of mI_257 (by rfl)) mC_257 mr_11_251 (by decide) mS_143 mN_143 rfl (Nat.le_of_ble_eq_true rfl) rfl rfl (Or.inr ⟨_, _, rfl, rcv mC_143 rfl wid_257 (by decide +kernel)⟩) (Or.inl (wid_257.trans wid_143.symm))
theorem r257_20 : runs cal 257 20 [v0, v1, v2] [vI x0] I = some (some (vI x0), I) := st_ret (q := some (vI x0)) (k := 0) (ins_of mI_257 (by rfl)) rfl (by decide) mR_257 rfl trivial
theorem r257_21 : runs cal 257 21 [v0, v1, vI w] [] I = runs cal 257 22 [v0, v1, vI w] [vI w] I := runs_to (ins_of mI_257 (by rfl)) rfl rfl
theorem r257_22 : runs cal 257 22 [vR 70, v1, v2] [vI x0] I = runs cal 257 23 [vR 70, v1, v2] [vR 70, vI x0] I := runs_to (ins_of mI_257 (by rfl)) rfl rfl
theorem r257_23 : runs cal 257 23 [v0, v1, v2] [vR 70, vI x1] I = runs cal 257 26 [v0, v1, v2] [vR 76, vI x1] I := st_getR (ins_of mI_257 (by rfl)) mC_257 (by decide) fr_11_27 cT_70 (wdc wid_257 wd_70) rfl rfl
theorem r257_26 : runs cal 257 26 [v0, vI w, v2] [vR 76, vI x1] I = runs cal 257 27 [v0, vI w, v2] [vI w, vR 76, vI x1] I := runs_to (ins_of mI_257 (by rfl)) rfl rfl
theorem r257_27 : runs cal 257 27 [v0, v1, v2] [vI x0, vR 76, vI x2] I = if 0 ≤ x0 ∧ x0 < 8 then runs cal 257 28 [v0, v1, v2] [vI (I 76 x0), vI x2] I else none := st_iald (ins_of mI_257 (by rfl)) cT_76 (wdc wid_257 wd_76)
theorem r257_28 : runs cal 257 28 [v0, v1, v2] [vI x0, vI x1] I = if x1 < x0 then runs cal 257 31 [v0, v1, v2] [] I else runs cal 257 46 [v0, v1, v2] [] I := st_cmp_ge (ins_of mI_257 (by rfl)) (by decide)
theorem r257_31 : runs cal 257 31 [vR 70, v1, v2] [] I = runs cal 257 32 [vR 70, v1, v2] [vR 70] I := runs_to (ins_of mI_257 (by rfl)) rfl rfl
theorem r257_32 : runs cal 257 32 [v0, v1, v2] [vR 70] I = runs cal 257 35 [v0, v1, v2] [vR 75] I := st_getR (ins_of mI_257 (by rfl)) mC_257 (by decide) fr_11_23 cT_70 (wdc wid_257 wd_70) rfl rfl
theorem r257_35 : runs cal 257 35 [v0, v1, v2] [vR 75] I = runs cal 257 37 [v0, v1, v2] [vI (64), vR 75] I := runs_to (ins_of mI_257 (by rfl)) rfl rfl
theorem r257_37 : runs cal 257 37 [v0, vI w, v2] [vI x0, vR 75] I = runs cal 257 38 [v0, vI w, v2] [vI w, vI x0, vR 75] I := runs_to (ins_of mI_257 (by rfl)) rfl rfl
theorem r257_38 : runs cal 257 38 [v0, v1, v2] [vI x0, vI x1, vR 75] I = runs cal 257 39 [v0, v1, v2] [vI (imul x1 x0), vR 75] I := runs_to (ins_of mI_257 (by rfl)) rfl rfl
theorem r257_39 : runs cal 257 39 [v0, v1, vI w] [vI x0, vR 75] I = runs cal 257 40 [v0, v1, vI w] [vI w, vI x0, vR 75] I := runs_to (ins_of mI_257 (by rfl)) rfl rfl
theorem r257_40 : runs cal 257 40 [v0, v1, v2] [vI x0, vI x1, vR 75] I = runs cal 257 41 [v0, v1, v2] [vI (iadd x1 x0), vR 75] I := runs_to (ins_of mI_257 (by rfl)) rfl rfl
theorem r257_41 : runs cal 257 41 [v0, v1, v2] [vI x0, vR 75] I = if 0 ≤ x0 ∧ x0 < 512 then runs cal 257 42 [v0, v1, v2] [vL (I 75 x0)] I else none := st_lald (ins_of mI_257 (by rfl)) cT_75 (wdc wid_257 wd_75)
theorem r257_42 : runs cal 257 42 [v0, v1, v2] [vL x0] I = runs cal 257 43 [v0, v1, v2] [vI (l2i x0)] I := runs_to (ins_of mI_257 (by rfl)) rfl rfl
theorem r257_43 : runs cal 257 43 [v0, v1, v2] [vI x0] I = runs cal 257 47 [v0, v1, v2] [vI x0] I := st_goto (ins_of mI_257 (by rfl)) (by decide)
theorem r257_46 : runs cal 257 46 [v0, v1, v2] [] I = runs cal 257 47 [v0, v1, v2] [vI (-1)] I := runs_to (ins_of mI_257 (by rfl)) rfl rfl
theorem r257_47 : runs cal 257 47 [v0, v1, v2] [vI x0] I = some (some (vI x0), I) := st_ret (q := some (vI x0)) (k := 0) (ins_of mI_257 (by rfl)) rfl (by decide) mR_257 rfl trivial
theorem r258_0 : runs cal 258 0 [v0, vI w, v2] [] I = runs cal 258 1 [v0, vI w, v2] [vI w] I := runs_to (ins_of mI_258 (by rfl)) rfl rfl
theorem r258_1 : runs cal 258 1 [v0, v1, v2] [vI x0] I = runs cal 258 2 [v0, v1, v2] [vL x0] I := runs_to (ins_of mI_258 (by rfl)) rfl rfl
theorem r258_2 : runs cal 258 2 [v0, v1, v2] [vL x0] I = runs cal 258 3 [v0, v1, v2] [vL 0, vL x0] I := runs_to (ins_of mI_258 (by rfl)) rfl rfl
theorem r258_3 : runs cal 258 3 [v0, v1, v2] [vL x0, vL x1] I = runs cal 258 4 [v0, v1, v2] [vL 1, vL x0, vL x1] I := runs_to (ins_of mI_258 (by rfl)) rfl rfl
theorem r258_4 : runs cal 258 4 [v0, v1, v2] [vL x0, vL x1, vL x2] I = (cal 142 [vL x2, vL x1, vL x0] I).bind (fun q => runs cal 258 7 [v0, v1, v2] (pushR q.1 []) q.2) := st_call (st := true) (ins_of mI_258 (by rfl)) mC_258 mr_11_121 (by decide) mS_142 mN_142 rfl (Nat.le_of_ble_eq_true rfl) rfl rfl (Or.inl rfl) (Or.inl (wid_258.trans wid_142.symm))
theorem r258_7 : runs cal 258 7 [v0, v1, v2] [vI x0] I = if x0 = 0 then runs cal 258 10 [v0, v1, v2] [] I else runs cal 258 17 [v0, v1, v2] [] I := st_if_ne (ins_of mI_258 (by rfl)) (by decide)
theorem r258_10 : runs cal 258 10 [vR 70, v1, v2] [] I = runs cal 258 11 [vR 70, v1, v2] [vR 70] I := runs_to (ins_of mI_258 (by rfl)) rfl rfl
theorem r258_11 : runs cal 258 11 [v0, v1, v2] [vR 70] I = runs cal 258 13 [v0, v1, v2] [vI (-2), vR 70] I := runs_to (ins_of mI_258 (by rfl)) rfl rfl
theorem r258_13 : runs cal 258 13 [v0, v1, v2] [vI x0, vR 70] I = (cal 143 [vR 70, vI x0] I).bind (fun q => runs cal 258 16 [v0, v1, v2] (pushR q.1 []) q.2) := st_call (st := false) (ins_of mI_258 (by rfl)) mC_258 mr_11_251 (by decide) mS_143 mN_143 rfl (Nat.le_of_ble_eq_true rfl) rfl rfl (Or.inr ⟨_, _, rfl, rcv mC_143 rfl wid_258 (by decide +kernel)⟩) (Or.inl (wid_258.trans wid_143.symm))
theorem r258_16 : runs cal 258 16 [v0, v1, v2] [vI x0] I = some (some (vI x0), I) := st_ret (q := some (vI x0)) (k := 0) (ins_of mI_258 (by rfl)) rfl (by decide) mR_258 rfl trivial
theorem r258_17 : runs cal 258 17 [v0, v1, v2] [] I = runs cal 258 18 [v0, v1, v2] [vI (0)] I := runs_to (ins_of mI_258 (by rfl)) rfl rfl
theorem r258_18 : runs cal 258 18 [v0, vI u, v2] [vI x0] I = runs cal 258 19 [v0, vI u, vI x0] [] I := runs_to (ins_of mI_258 (by rfl)) rfl rfl
theorem r258_19 : runs cal 258 19 [v0, v1, vI w] [] I = runs cal 258 20 [v0, v1, vI w] [vI w] I := runs_to (ins_of mI_258 (by rfl)) rfl rfl
theorem r258_20 : runs cal 258 20 [v0, v1, v2] [vI x0] I = runs cal 258 22 [v0, v1, v2] [vI (110), vI x0] I := runs_to (ins_of mI_258 (by rfl)) rfl rfl
theorem r258_22 : runs cal 258 22 [v0, v1, v2] [vI x0, vI x1] I = if x1 < x0 then runs cal 258 25 [v0, v1, v2] [] I else runs cal 258 48 [v0, v1, v2] [] I := st_cmp_ge (ins_of mI_258 (by rfl)) (by decide)
theorem r258_25 : runs cal 258 25 [vR 70, v1, v2] [] I = runs cal 258 26 [vR 70, v1, v2] [vR 70] I := runs_to (ins_of mI_258 (by rfl)) rfl rfl
theorem r258_26 : runs cal 258 26 [v0, v1, v2] [vR 70] I = runs cal 258 29 [v0, v1, v2] [vR 72] I := st_getR (ins_of mI_258 (by rfl)) mC_258 (by decide) fr_11_13 cT_70 (wdc wid_258 wd_70) rfl rfl
theorem r258_29 : runs cal 258 29 [v0, v1, v2] [vR 72] I = runs cal 258 31 [v0, v1, v2] [vI (110), vR 72] I := runs_to (ins_of mI_258 (by rfl)) rfl rfl
theorem r258_31 : runs cal 258 31 [v0, vI w, v2] [vI x0, vR 72] I = runs cal 258 32 [v0, vI w, v2] [vI w, vI x0, vR 72] I := runs_to (ins_of mI_258 (by rfl)) rfl rfl
theorem r258_32 : runs cal 258 32 [v0, v1, v2] [vI x0, vI x1, vR 72] I = runs cal 258 33 [v0, v1, v2] [vI (imul x1 x0), vR 72] I := runs_to (ins_of mI_258 (by rfl)) rfl rfl
theorem r258_33 : runs cal 258 33 [v0, v1, vI w] [vI x0, vR 72] I = runs cal 258 34 [v0, v1, vI w] [vI w, vI x0, vR 72] I := runs_to (ins_of mI_258 (by rfl)) rfl rfl
theorem r258_34 : runs cal 258 34 [v0, v1, v2] [vI x0, vI x1, vR 72] I = runs cal 258 35 [v0, v1, v2] [vI (iadd x1 x0), vR 72] I := runs_to (ins_of mI_258 (by rfl)) rfl rfl
theorem r258_35 : runs cal 258 35 [vR 70, v1, v2] [vI x0, vR 72] I = runs cal 258 36 [vR 70, v1, v2] [vR 70, vI x0, vR 72] I := runs_to (ins_of mI_258 (by rfl)) rfl rfl
theorem r258_36 : runs cal 258 36 [v0, v1, v2] [vR 70, vI x1, vR 72] I = runs cal 258 39 [v0, v1, v2] [vR 71, vI x1, vR 72] I := st_getR (ins_of mI_258 (by rfl)) mC_258 (by decide) fr_11_7 cT_70 (wdc wid_258 wd_70) rfl rfl
theorem r258_39 : runs cal 258 39 [v0, v1, vI w] [vR 71, vI x1, vR 72] I = runs cal 258 40 [v0, v1, vI w] [vI w, vR 71, vI x1, vR 72] I := runs_to (ins_of mI_258 (by rfl)) rfl rfl
theorem r258_40 : runs cal 258 40 [v0, v1, v2] [vI x0, vR 71, vI x2, vR 72] I = if 0 ≤ x0 ∧ x0 < 110 then runs cal 258 41 [v0, v1, v2] [vI (I 71 x0), vI x2, vR 72] I else none := st_iald (ins_of mI_258 (by rfl)) cT_71 (wdc wid_258 wd_71)
theorem r258_41 : runs cal 258 41 [v0, v1, v2] [vI x0, vI x1, vR 72] I = if 0 ≤ x1 ∧ x1 < 220 then runs cal 258 42 [v0, v1, v2] [] (mset I 72 x1 x0) else none := st_iast (ins_of mI_258 (by rfl)) cT_72 (wdc wid_258 wd_72)
theorem r258_42 : runs cal 258 42 [v0, vI u, vI w] [] I = runs cal 258 45 [v0, vI u, vI (iadd w (1))] [] I := runs_to (ins_of mI_258 (by rfl)) rfl rfl
theorem r258_45 : runs cal 258 45 [v0, v1, v2] [] I = runs cal 258 19 [v0, v1, v2] [] I := st_goto (ins_of mI_258 (by rfl)) (by decide)
theorem r258_48 : runs cal 258 48 [vR 70, v1, v2] [] I = runs cal 258 49 [vR 70, v1, v2] [vR 70] I := runs_to (ins_of mI_258 (by rfl)) rfl rfl
theorem r258_49 : runs cal 258 49 [v0, v1, v2] [vR 70] I = runs cal 258 52 [v0, v1, v2] [vR 73] I := st_getR (ins_of mI_258 (by rfl)) mC_258 (by decide) fr_11_16 cT_70 (wdc wid_258 wd_70) rfl rfl
theorem r258_52 : runs cal 258 52 [v0, vI w, v2] [vR 73] I = runs cal 258 53 [v0, vI w, v2] [vI w, vR 73] I := runs_to (ins_of mI_258 (by rfl)) rfl rfl
theorem r258_53 : runs cal 258 53 [v0, v1, v2] [vI x0, vR 73] I = runs cal 258 54 [v0, v1, v2] [vI (1), vI x0, vR 73] I := runs_to (ins_of mI_258 (by rfl)) rfl rfl
theorem r258_54 : runs cal 258 54 [v0, v1, v2] [vI x0, vI x1, vR 73] I = if 0 ≤ x1 ∧ x1 < 2 ∧ (x0 = 0 ∨ x0 = 1) then runs cal 258 55 [v0, v1, v2] [] (mset I 73 x1 x0) else none := st_zast (ins_of mI_258 (by rfl)) cT_73 (wdc wid_258 wd_73)
theorem r258_55 : runs cal 258 55 [v0, v1, v2] [] I = runs cal 258 56 [v0, v1, v2] [vI (1)] I := runs_to (ins_of mI_258 (by rfl)) rfl rfl
theorem r258_56 : runs cal 258 56 [v0, v1, v2] [vI x0] I = some (some (vI x0), I) := st_ret (q := some (vI x0)) (k := 0) (ins_of mI_258 (by rfl)) rfl (by decide) mR_258 rfl trivial
theorem r259_0 : runs cal 259 0 [v0, vI w, v2] [] I = runs cal 259 1 [v0, vI w, v2] [vI w] I := runs_to (ins_of mI_259 (by rfl)) rfl rfl
theorem r259_1 : runs cal 259 1 [v0, v1, v2] [vI x0] I = runs cal 259 2 [v0, v1, v2] [vL x0] I := runs_to (ins_of mI_259 (by rfl)) rfl rfl
theorem r259_2 : runs cal 259 2 [v0, v1, v2] [vL x0] I = runs cal 259 3 [v0, v1, v2] [vL 0, vL x0] I := runs_to (ins_of mI_259 (by rfl)) rfl rfl
theorem r259_3 : runs cal 259 3 [v0, v1, v2] [vL x0, vL x1] I = runs cal 259 4 [v0, v1, v2] [vL 1, vL x0, vL x1] I := runs_to (ins_of mI_259 (by rfl)) rfl rfl
theorem r259_4 : runs cal 259 4 [v0, v1, v2] [vL x0, vL x1, vL x2] I = (cal 142 [vL x2, vL x1, vL x0] I).bind (fun q => runs cal 259 7 [v0, v1, v2] (pushR q.1 []) q.2) := st_call (st := true) (ins_of mI_259 (by rfl)) mC_259 mr_11_121 (by decide) mS_142 mN_142 rfl (Nat.le_of_ble_eq_true rfl) rfl rfl (Or.inl rfl) (Or.inl (wid_259.trans wid_142.symm))
theorem r259_7 : runs cal 259 7 [v0, v1, v2] [vI x0] I = if x0 = 0 then runs cal 259 10 [v0, v1, v2] [] I else runs cal 259 17 [v0, v1, v2] [] I := st_if_ne (ins_of mI_259 (by rfl)) (by decide)
theorem r259_10 : runs cal 259 10 [vR 70, v1, v2] [] I = runs cal 259 11 [vR 70, v1, v2] [vR 70] I := runs_to (ins_of mI_259 (by rfl)) rfl rfl
theorem r259_11 : runs cal 259 11 [v0, v1, v2] [vR 70] I = runs cal 259 13 [v0, v1, v2] [vI (-2), vR 70] I := runs_to (ins_of mI_259 (by rfl)) rfl rfl
theorem r259_13 : runs cal 259 13 [v0, v1, v2] [vI x0, vR 70] I = (cal 143 [vR 70, vI x0] I).bind (fun q => runs cal 259 16 [v0, v1, v2] (pushR q.1 []) q.2) := st_call (st := false) (ins_of mI_259 (by rfl)) mC_259 mr_11_251 (by decide) mS_143 mN_143 rfl (Nat.le_of_ble_eq_true rfl) rfl rfl (Or.inr ⟨_, _, rfl, rcv mC_143 rfl wid_259 (by decide +kernel)⟩) (Or.inl (wid_259.trans wid_143.symm))
theorem r259_16 : runs cal 259 16 [v0, v1, v2] [vI x0] I = some (some (vI x0), I) := st_ret (q := some (vI x0)) (k := 0) (ins_of mI_259 (by rfl)) rfl (by decide) mR_259 rfl trivial
theorem r259_17 : runs cal 259 17 [vR 70, v1, v2] [] I = runs cal 259 18 [vR 70, v1, v2] [vR 70] I := runs_to (ins_of mI_259 (by rfl)) rfl rfl
theorem r259_18 : runs cal 259 18 [v0, v1, v2] [vR 70] I = runs cal 259 21 [v0, v1, v2] [vR 73] I := st_getR (ins_of mI_259 (by rfl)) mC_259 (by decide) fr_11_16 cT_70 (wdc wid_259 wd_70) rfl rfl
theorem r259_21 : runs cal 259 21 [v0, vI w, v2] [vR 73] I = runs cal 259 22 [v0, vI w, v2] [vI w, vR 73] I := runs_to (ins_of mI_259 (by rfl)) rfl rfl
theorem r259_22 : runs cal 259 22 [v0, v1, v2] [vI x0, vR 73] I = if 0 ≤ x0 ∧ x0 < 2 then runs cal 259 23 [v0, v1, v2] [vI (I 73 x0)] I else none := st_zald (ins_of mI_259 (by rfl)) cT_73 (wdc wid_259 wd_73)
theorem r259_23 : runs cal 259 23 [v0, v1, v2] [vI x0] I = if x0 = 0 then runs cal 259 26 [v0, v1, v2] [] I else runs cal 259 31 [v0, v1, v2] [] I := st_if_ne (ins_of mI_259 (by rfl)) (by decide)
theorem r259_26 : runs cal 259 26 [vR 70, v1, v2] [] I = runs cal 259 27 [vR 70, v1, v2] [vR 70] I := runs_to (ins_of mI_259 (by rfl)) rfl rfl
theorem r259_27 : runs cal 259 27 [v0, v1, v2] [vR 70] I = (cal 144 [vR 70] I).bind (fun q => runs cal 259 30 [v0, v1, v2] (pushR q.1 []) q.2) := st_call (st := false) (ins_of mI_259 (by rfl)) mC_259 mr_11_242 (by decide) mS_144 mN_144 rfl (Nat.le_of_ble_eq_true rfl) rfl rfl (Or.inr ⟨_, _, rfl, rcv mC_144 rfl wid_259 (by decide +kernel)⟩) (Or.inl (wid_259.trans wid_144.symm))
theorem r259_30 : runs cal 259 30 [v0, v1, v2] [vI x0] I = some (some (vI x0), I) := st_ret (q := some (vI x0)) (k := 0) (ins_of mI_259 (by rfl)) rfl (by decide) mR_259 rfl trivial
theorem r259_31 : runs cal 259 31 [v0, v1, v2] [] I = runs cal 259 32 [v0, v1, v2] [vI (0)] I := runs_to (ins_of mI_259 (by rfl)) rfl rfl
theorem r259_32 : runs cal 259 32 [v0, vI u, v2] [vI x0] I = runs cal 259 33 [v0, vI u, vI x0] [] I := runs_to (ins_of mI_259 (by rfl)) rfl rfl
theorem r259_33 : runs cal 259 33 [v0, v1, vI w] [] I = runs cal 259 34 [v0, v1, vI w] [vI w] I := runs_to (ins_of mI_259 (by rfl)) rfl rfl
theorem r259_34 : runs cal 259 34 [v0, v1, v2] [vI x0] I = runs cal 259 36 [v0, v1, v2] [vI (110), vI x0] I := runs_to (ins_of mI_259 (by rfl)) rfl rfl
theorem r259_36 : runs cal 259 36 [v0, v1, v2] [vI x0, vI x1] I = if x1 < x0 then runs cal 259 39 [v0, v1, v2] [] I else runs cal 259 62 [v0, v1, v2] [] I := st_cmp_ge (ins_of mI_259 (by rfl)) (by decide)
theorem r259_39 : runs cal 259 39 [vR 70, v1, v2] [] I = runs cal 259 40 [vR 70, v1, v2] [vR 70] I := runs_to (ins_of mI_259 (by rfl)) rfl rfl
theorem r259_40 : runs cal 259 40 [v0, v1, v2] [vR 70] I = runs cal 259 43 [v0, v1, v2] [vR 71] I := st_getR (ins_of mI_259 (by rfl)) mC_259 (by decide) fr_11_7 cT_70 (wdc wid_259 wd_70) rfl rfl
theorem r259_43 : runs cal 259 43 [v0, v1, vI w] [vR 71] I = runs cal 259 44 [v0, v1, vI w] [vI w, vR 71] I := runs_to (ins_of mI_259 (by rfl)) rfl rfl
theorem r259_44 : runs cal 259 44 [vR 70, v1, v2] [vI x0, vR 71] I = runs cal 259 45 [vR 70, v1, v2] [vR 70, vI x0, vR 71] I := runs_to (ins_of mI_259 (by rfl)) rfl rfl
theorem r259_45 : runs cal 259 45 [v0, v1, v2] [vR 70, vI x1, vR 71] I = runs cal 259 48 [v0, v1, v2] [vR 72, vI x1, vR 71] I := st_getR (ins_of mI_259 (by rfl)) mC_259 (by decide) fr_11_13 cT_70 (wdc wid_259 wd_70) rfl rfl
theorem r259_48 : runs cal 259 48 [v0, v1, v2] [vR 72, vI x1, vR 71] I = runs cal 259 50 [v0, v1, v2] [vI (110), vR 72, vI x1, vR 71] I := runs_to (ins_of mI_259 (by rfl)) rfl rfl
theorem r259_50 : runs cal 259 50 [v0, vI w, v2] [vI x0, vR 72, vI x2, vR 71] I = runs cal 259 51 [v0, vI w, v2] [vI w, vI x0, vR 72, vI x2, vR 71] I := runs_to (ins_of mI_259 (by rfl)) rfl rfl
theorem r259_51 : runs cal 259 51 [v0, v1, v2] [vI x0, vI x1, vR 72, vI x3, vR 71] I = runs cal 259 52 [v0, v1, v2] [vI (imul x1 x0), vR 72, vI x3, vR 71] I := runs_to (ins_of mI_259 (by rfl)) rfl rfl
theorem r259_52 : runs cal 259 52 [v0, v1, vI w] [vI x0, vR 72, vI x2, vR 71] I = runs cal 259 53 [v0, v1, vI w] [vI w, vI x0, vR 72, vI x2, vR 71] I := runs_to (ins_of mI_259 (by rfl)) rfl rfl
theorem r259_53 : runs cal 259 53 [v0, v1, v2] [vI x0, vI x1, vR 72, vI x3, vR 71] I = runs cal 259 54 [v0, v1, v2] [vI (iadd x1 x0), vR 72, vI x3, vR 71] I := runs_to (ins_of mI_259 (by rfl)) rfl rfl
theorem r259_54 : runs cal 259 54 [v0, v1, v2] [vI x0, vR 72, vI x2, vR 71] I = if 0 ≤ x0 ∧ x0 < 220 then runs cal 259 55 [v0, v1, v2] [vI (I 72 x0), vI x2, vR 71] I else none := st_iald (ins_of mI_259 (by rfl)) cT_72 (wdc wid_259 wd_72)
theorem r259_55 : runs cal 259 55 [v0, v1, v2] [vI x0, vI x1, vR 71] I = if 0 ≤ x1 ∧ x1 < 110 then runs cal 259 56 [v0, v1, v2] [] (mset I 71 x1 x0) else none := st_iast (ins_of mI_259 (by rfl)) cT_71 (wdc wid_259 wd_71)
theorem r259_56 : runs cal 259 56 [v0, vI u, vI w] [] I = runs cal 259 59 [v0, vI u, vI (iadd w (1))] [] I := runs_to (ins_of mI_259 (by rfl)) rfl rfl
theorem r259_59 : runs cal 259 59 [v0, v1, v2] [] I = runs cal 259 33 [v0, v1, v2] [] I := st_goto (ins_of mI_259 (by rfl)) (by decide)
theorem r259_62 : runs cal 259 62 [v0, v1, v2] [] I = runs cal 259 63 [v0, v1, v2] [vI (1)] I := runs_to (ins_of mI_259 (by rfl)) rfl rfl
theorem r259_63 : runs cal 259 63 [v0, v1, v2] [vI x0] I = some (some (vI x0), I) := st_ret (q := some (vI x0)) (k := 0) (ins_of mI_259 (by rfl)) rfl (by decide) mR_259 rfl trivial
theorem r260_0 : runs cal 260 0 [v0, vI w] [] I = runs cal 260 1 [v0, vI w] [vI w] I := runs_to (ins_of mI_260 (by rfl)) rfl rfl
theorem r260_1 : runs cal 260 1 [v0, v1] [vI x0] I = runs cal 260 2 [v0, v1] [vL x0] I := runs_to (ins_of mI_260 (by rfl)) rfl rfl
theorem r260_2 : runs cal 260 2 [v0, v1] [vL x0] I = runs cal 260 3 [v0, v1] [vL 0, vL x0] I := runs_to (ins_of mI_260 (by rfl)) rfl rfl
theorem r260_3 : runs cal 260 3 [v0, v1] [vL x0, vL x1] I = runs cal 260 6 [v0, v1] [vL (2), vL x0, vL x1] I := runs_to (ins_of mI_260 (by rfl)) rfl (by simp only [stepI, ldk2, mC_260]; rfl)
theorem r260_6 : runs cal 260 6 [v0, v1] [vL x0, vL x1, vL x2] I = (cal 142 [vL x2, vL x1, vL x0] I).bind (fun q => runs cal 260 9 [v0, v1] (pushR q.1 []) q.2) := st_call (st := true) (ins_of mI_260 (by rfl)) mC_260 mr_11_121 (by decide) mS_142 mN_142 rfl (Nat.le_of_ble_eq_true rfl) rfl rfl (Or.inl rfl) (Or.inl (wid_260.trans wid_142.symm))
theorem r260_9 : runs cal 260 9 [v0, v1] [vI x0] I = if x0 = 0 then runs cal 260 21 [v0, v1] [] I else runs cal 260 12 [v0, v1] [] I := st_if_eq (ins_of mI_260 (by rfl)) (by decide)
theorem r260_12 : runs cal 260 12 [vR 70, v1] [] I = runs cal 260 13 [vR 70, v1] [vR 70] I := runs_to (ins_of mI_260 (by rfl)) rfl rfl
theorem r260_13 : runs cal 260 13 [v0, v1] [vR 70] I = runs cal 260 16 [v0, v1] [vR 74] I := st_getR (ins_of mI_260 (by rfl)) mC_260 (by decide) fr_11_20 cT_70 (wdc wid_260 wd_70) rfl rfl
theorem r260_16 : runs cal 260 16 [v0, vI w] [vR 74] I = runs cal 260 17 [v0, vI w] [vI w, vR 74] I := runs_to (ins_of mI_260 (by rfl)) rfl rfl
theorem r260_17 : runs cal 260 17 [v0, v1] [vI x0, vR 74] I = if 0 ≤ x0 ∧ x0 < 3 then runs cal 260 18 [v0, v1] [vI (I 74 x0)] I else none := st_iald (ins_of mI_260 (by rfl)) cT_74 (wdc wid_260 wd_74)
theorem r260_18 : runs cal 260 18 [v0, v1] [vI x0] I = runs cal 260 26 [v0, v1] [vI x0] I := st_goto (ins_of mI_260 (by rfl)) (by decide)
theorem r260_21 : runs cal 260 21 [vR 70, v1] [] I = runs cal 260 22 [vR 70, v1] [vR 70] I := runs_to (ins_of mI_260 (by rfl)) rfl rfl
theorem r260_22 : runs cal 260 22 [v0, v1] [vR 70] I = runs cal 260 23 [v0, v1] [vI (-1), vR 70] I := runs_to (ins_of mI_260 (by rfl)) rfl rfl
theorem r260_23 : runs cal 260 23 [v0, v1] [vI x0, vR 70] I = (cal 143 [vR 70, vI x0] I).bind (fun q => runs cal 260 26 [v0, v1] (pushR q.1 []) q.2) := st_call (st := false) (ins_of mI_260 (by rfl)) mC_260 mr_11_251 (by decide) mS_143 mN_143 rfl (Nat.le_of_ble_eq_true rfl) rfl rfl (Or.inr ⟨_, _, rfl, rcv mC_143 rfl wid_260 (by decide +kernel)⟩) (Or.inl (wid_260.trans wid_143.symm))
theorem r260_26 : runs cal 260 26 [v0, v1] [vI x0] I = some (some (vI x0), I) := st_ret (q := some (vI x0)) (k := 0) (ins_of mI_260 (by rfl)) rfl (by decide) mR_260 rfl trivial
theorem r261_0 : runs cal 261 0 [v0, vI w] [] I = runs cal 261 1 [v0, vI w] [vI w] I := runs_to (ins_of mI_261 (by rfl)) rfl rfl
theorem r261_1 : runs cal 261 1 [v0, v1] [vI x0] I = if x0 = 0 then runs cal 261 4 [v0, v1] [] I else runs cal 261 11 [v0, v1] [] I := st_if_ne (ins_of mI_261 (by rfl)) (by decide)
theorem r261_4 : runs cal 261 4 [vR 70, v1] [] I = runs cal 261 5 [vR 70, v1] [vR 70] I := runs_to (ins_of mI_261 (by rfl)) rfl rfl
theorem r261_5 : runs cal 261 5 [v0, v1] [vR 70] I = (cal 159 [vR 70] I).bind (fun q => runs cal 261 8 [v0, v1] (pushR q.1 []) q.2) := st_call (st := false) (ins_of mI_261 (by rfl)) mC_261 mr_11_117 (by decide) mS_159 mN_159 rfl (Nat.le_of_ble_eq_true rfl) rfl rfl (Or.inr ⟨_, _, rfl, rcv mC_159 rfl wid_261 (by decide +kernel)⟩) (Or.inl (wid_261.trans wid_159.symm))
theorem r261_8 : runs cal 261 8 [v0, v1] [vI x0] I = runs cal 261 69 [v0, v1] [vI x0] I := st_goto (ins_of mI_261 (by rfl)) (by decide)
theorem r261_11 : runs cal 261 11 [v0, vI w] [] I = runs cal 261 12 [v0, vI w] [vI w] I := runs_to (ins_of mI_261 (by rfl)) rfl rfl
theorem r261_12 : runs cal 261 12 [v0, v1] [vI x0] I = runs cal 261 13 [v0, v1] [vI (1), vI x0] I := runs_to (ins_of mI_261 (by rfl)) rfl rfl
theorem r261_13 : runs cal 261 13 [v0, v1] [vI x0, vI x1] I = if x1 = x0 then runs cal 261 16 [v0, v1] [] I else runs cal 261 23 [v0, v1] [] I := st_cmp_ne (ins_of mI_261 (by rfl)) (by decide)
theorem r261_16 : runs cal 261 16 [vR 70, v1] [] I = runs cal 261 17 [vR 70, v1] [vR 70] I := runs_to (ins_of mI_261 (by rfl)) rfl rfl
theorem r261_17 : runs cal 261 17 [v0, v1] [vR 70] I = (cal 160 [vR 70] I).bind (fun q => runs cal 261 20 [v0, v1] (pushR q.1 []) q.2) := st_call (st := false) (ins_of mI_261 (by rfl)) mC_261 mr_11_125 (by decide) mS_160 mN_160 rfl (Nat.le_of_ble_eq_true rfl) rfl rfl (Or.inr ⟨_, _, rfl, rcv mC_160 rfl wid_261 (by decide +kernel)⟩) (Or.inl (wid_261.trans wid_160.symm))
theorem r261_20 : runs cal 261 20 [v0, v1] [vI x0] I = runs cal 261 69 [v0, v1] [vI x0] I := st_goto (ins_of mI_261 (by rfl)) (by decide)
theorem r261_23 : runs cal 261 23 [v0, vI w] [] I = runs cal 261 24 [v0, vI w] [vI w] I := runs_to (ins_of mI_261 (by rfl)) rfl rfl
theorem r261_24 : runs cal 261 24 [v0, v1] [vI x0] I = runs cal 261 25 [v0, v1] [vI (2), vI x0] I := runs_to (ins_of mI_261 (by rfl)) rfl rfl
theorem r261_25 : runs cal 261 25 [v0, v1] [vI x0, vI x1] I = if x1 = x0 then runs cal 261 28 [v0, v1] [] I else runs cal 261 35 [v0, v1] [] I := st_cmp_ne (ins_of mI_261 (by rfl)) (by decide)
theorem r261_28 : runs cal 261 28 [vR 70, v1] [] I = runs cal 261 29 [vR 70, v1] [vR 70] I := runs_to (ins_of mI_261 (by rfl)) rfl rfl
theorem r261_29 : runs cal 261 29 [v0, v1] [vR 70] I = runs cal 261 32 [v0, v1] [vI (I 70 20)] I := st_getI (ins_of mI_261 (by rfl)) mC_261 (by decide) fr_11_292 cT_70 (wdc wid_261 wd_70) (Or.inl rfl)
theorem r261_32 : runs cal 261 32 [v0, v1] [vI x0] I = runs cal 261 69 [v0, v1] [vI x0] I := st_goto (ins_of mI_261 (by rfl)) (by decide)
theorem r261_35 : runs cal 261 35 [v0, vI w] [] I = runs cal 261 36 [v0, vI w] [vI w] I := runs_to (ins_of mI_261 (by rfl)) rfl rfl
theorem r261_36 : runs cal 261 36 [v0, v1] [vI x0] I = runs cal 261 37 [v0, v1] [vI (3), vI x0] I := runs_to (ins_of mI_261 (by rfl)) rfl rfl
theorem r261_37 : runs cal 261 37 [v0, v1] [vI x0, vI x1] I = if x1 = x0 then runs cal 261 40 [v0, v1] [] I else runs cal 261 50 [v0, v1] [] I := st_cmp_ne (ins_of mI_261 (by rfl)) (by decide)
theorem r261_40 : runs cal 261 40 [vR 70, v1] [] I = runs cal 261 41 [vR 70, v1] [vR 70] I := runs_to (ins_of mI_261 (by rfl)) rfl rfl
theorem r261_41 : runs cal 261 41 [v0, v1] [vR 70] I = runs cal 261 44 [v0, v1] [vR 71] I := st_getR (ins_of mI_261 (by rfl)) mC_261 (by decide) fr_11_7 cT_70 (wdc wid_261 wd_70) rfl rfl
theorem r261_44 : runs cal 261 44 [v0, v1] [vR 71] I = runs cal 261 46 [v0, v1] [vI (26), vR 71] I := runs_to (ins_of mI_261 (by rfl)) rfl rfl
theorem r261_46 : runs cal 261 46 [v0, v1] [vI x0, vR 71] I = if 0 ≤ x0 ∧ x0 < 110 then runs cal 261 47 [v0, v1] [vI (I 71 x0)] I else none := st_iald (ins_of mI_261 (by rfl)) cT_71 (wdc wid_261 wd_71)
theorem r261_47 : runs cal 261 47 [v0, v1] [vI x0] I = runs cal 261 69 [v0, v1] [vI x0] I := st_goto (ins_of mI_261 (by rfl)) (by decide)
theorem r261_50 : runs cal 261 50 [v0, vI w] [] I = runs cal 261 51 [v0, vI w] [vI w] I := runs_to (ins_of mI_261 (by rfl)) rfl rfl
theorem r261_51 : runs cal 261 51 [v0, v1] [vI x0] I = runs cal 261 52 [v0, v1] [vI (4), vI x0] I := runs_to (ins_of mI_261 (by rfl)) rfl rfl
theorem r261_52 : runs cal 261 52 [v0, v1] [vI x0, vI x1] I = if x1 = x0 then runs cal 261 55 [v0, v1] [] I else runs cal 261 65 [v0, v1] [] I := st_cmp_ne (ins_of mI_261 (by rfl)) (by decide)
theorem r261_55 : runs cal 261 55 [vR 70, v1] [] I = runs cal 261 56 [vR 70, v1] [vR 70] I := runs_to (ins_of mI_261 (by rfl)) rfl rfl
theorem r261_56 : runs cal 261 56 [v0, v1] [vR 70] I = runs cal 261 59 [v0, v1] [vR 71] I := st_getR (ins_of mI_261 (by rfl)) mC_261 (by decide) fr_11_7 cT_70 (wdc wid_261 wd_70) rfl rfl
theorem r261_59 : runs cal 261 59 [v0, v1] [vR 71] I = runs cal 261 61 [v0, v1] [vI (69), vR 71] I := runs_to (ins_of mI_261 (by rfl)) rfl rfl
theorem r261_61 : runs cal 261 61 [v0, v1] [vI x0, vR 71] I = if 0 ≤ x0 ∧ x0 < 110 then runs cal 261 62 [v0, v1] [vI (I 71 x0)] I else none := st_iald (ins_of mI_261 (by rfl)) cT_71 (wdc wid_261 wd_71)
theorem r261_62 : runs cal 261 62 [v0, v1] [vI x0] I = runs cal 261 69 [v0, v1] [vI x0] I := st_goto (ins_of mI_261 (by rfl)) (by decide)
theorem r261_65 : runs cal 261 65 [vR 70, v1] [] I = runs cal 261 66 [vR 70, v1] [vR 70] I := runs_to (ins_of mI_261 (by rfl)) rfl rfl
theorem r261_66 : runs cal 261 66 [v0, v1] [vR 70] I = (cal 163 [vR 70] I).bind (fun q => runs cal 261 69 [v0, v1] (pushR q.1 []) q.2) := st_call (st := false) (ins_of mI_261 (by rfl)) mC_261 mr_11_142 (by decide) mS_163 mN_163 rfl (Nat.le_of_ble_eq_true rfl) rfl rfl (Or.inr ⟨_, _, rfl, rcv mC_163 rfl wid_261 (by decide +kernel)⟩) (Or.inl (wid_261.trans wid_163.symm))
theorem r261_69 : runs cal 261 69 [v0, v1] [vI x0] I = some (some (vI x0), I) := st_ret (q := some (vI x0)) (k := 0) (ins_of mI_261 (by rfl)) rfl (by decide) mR_261 rfl trivial
theorem r262_0 : runs cal 262 0 [v0, vI w] [] I = runs cal 262 1 [v0, vI w] [vI w] I := runs_to (ins_of mI_262 (by rfl)) rfl rfl
theorem r262_1 : runs cal 262 1 [v0, v1] [vI x0] I = runs cal 262 2 [v0, v1] [vL x0] I := runs_to (ins_of mI_262 (by rfl)) rfl rfl
theorem r262_2 : runs cal 262 2 [v0, v1] [vL x0] I = runs cal 262 3 [v0, v1] [vL 0, vL x0] I := runs_to (ins_of mI_262 (by rfl)) rfl rfl
theorem r262_3 : runs cal 262 3 [v0, v1] [vL x0, vL x1] I = runs cal 262 6 [v0, v1] [vL (5), vL x0, vL x1] I := runs_to (ins_of mI_262 (by rfl)) rfl (by simp only [stepI, ldk2, mC_262]; rfl)
theorem r262_6 : runs cal 262 6 [v0, v1] [vL x0, vL x1, vL x2] I = (cal 142 [vL x2, vL x1, vL x0] I).bind (fun q => runs cal 262 9 [v0, v1] (pushR q.1 []) q.2) := st_call (st := true) (ins_of mI_262 (by rfl)) mC_262 mr_11_121 (by decide) mS_142 mN_142 rfl (Nat.le_of_ble_eq_true rfl) rfl rfl (Or.inl rfl) (Or.inl (wid_262.trans wid_142.symm))
theorem r262_9 : runs cal 262 9 [v0, v1] [vI x0] I = if x0 = 0 then runs cal 262 20 [v0, v1] [] I else runs cal 262 12 [v0, v1] [] I := st_if_eq (ins_of mI_262 (by rfl)) (by decide)
theorem r262_12 : runs cal 262 12 [vR 70, v1] [] I = runs cal 262 13 [vR 70, v1] [vR 70] I := runs_to (ins_of mI_262 (by rfl)) rfl rfl
theorem r262_13 : runs cal 262 13 [v0, vI w] [vR 70] I = runs cal 262 14 [v0, vI w] [vI w, vR 70] I := runs_to (ins_of mI_262 (by rfl)) rfl rfl
theorem r262_14 : runs cal 262 14 [v0, v1] [vI x0, vR 70] I = (cal 261 [vR 70, vI x0] I).bind (fun q => runs cal 262 17 [v0, v1] (pushR q.1 []) q.2) := st_call (st := false) (ins_of mI_262 (by rfl)) mC_262 mr_11_462 (by decide) mS_261 mN_261 rfl (Nat.le_of_ble_eq_true rfl) rfl rfl (Or.inr ⟨_, _, rfl, rcv mC_261 rfl wid_262 (by decide +kernel)⟩) (Or.inl (wid_262.trans wid_261.symm))
theorem r262_17 : runs cal 262 17 [v0, v1] [vI x0] I = runs cal 262 26 [v0, v1] [vI x0] I := st_goto (ins_of mI_262 (by rfl)) (by decide)
theorem r262_20 : runs cal 262 20 [vR 70, v1] [] I = runs cal 262 21 [vR 70, v1] [vR 70] I := runs_to (ins_of mI_262 (by rfl)) rfl rfl
theorem r262_21 : runs cal 262 21 [v0, v1] [vR 70] I = runs cal 262 23 [v0, v1] [vI (-2), vR 70] I := runs_to (ins_of mI_262 (by rfl)) rfl rfl
theorem r262_23 : runs cal 262 23 [v0, v1] [vI x0, vR 70] I = (cal 143 [vR 70, vI x0] I).bind (fun q => runs cal 262 26 [v0, v1] (pushR q.1 []) q.2) := st_call (st := false) (ins_of mI_262 (by rfl)) mC_262 mr_11_251 (by decide) mS_143 mN_143 rfl (Nat.le_of_ble_eq_true rfl) rfl rfl (Or.inr ⟨_, _, rfl, rcv mC_143 rfl wid_262 (by decide +kernel)⟩) (Or.inl (wid_262.trans wid_143.symm))
theorem r262_26 : runs cal 262 26 [v0, v1] [vI x0] I = some (some (vI x0), I) := st_ret (q := some (vI x0)) (k := 0) (ins_of mI_262 (by rfl)) rfl (by decide) mR_262 rfl trivial
theorem r263_0 : runs cal 263 0 [v0, vL w, v2, v3, v4, v5, v6, v7] [] I = runs cal 263 1 [v0, vL w, v2, v3, v4, v5, v6, v7] [vL w] I := runs_to (ins_of mI_263 (by rfl)) rfl rfl
theorem r263_1 : runs cal 263 1 [v0, v1, v2, v3, vI u, v5, v6, v7] [vL x0] I = runs cal 263 3 [v0, v1, v2, v3, vI u, vL x0, vR 0, v7] [] I := runs_to (ins_of mI_263 (by rfl)) rfl rfl
theorem r263_3 : runs cal 263 3 [v0, v1, v2, v3, v4, v5, v6, v7] [] I = runs cal 263 4 [v0, v1, v2, v3, v4, v5, v6, v7] [vI (0)] I := runs_to (ins_of mI_263 (by rfl)) rfl rfl
theorem r263_4 : runs cal 263 4 [v0, v1, v2, v3, v4, v5, v6, v7] [vI x0] I = runs cal 263 6 [v0, v1, v2, v3, v4, v5, kill v6, vI x0] [] I := runs_to (ins_of mI_263 (by rfl)) rfl rfl
theorem r263_6 : runs cal 263 6 [v0, v1, v2, v3, v4, v5, v6, vI w] [] I = runs cal 263 8 [v0, v1, v2, v3, v4, v5, v6, vI w] [vI w] I := runs_to (ins_of mI_263 (by rfl)) rfl rfl
theorem r263_8 : runs cal 263 8 [v0, v1, v2, v3, vI w, v5, v6, v7] [vI x0] I = runs cal 263 10 [v0, v1, v2, v3, vI w, v5, v6, v7] [vI w, vI x0] I := runs_to (ins_of mI_263 (by rfl)) rfl rfl
theorem r263_10 : runs cal 263 10 [v0, v1, v2, v3, v4, v5, v6, v7] [vI x0, vI x1] I = if x1 < x0 then runs cal 263 13 [v0, v1, v2, v3, v4, v5, v6, v7] [] I else runs cal 263 38 [v0, v1, v2, v3, v4, v5, v6, v7] [] I := st_cmp_ge (ins_of mI_263 (by rfl)) (by decide)
theorem r263_13 : runs cal 263 13 [v0, v1, v2, v3, v4, v5, v6, v7] [] I = runs cal 263 16 [v0, v1, v2, v3, v4, v5, v6, v7] [vL (31)] I := runs_to (ins_of mI_263 (by rfl)) rfl (by simp only [stepI, ldk2, mC_263]; rfl)
theorem r263_16 : runs cal 263 16 [v0, v1, v2, v3, v4, vL w, v6, v7] [vL x0] I = runs cal 263 18 [v0, v1, v2, v3, v4, vL w, v6, v7] [vL w, vL x0] I := runs_to (ins_of mI_263 (by rfl)) rfl rfl
theorem r263_18 : runs cal 263 18 [v0, v1, v2, v3, v4, v5, v6, v7] [vL x0, vL x1] I = runs cal 263 19 [v0, v1, v2, v3, v4, v5, v6, v7] [vL (lmul x1 x0)] I := runs_to (ins_of mI_263 (by rfl)) rfl rfl
theorem r263_19 : runs cal 263 19 [vR 70, v1, v2, v3, v4, v5, v6, v7] [vL x0] I = runs cal 263 20 [vR 70, v1, v2, v3, v4, v5, v6, v7] [vR 70, vL x0] I := runs_to (ins_of mI_263 (by rfl)) rfl rfl
theorem r263_20 : runs cal 263 20 [v0, v1, v2, v3, v4, v5, v6, v7] [vR 70, vL x1] I = runs cal 263 23 [v0, v1, v2, v3, v4, v5, v6, v7] [vR 71, vL x1] I := st_getR (ins_of mI_263 (by rfl)) mC_263 (by decide) fr_11_7 cT_70 (wdc wid_263 wd_70) rfl rfl
theorem r263_23 : runs cal 263 23 [v0, v1, v2, vI w, v4, v5, v6, v7] [vR 71, vL x1] I = runs cal 263 24 [v0, v1, v2, vI w, v4, v5, v6, v7] [vI w, vR 71, vL x1] I := runs_to (ins_of mI_263 (by rfl)) rfl rfl
theorem r263_24 : runs cal 263 24 [v0, v1, v2, v3, v4, v5, v6, vI w] [vI x0, vR 71, vL x2] I = runs cal 263 26 [v0, v1, v2, v3, v4, v5, v6, vI w] [vI w, vI x0, vR 71, vL x2] I := runs_to (ins_of mI_263 (by rfl)) rfl rfl
theorem r263_26 : runs cal 263 26 [v0, v1, v2, v3, v4, v5, v6, v7] [vI x0, vI x1, vR 71, vL x3] I = runs cal 263 27 [v0, v1, v2, v3, v4, v5, v6, v7] [vI (iadd x1 x0), vR 71, vL x3] I := runs_to (ins_of mI_263 (by rfl)) rfl rfl
theorem r263_27 : runs cal 263 27 [v0, v1, v2, v3, v4, v5, v6, v7] [vI x0, vR 71, vL x2] I = if 0 ≤ x0 ∧ x0 < 110 then runs cal 263 28 [v0, v1, v2, v3, v4, v5, v6, v7] [vI (I 71 x0), vL x2] I else none := st_iald (ins_of mI_263 (by rfl)) cT_71 (wdc wid_263 wd_71)
theorem r263_28 : runs cal 263 28 [v0, v1, v2, v3, v4, v5, v6, v7] [vI x0, vL x1] I = runs cal 263 29 [v0, v1, v2, v3, v4, v5, v6, v7] [vL x0, vL x1] I := runs_to (ins_of mI_263 (by rfl)) rfl rfl
theorem r263_29 : runs cal 263 29 [v0, v1, v2, v3, v4, v5, v6, v7] [vL x0, vL x1] I = runs cal 263 30 [v0, v1, v2, v3, v4, v5, v6, v7] [vL (ladd x1 x0)] I := runs_to (ins_of mI_263 (by rfl)) rfl rfl
theorem r263_30 : runs cal 263 30 [v0, v1, v2, v3, vI u, v5, v6, v7] [vL x0] I = runs cal 263 32 [v0, v1, v2, v3, vI u, vL x0, vR 0, v7] [] I := runs_to (ins_of mI_263 (by rfl)) rfl rfl
theorem r263_32 : runs cal 263 32 [v0, v1, v2, v3, v4, v5, v6, vI w] [] I = runs cal 263 35 [v0, v1, v2, v3, v4, v5, kill v6, vI (iadd w (1))] [] I := runs_to (ins_of mI_263 (by rfl)) rfl rfl
theorem r263_35 : runs cal 263 35 [v0, v1, v2, v3, v4, v5, v6, v7] [] I = runs cal 263 6 [v0, v1, v2, v3, v4, v5, v6, v7] [] I := st_goto (ins_of mI_263 (by rfl)) (by decide)
theorem r263_38 : runs cal 263 38 [v0, v1, v2, v3, v4, vL w, v6, v7] [] I = runs cal 263 40 [v0, v1, v2, v3, v4, vL w, v6, v7] [vL w] I := runs_to (ins_of mI_263 (by rfl)) rfl rfl
theorem r263_40 : runs cal 263 40 [v0, v1, v2, v3, v4, v5, v6, v7] [vL x0] I = some (some (vL x0), I) := st_ret (q := some (vL x0)) (k := 1) (ins_of mI_263 (by rfl)) rfl (by decide) mR_263 rfl trivial
theorem r264_0 : runs cal 264 0 [v0, v1, v2, v3, v4] [] I = runs cal 264 3 [v0, v1, v2, v3, v4] [vL (653)] I := runs_to (ins_of mI_264 (by rfl)) rfl (by simp only [stepI, ldk2, mC_264]; rfl)
theorem r264_3 : runs cal 264 3 [vR b0, v1, v2, v3, v4] [vL x0] I = runs cal 264 4 [vR b0, vL x0, vR 0, v3, v4] [] I := runs_to (ins_of mI_264 (by rfl)) rfl rfl
theorem r264_4 : runs cal 264 4 [v0, v1, v2, v3, v4] [] I = runs cal 264 5 [v0, v1, v2, v3, v4] [vI (0)] I := runs_to (ins_of mI_264 (by rfl)) rfl rfl
theorem r264_5 : runs cal 264 5 [v0, v1, v2, v3, v4] [vI x0] I = runs cal 264 6 [v0, v1, kill v2, vI x0, v4] [] I := runs_to (ins_of mI_264 (by rfl)) rfl rfl
theorem r264_6 : runs cal 264 6 [v0, v1, v2, vI w, v4] [] I = runs cal 264 7 [v0, v1, v2, vI w, v4] [vI w] I := runs_to (ins_of mI_264 (by rfl)) rfl rfl
theorem r264_7 : runs cal 264 7 [v0, v1, v2, v3, v4] [vI x0] I = runs cal 264 9 [v0, v1, v2, v3, v4] [vI (6), vI x0] I := runs_to (ins_of mI_264 (by rfl)) rfl rfl
theorem r264_9 : runs cal 264 9 [v0, v1, v2, v3, v4] [vI x0, vI x1] I = if x1 < x0 then runs cal 264 12 [v0, v1, v2, v3, v4] [] I else runs cal 264 31 [v0, v1, v2, v3, v4] [] I := st_cmp_ge (ins_of mI_264 (by rfl)) (by decide)
theorem r264_12 : runs cal 264 12 [v0, v1, v2, v3, v4] [] I = runs cal 264 15 [v0, v1, v2, v3, v4] [vL (31)] I := runs_to (ins_of mI_264 (by rfl)) rfl (by simp only [stepI, ldk2, mC_264]; rfl)
theorem r264_15 : runs cal 264 15 [v0, vL w, v2, v3, v4] [vL x0] I = runs cal 264 16 [v0, vL w, v2, v3, v4] [vL w, vL x0] I := runs_to (ins_of mI_264 (by rfl)) rfl rfl
theorem r264_16 : runs cal 264 16 [v0, v1, v2, v3, v4] [vL x0, vL x1] I = runs cal 264 17 [v0, v1, v2, v3, v4] [vL (lmul x1 x0)] I := runs_to (ins_of mI_264 (by rfl)) rfl rfl
theorem r264_17 : runs cal 264 17 [vR 70, v1, v2, v3, v4] [vL x0] I = runs cal 264 18 [vR 70, v1, v2, v3, v4] [vR 70, vL x0] I := runs_to (ins_of mI_264 (by rfl)) rfl rfl
theorem r264_18 : runs cal 264 18 [v0, v1, v2, vI w, v4] [vR 70, vL x1] I = runs cal 264 19 [v0, v1, v2, vI w, v4] [vI w, vR 70, vL x1] I := runs_to (ins_of mI_264 (by rfl)) rfl rfl
theorem r264_19 : runs cal 264 19 [v0, v1, v2, v3, v4] [vI x0, vR 70, vL x2] I = (cal 261 [vR 70, vI x0] I).bind (fun q => runs cal 264 22 [v0, v1, v2, v3, v4] (pushR q.1 [vL x2]) q.2) := st_call (st := false) (ins_of mI_264 (by rfl)) mC_264 mr_11_462 (by decide) mS_261 mN_261 rfl (Nat.le_of_ble_eq_true rfl) rfl rfl (Or.inr ⟨_, _, rfl, rcv mC_261 rfl wid_264 (by decide +kernel)⟩) (Or.inl (wid_264.trans wid_261.symm))
theorem r264_22 : runs cal 264 22 [v0, v1, v2, v3, v4] [vI x0, vL x1] I = runs cal 264 23 [v0, v1, v2, v3, v4] [vL x0, vL x1] I := runs_to (ins_of mI_264 (by rfl)) rfl rfl
theorem r264_23 : runs cal 264 23 [v0, v1, v2, v3, v4] [vL x0, vL x1] I = runs cal 264 24 [v0, v1, v2, v3, v4] [vL (ladd x1 x0)] I := runs_to (ins_of mI_264 (by rfl)) rfl rfl
theorem r264_24 : runs cal 264 24 [vR b0, v1, v2, v3, v4] [vL x0] I = runs cal 264 25 [vR b0, vL x0, vR 0, v3, v4] [] I := runs_to (ins_of mI_264 (by rfl)) rfl rfl
theorem r264_25 : runs cal 264 25 [v0, v1, v2, vI w, v4] [] I = runs cal 264 28 [v0, v1, kill v2, vI (iadd w (1)), v4] [] I := runs_to (ins_of mI_264 (by rfl)) rfl rfl
theorem r264_28 : runs cal 264 28 [v0, v1, v2, v3, v4] [] I = runs cal 264 6 [v0, v1, v2, v3, v4] [] I := st_goto (ins_of mI_264 (by rfl)) (by decide)
theorem r264_31 : runs cal 264 31 [vR 70, v1, v2, v3, v4] [] I = runs cal 264 32 [vR 70, v1, v2, v3, v4] [vR 70] I := runs_to (ins_of mI_264 (by rfl)) rfl rfl
theorem r264_32 : runs cal 264 32 [v0, vL w, v2, v3, v4] [vR 70] I = runs cal 264 33 [v0, vL w, v2, v3, v4] [vL w, vR 70] I := runs_to (ins_of mI_264 (by rfl)) rfl rfl
theorem r264_33 : runs cal 264 33 [v0, v1, v2, v3, v4] [vL x0, vR 70] I = runs cal 264 34 [v0, v1, v2, v3, v4] [vI (0), vL x0, vR 70] I := runs_to (ins_of mI_264 (by rfl)) rfl rfl
theorem r264_34 : runs cal 264 34 [vR 70, v1, v2, v3, v4] [vI x0, vL x1, vR 70] I = runs cal 264 35 [vR 70, v1, v2, v3, v4] [vR 70, vI x0, vL x1, vR 70] I := runs_to (ins_of mI_264 (by rfl)) rfl rfl
theorem r264_35 : runs cal 264 35 [v0, v1, v2, v3, v4] [vR 70, vI x1, vL x2, vR 70] I = (cal 163 [vR 70] I).bind (fun q => runs cal 264 38 [v0, v1, v2, v3, v4] (pushR q.1 [vI x1, vL x2, vR 70]) q.2) := st_call (st := false) (ins_of mI_264 (by rfl)) mC_264 mr_11_142 (by decide) mS_163 mN_163 rfl (Nat.le_of_ble_eq_true rfl) rfl rfl (Or.inr ⟨_, _, rfl, rcv mC_163 rfl wid_264 (by decide +kernel)⟩) (Or.inl (wid_264.trans wid_163.symm))
theorem r264_38 : runs cal 264 38 [v0, v1, v2, v3, v4] [vI x0, vI x1, vL x2, vR 70] I = runs cal 264 39 [v0, v1, v2, v3, v4] [vI (1), vI x0, vI x1, vL x2, vR 70] I := runs_to (ins_of mI_264 (by rfl)) rfl rfl
theorem r264_39 : runs cal 264 39 [v0, v1, v2, v3, v4] [vI x0, vI x1, vI x2, vL x3, vR 70] I = runs cal 264 40 [v0, v1, v2, v3, v4] [vI (iadd x1 x0), vI x2, vL x3, vR 70] I := runs_to (ins_of mI_264 (by rfl)) rfl rfl
theorem r264_40 : runs cal 264 40 [v0, v1, v2, v3, v4] [vI x0, vI x1, vL x2, vR 70] I = (cal 263 [vR 70, vL x2, vI x1, vI x0] I).bind (fun q => runs cal 264 43 [v0, v1, v2, v3, v4] (pushR q.1 []) q.2) := st_call (st := false) (ins_of mI_264 (by rfl)) mC_264 mr_11_469 (by decide) mS_263 mN_263 rfl (Nat.le_of_ble_eq_true rfl) rfl rfl (Or.inr ⟨_, _, rfl, rcv mC_263 rfl wid_264 (by decide +kernel)⟩) (Or.inl (wid_264.trans wid_263.symm))
theorem r264_43 : runs cal 264 43 [vR b0, v1, v2, v3, v4] [vL x0] I = runs cal 264 44 [vR b0, vL x0, vR 0, v3, v4] [] I := runs_to (ins_of mI_264 (by rfl)) rfl rfl
theorem r264_44 : runs cal 264 44 [vR 70, v1, v2, v3, v4] [] I = runs cal 264 45 [vR 70, v1, v2, v3, v4] [vR 70] I := runs_to (ins_of mI_264 (by rfl)) rfl rfl
theorem r264_45 : runs cal 264 45 [v0, vL w, v2, v3, v4] [vR 70] I = runs cal 264 46 [v0, vL w, v2, v3, v4] [vL w, vR 70] I := runs_to (ins_of mI_264 (by rfl)) rfl rfl
theorem r264_46 : runs cal 264 46 [v0, v1, v2, v3, v4] [vL x0, vR 70] I = runs cal 264 48 [v0, v1, v2, v3, v4] [vI (9), vL x0, vR 70] I := runs_to (ins_of mI_264 (by rfl)) rfl rfl
theorem r264_48 : runs cal 264 48 [v0, v1, v2, v3, v4] [vI x0, vL x1, vR 70] I = runs cal 264 49 [v0, v1, v2, v3, v4] [vI (3), vI x0, vL x1, vR 70] I := runs_to (ins_of mI_264 (by rfl)) rfl rfl
theorem r264_49 : runs cal 264 49 [vR 70, v1, v2, v3, v4] [vI x0, vI x1, vL x2, vR 70] I = runs cal 264 50 [vR 70, v1, v2, v3, v4] [vR 70, vI x0, vI x1, vL x2, vR 70] I := runs_to (ins_of mI_264 (by rfl)) rfl rfl
theorem r264_50 : runs cal 264 50 [v0, v1, v2, v3, v4] [vR 70, vI x1, vI x2, vL x3, vR 70] I = (cal 159 [vR 70] I).bind (fun q => runs cal 264 53 [v0, v1, v2, v3, v4] (pushR q.1 [vI x1, vI x2, vL x3, vR 70]) q.2) := st_call (st := false) (ins_of mI_264 (by rfl)) mC_264 mr_11_117 (by decide) mS_159 mN_159 rfl (Nat.le_of_ble_eq_true rfl) rfl rfl (Or.inr ⟨_, _, rfl, rcv mC_159 rfl wid_264 (by decide +kernel)⟩) (Or.inl (wid_264.trans wid_159.symm))
theorem r264_53 : runs cal 264 53 [v0, v1, v2, v3, v4] [vI x0, vI x1, vI x2, vL x3, vR 70] I = runs cal 264 54 [v0, v1, v2, v3, v4] [vI (imul x1 x0), vI x2, vL x3, vR 70] I := runs_to (ins_of mI_264 (by rfl)) rfl rfl
theorem r264_54 : runs cal 264 54 [v0, v1, v2, v3, v4] [vI x0, vI x1, vL x2, vR 70] I = (cal 263 [vR 70, vL x2, vI x1, vI x0] I).bind (fun q => runs cal 264 57 [v0, v1, v2, v3, v4] (pushR q.1 []) q.2) := st_call (st := false) (ins_of mI_264 (by rfl)) mC_264 mr_11_469 (by decide) mS_263 mN_263 rfl (Nat.le_of_ble_eq_true rfl) rfl rfl (Or.inr ⟨_, _, rfl, rcv mC_263 rfl wid_264 (by decide +kernel)⟩) (Or.inl (wid_264.trans wid_263.symm))
theorem r264_57 : runs cal 264 57 [vR b0, v1, v2, v3, v4] [vL x0] I = runs cal 264 58 [vR b0, vL x0, vR 0, v3, v4] [] I := runs_to (ins_of mI_264 (by rfl)) rfl rfl
theorem r264_58 : runs cal 264 58 [vR 70, v1, v2, v3, v4] [] I = runs cal 264 59 [vR 70, v1, v2, v3, v4] [vR 70] I := runs_to (ins_of mI_264 (by rfl)) rfl rfl
theorem r264_59 : runs cal 264 59 [v0, vL w, v2, v3, v4] [vR 70] I = runs cal 264 60 [v0, vL w, v2, v3, v4] [vL w, vR 70] I := runs_to (ins_of mI_264 (by rfl)) rfl rfl
theorem r264_60 : runs cal 264 60 [v0, v1, v2, v3, v4] [vL x0, vR 70] I = runs cal 264 62 [v0, v1, v2, v3, v4] [vI (18), vL x0, vR 70] I := runs_to (ins_of mI_264 (by rfl)) rfl rfl
theorem r264_62 : runs cal 264 62 [v0, v1, v2, v3, v4] [vI x0, vL x1, vR 70] I = runs cal 264 63 [v0, v1, v2, v3, v4] [vI (4), vI x0, vL x1, vR 70] I := runs_to (ins_of mI_264 (by rfl)) rfl rfl
theorem r264_63 : runs cal 264 63 [vR 70, v1, v2, v3, v4] [vI x0, vI x1, vL x2, vR 70] I = runs cal 264 64 [vR 70, v1, v2, v3, v4] [vR 70, vI x0, vI x1, vL x2, vR 70] I := runs_to (ins_of mI_264 (by rfl)) rfl rfl
theorem r264_64 : runs cal 264 64 [v0, v1, v2, v3, v4] [vR 70, vI x1, vI x2, vL x3, vR 70] I = (cal 160 [vR 70] I).bind (fun q => runs cal 264 67 [v0, v1, v2, v3, v4] (pushR q.1 [vI x1, vI x2, vL x3, vR 70]) q.2) := st_call (st := false) (ins_of mI_264 (by rfl)) mC_264 mr_11_125 (by decide) mS_160 mN_160 rfl (Nat.le_of_ble_eq_true rfl) rfl rfl (Or.inr ⟨_, _, rfl, rcv mC_160 rfl wid_264 (by decide +kernel)⟩) (Or.inl (wid_264.trans wid_160.symm))
theorem r264_67 : runs cal 264 67 [v0, v1, v2, v3, v4] [vI x0, vI x1, vI x2, vL x3, vR 70] I = runs cal 264 68 [v0, v1, v2, v3, v4] [vI (imul x1 x0), vI x2, vL x3, vR 70] I := runs_to (ins_of mI_264 (by rfl)) rfl rfl
theorem r264_68 : runs cal 264 68 [v0, v1, v2, v3, v4] [vI x0, vI x1, vL x2, vR 70] I = (cal 263 [vR 70, vL x2, vI x1, vI x0] I).bind (fun q => runs cal 264 71 [v0, v1, v2, v3, v4] (pushR q.1 []) q.2) := st_call (st := false) (ins_of mI_264 (by rfl)) mC_264 mr_11_469 (by decide) mS_263 mN_263 rfl (Nat.le_of_ble_eq_true rfl) rfl rfl (Or.inr ⟨_, _, rfl, rcv mC_263 rfl wid_264 (by decide +kernel)⟩) (Or.inl (wid_264.trans wid_263.symm))
theorem r264_71 : runs cal 264 71 [vR b0, v1, v2, v3, v4] [vL x0] I = runs cal 264 72 [vR b0, vL x0, vR 0, v3, v4] [] I := runs_to (ins_of mI_264 (by rfl)) rfl rfl
theorem r264_72 : runs cal 264 72 [vR 70, v1, v2, v3, v4] [] I = runs cal 264 73 [vR 70, v1, v2, v3, v4] [vR 70] I := runs_to (ins_of mI_264 (by rfl)) rfl rfl
theorem r264_73 : runs cal 264 73 [v0, vL w, v2, v3, v4] [vR 70] I = runs cal 264 74 [v0, vL w, v2, v3, v4] [vL w, vR 70] I := runs_to (ins_of mI_264 (by rfl)) rfl rfl
theorem r264_74 : runs cal 264 74 [v0, v1, v2, v3, v4] [vL x0, vR 70] I = runs cal 264 76 [v0, v1, v2, v3, v4] [vI (27), vL x0, vR 70] I := runs_to (ins_of mI_264 (by rfl)) rfl rfl
theorem r264_76 : runs cal 264 76 [vR 70, v1, v2, v3, v4] [vI x0, vL x1, vR 70] I = runs cal 264 77 [vR 70, v1, v2, v3, v4] [vR 70, vI x0, vL x1, vR 70] I := runs_to (ins_of mI_264 (by rfl)) rfl rfl
theorem r264_77 : runs cal 264 77 [v0, v1, v2, v3, v4] [vR 70, vI x1, vL x2, vR 70] I = runs cal 264 80 [v0, v1, v2, v3, v4] [vR 71, vI x1, vL x2, vR 70] I := st_getR (ins_of mI_264 (by rfl)) mC_264 (by decide) fr_11_7 cT_70 (wdc wid_264 wd_70) rfl rfl
theorem r264_80 : runs cal 264 80 [v0, v1, v2, v3, v4] [vR 71, vI x1, vL x2, vR 70] I = runs cal 264 82 [v0, v1, v2, v3, v4] [vI (26), vR 71, vI x1, vL x2, vR 70] I := runs_to (ins_of mI_264 (by rfl)) rfl rfl
theorem r264_82 : runs cal 264 82 [v0, v1, v2, v3, v4] [vI x0, vR 71, vI x2, vL x3, vR 70] I = if 0 ≤ x0 ∧ x0 < 110 then runs cal 264 83 [v0, v1, v2, v3, v4] [vI (I 71 x0), vI x2, vL x3, vR 70] I else none := st_iald (ins_of mI_264 (by rfl)) cT_71 (wdc wid_264 wd_71)
theorem r264_83 : runs cal 264 83 [v0, v1, v2, v3, v4] [vI x0, vI x1, vL x2, vR 70] I = (cal 263 [vR 70, vL x2, vI x1, vI x0] I).bind (fun q => runs cal 264 86 [v0, v1, v2, v3, v4] (pushR q.1 []) q.2) := st_call (st := false) (ins_of mI_264 (by rfl)) mC_264 mr_11_469 (by decide) mS_263 mN_263 rfl (Nat.le_of_ble_eq_true rfl) rfl rfl (Or.inr ⟨_, _, rfl, rcv mC_263 rfl wid_264 (by decide +kernel)⟩) (Or.inl (wid_264.trans wid_263.symm))
theorem r264_86 : runs cal 264 86 [vR b0, v1, v2, v3, v4] [vL x0] I = runs cal 264 87 [vR b0, vL x0, vR 0, v3, v4] [] I := runs_to (ins_of mI_264 (by rfl)) rfl rfl
theorem r264_87 : runs cal 264 87 [v0, v1, v2, v3, v4] [] I = runs cal 264 90 [v0, v1, v2, v3, v4] [vL (31)] I := runs_to (ins_of mI_264 (by rfl)) rfl (by simp only [stepI, ldk2, mC_264]; rfl)
theorem r264_90 : runs cal 264 90 [v0, v1, v2, v3, v4] [vL x0] I = runs cal 264 93 [v0, v1, v2, v3, v4] [vL (31), vL x0] I := runs_to (ins_of mI_264 (by rfl)) rfl (by simp only [stepI, ldk2, mC_264]; rfl)
theorem r264_93 : runs cal 264 93 [v0, v1, v2, v3, v4] [vL x0, vL x1] I = runs cal 264 96 [v0, v1, v2, v3, v4] [vL (31), vL x0, vL x1] I := runs_to (ins_of mI_264 (by rfl)) rfl (by simp only [stepI, ldk2, mC_264]; rfl)
theorem r264_96 : runs cal 264 96 [v0, vL w, v2, v3, v4] [vL x0, vL x1, vL x2] I = runs cal 264 97 [v0, vL w, v2, v3, v4] [vL w, vL x0, vL x1, vL x2] I := runs_to (ins_of mI_264 (by rfl)) rfl rfl
theorem r264_97 : runs cal 264 97 [v0, v1, v2, v3, v4] [vL x0, vL x1, vL x2, vL x3] I = runs cal 264 98 [v0, v1, v2, v3, v4] [vL (lmul x1 x0), vL x2, vL x3] I := runs_to (ins_of mI_264 (by rfl)) rfl rfl
theorem r264_98 : runs cal 264 98 [vR 70, v1, v2, v3, v4] [vL x0, vL x1, vL x2] I = runs cal 264 99 [vR 70, v1, v2, v3, v4] [vR 70, vL x0, vL x1, vL x2] I := runs_to (ins_of mI_264 (by rfl)) rfl rfl
theorem r264_99 : runs cal 264 99 [v0, v1, v2, v3, v4] [vR 70, vL x1, vL x2, vL x3] I = runs cal 264 102 [v0, v1, v2, v3, v4] [vI (I 70 6), vL x1, vL x2, vL x3] I := st_getI (ins_of mI_264 (by rfl)) mC_264 (by decide) fr_11_103 cT_70 (wdc wid_264 wd_70) (Or.inl rfl)
theorem r264_102 : runs cal 264 102 [v0, v1, v2, v3, v4] [vI x0, vL x1, vL x2, vL x3] I = runs cal 264 103 [v0, v1, v2, v3, v4] [vL x0, vL x1, vL x2, vL x3] I := runs_to (ins_of mI_264 (by rfl)) rfl rfl
theorem r264_103 : runs cal 264 103 [v0, v1, v2, v3, v4] [vL x0, vL x1, vL x2, vL x3] I = runs cal 264 104 [v0, v1, v2, v3, v4] [vL (ladd x1 x0), vL x2, vL x3] I := runs_to (ins_of mI_264 (by rfl)) rfl rfl
theorem r264_104 : runs cal 264 104 [v0, v1, v2, v3, v4] [vL x0, vL x1, vL x2] I = runs cal 264 105 [v0, v1, v2, v3, v4] [vL (lmul x1 x0), vL x2] I := runs_to (ins_of mI_264 (by rfl)) rfl rfl
theorem r264_105 : runs cal 264 105 [vR 70, v1, v2, v3, v4] [vL x0, vL x1] I = runs cal 264 106 [vR 70, v1, v2, v3, v4] [vR 70, vL x0, vL x1] I := runs_to (ins_of mI_264 (by rfl)) rfl rfl
theorem r264_106 : runs cal 264 106 [v0, v1, v2, v3, v4] [vR 70, vL x1, vL x2] I = runs cal 264 109 [v0, v1, v2, v3, v4] [vR 76, vL x1, vL x2] I := st_getR (ins_of mI_264 (by rfl)) mC_264 (by decide) fr_11_27 cT_70 (wdc wid_264 wd_70) rfl rfl
theorem r264_109 : runs cal 264 109 [v0, v1, v2, v3, v4] [vR 76, vL x1, vL x2] I = runs cal 264 110 [v0, v1, v2, v3, v4] [vI (0), vR 76, vL x1, vL x2] I := runs_to (ins_of mI_264 (by rfl)) rfl rfl
theorem r264_110 : runs cal 264 110 [v0, v1, v2, v3, v4] [vI x0, vR 76, vL x2, vL x3] I = if 0 ≤ x0 ∧ x0 < 8 then runs cal 264 111 [v0, v1, v2, v3, v4] [vI (I 76 x0), vL x2, vL x3] I else none := st_iald (ins_of mI_264 (by rfl)) cT_76 (wdc wid_264 wd_76)
theorem r264_111 : runs cal 264 111 [v0, v1, v2, v3, v4] [vI x0, vL x1, vL x2] I = runs cal 264 112 [v0, v1, v2, v3, v4] [vL x0, vL x1, vL x2] I := runs_to (ins_of mI_264 (by rfl)) rfl rfl
theorem r264_112 : runs cal 264 112 [v0, v1, v2, v3, v4] [vL x0, vL x1, vL x2] I = runs cal 264 113 [v0, v1, v2, v3, v4] [vL (ladd x1 x0), vL x2] I := runs_to (ins_of mI_264 (by rfl)) rfl rfl
theorem r264_113 : runs cal 264 113 [v0, v1, v2, v3, v4] [vL x0, vL x1] I = runs cal 264 114 [v0, v1, v2, v3, v4] [vL (lmul x1 x0)] I := runs_to (ins_of mI_264 (by rfl)) rfl rfl
theorem r264_114 : runs cal 264 114 [vR 70, v1, v2, v3, v4] [vL x0] I = runs cal 264 115 [vR 70, v1, v2, v3, v4] [vR 70, vL x0] I := runs_to (ins_of mI_264 (by rfl)) rfl rfl
theorem r264_115 : runs cal 264 115 [v0, v1, v2, v3, v4] [vR 70, vL x1] I = runs cal 264 118 [v0, v1, v2, v3, v4] [vR 76, vL x1] I := st_getR (ins_of mI_264 (by rfl)) mC_264 (by decide) fr_11_27 cT_70 (wdc wid_264 wd_70) rfl rfl
theorem r264_118 : runs cal 264 118 [v0, v1, v2, v3, v4] [vR 76, vL x1] I = runs cal 264 119 [v0, v1, v2, v3, v4] [vI (1), vR 76, vL x1] I := runs_to (ins_of mI_264 (by rfl)) rfl rfl
theorem r264_119 : runs cal 264 119 [v0, v1, v2, v3, v4] [vI x0, vR 76, vL x2] I = if 0 ≤ x0 ∧ x0 < 8 then runs cal 264 120 [v0, v1, v2, v3, v4] [vI (I 76 x0), vL x2] I else none := st_iald (ins_of mI_264 (by rfl)) cT_76 (wdc wid_264 wd_76)
theorem r264_120 : runs cal 264 120 [v0, v1, v2, v3, v4] [vI x0, vL x1] I = runs cal 264 121 [v0, v1, v2, v3, v4] [vL x0, vL x1] I := runs_to (ins_of mI_264 (by rfl)) rfl rfl
theorem r264_121 : runs cal 264 121 [v0, v1, v2, v3, v4] [vL x0, vL x1] I = runs cal 264 122 [v0, v1, v2, v3, v4] [vL (ladd x1 x0)] I := runs_to (ins_of mI_264 (by rfl)) rfl rfl
theorem r264_122 : runs cal 264 122 [vR b0, v1, v2, v3, v4] [vL x0] I = runs cal 264 123 [vR b0, vL x0, vR 0, v3, v4] [] I := runs_to (ins_of mI_264 (by rfl)) rfl rfl
theorem r264_123 : runs cal 264 123 [v0, v1, v2, v3, v4] [] I = runs cal 264 124 [v0, v1, v2, v3, v4] [vI (0)] I := runs_to (ins_of mI_264 (by rfl)) rfl rfl
theorem r264_124 : runs cal 264 124 [v0, v1, v2, v3, v4] [vI x0] I = runs cal 264 125 [v0, v1, kill v2, vI x0, v4] [] I := runs_to (ins_of mI_264 (by rfl)) rfl rfl
theorem r264_125 : runs cal 264 125 [v0, v1, v2, vI w, v4] [] I = runs cal 264 126 [v0, v1, v2, vI w, v4] [vI w] I := runs_to (ins_of mI_264 (by rfl)) rfl rfl
theorem r264_126 : runs cal 264 126 [v0, v1, v2, v3, v4] [vI x0] I = runs cal 264 127 [v0, v1, v2, v3, v4] [vI (1), vI x0] I := runs_to (ins_of mI_264 (by rfl)) rfl rfl
theorem r264_127 : runs cal 264 127 [v0, v1, v2, v3, v4] [vI x0, vI x1] I = if x0 < x1 then runs cal 264 175 [v0, v1, v2, v3, v4] [] I else runs cal 264 130 [v0, v1, v2, v3, v4] [] I := st_cmp_gt (ins_of mI_264 (by rfl)) (by decide)
theorem r264_130 : runs cal 264 130 [v0, v1, v2, v3, v4] [] I = runs cal 264 131 [v0, v1, v2, v3, v4] [vI (0)] I := runs_to (ins_of mI_264 (by rfl)) rfl rfl
theorem r264_131 : runs cal 264 131 [v0, v1, v2, vI u, v4] [vI x0] I = runs cal 264 133 [v0, v1, v2, vI u, vI x0] [] I := runs_to (ins_of mI_264 (by rfl)) rfl rfl
theorem r264_133 : runs cal 264 133 [v0, v1, v2, v3, vI w] [] I = runs cal 264 135 [v0, v1, v2, v3, vI w] [vI w] I := runs_to (ins_of mI_264 (by rfl)) rfl rfl
theorem r264_135 : runs cal 264 135 [vR 70, v1, v2, v3, v4] [vI x0] I = runs cal 264 136 [vR 70, v1, v2, v3, v4] [vR 70, vI x0] I := runs_to (ins_of mI_264 (by rfl)) rfl rfl
theorem r264_136 : runs cal 264 136 [v0, v1, v2, v3, v4] [vR 70, vI x1] I = runs cal 264 139 [v0, v1, v2, v3, v4] [vR 76, vI x1] I := st_getR (ins_of mI_264 (by rfl)) mC_264 (by decide) fr_11_27 cT_70 (wdc wid_264 wd_70) rfl rfl
theorem r264_139 : runs cal 264 139 [v0, v1, v2, vI w, v4] [vR 76, vI x1] I = runs cal 264 140 [v0, v1, v2, vI w, v4] [vI w, vR 76, vI x1] I := runs_to (ins_of mI_264 (by rfl)) rfl rfl
theorem r264_140 : runs cal 264 140 [v0, v1, v2, v3, v4] [vI x0, vR 76, vI x2] I = if 0 ≤ x0 ∧ x0 < 8 then runs cal 264 141 [v0, v1, v2, v3, v4] [vI (I 76 x0), vI x2] I else none := st_iald (ins_of mI_264 (by rfl)) cT_76 (wdc wid_264 wd_76)
theorem r264_141 : runs cal 264 141 [v0, v1, v2, v3, v4] [vI x0, vI x1] I = if x1 < x0 then runs cal 264 144 [v0, v1, v2, v3, v4] [] I else runs cal 264 169 [v0, v1, v2, v3, v4] [] I := st_cmp_ge (ins_of mI_264 (by rfl)) (by decide)
theorem r264_144 : runs cal 264 144 [v0, v1, v2, v3, v4] [] I = runs cal 264 147 [v0, v1, v2, v3, v4] [vL (31)] I := runs_to (ins_of mI_264 (by rfl)) rfl (by simp only [stepI, ldk2, mC_264]; rfl)
theorem r264_147 : runs cal 264 147 [v0, vL w, v2, v3, v4] [vL x0] I = runs cal 264 148 [v0, vL w, v2, v3, v4] [vL w, vL x0] I := runs_to (ins_of mI_264 (by rfl)) rfl rfl
theorem r264_148 : runs cal 264 148 [v0, v1, v2, v3, v4] [vL x0, vL x1] I = runs cal 264 149 [v0, v1, v2, v3, v4] [vL (lmul x1 x0)] I := runs_to (ins_of mI_264 (by rfl)) rfl rfl
theorem r264_149 : runs cal 264 149 [vR 70, v1, v2, v3, v4] [vL x0] I = runs cal 264 150 [vR 70, v1, v2, v3, v4] [vR 70, vL x0] I := runs_to (ins_of mI_264 (by rfl)) rfl rfl
theorem r264_150 : runs cal 264 150 [v0, v1, v2, v3, v4] [vR 70, vL x1] I = runs cal 264 153 [v0, v1, v2, v3, v4] [vR 75, vL x1] I := st_getR (ins_of mI_264 (by rfl)) mC_264 (by decide) fr_11_23 cT_70 (wdc wid_264 wd_70) rfl rfl
theorem r264_153 : runs cal 264 153 [v0, v1, v2, v3, v4] [vR 75, vL x1] I = runs cal 264 155 [v0, v1, v2, v3, v4] [vI (64), vR 75, vL x1] I := runs_to (ins_of mI_264 (by rfl)) rfl rfl
theorem r264_155 : runs cal 264 155 [v0, v1, v2, vI w, v4] [vI x0, vR 75, vL x2] I = runs cal 264 156 [v0, v1, v2, vI w, v4] [vI w, vI x0, vR 75, vL x2] I := runs_to (ins_of mI_264 (by rfl)) rfl rfl
theorem r264_156 : runs cal 264 156 [v0, v1, v2, v3, v4] [vI x0, vI x1, vR 75, vL x3] I = runs cal 264 157 [v0, v1, v2, v3, v4] [vI (imul x1 x0), vR 75, vL x3] I := runs_to (ins_of mI_264 (by rfl)) rfl rfl
theorem r264_157 : runs cal 264 157 [v0, v1, v2, v3, vI w] [vI x0, vR 75, vL x2] I = runs cal 264 159 [v0, v1, v2, v3, vI w] [vI w, vI x0, vR 75, vL x2] I := runs_to (ins_of mI_264 (by rfl)) rfl rfl
theorem r264_159 : runs cal 264 159 [v0, v1, v2, v3, v4] [vI x0, vI x1, vR 75, vL x3] I = runs cal 264 160 [v0, v1, v2, v3, v4] [vI (iadd x1 x0), vR 75, vL x3] I := runs_to (ins_of mI_264 (by rfl)) rfl rfl
theorem r264_160 : runs cal 264 160 [v0, v1, v2, v3, v4] [vI x0, vR 75, vL x2] I = if 0 ≤ x0 ∧ x0 < 512 then runs cal 264 161 [v0, v1, v2, v3, v4] [vL (I 75 x0), vL x2] I else none := st_lald (ins_of mI_264 (by rfl)) cT_75 (wdc wid_264 wd_75)
theorem r264_161 : runs cal 264 161 [v0, v1, v2, v3, v4] [vL x0, vL x1] I = runs cal 264 162 [v0, v1, v2, v3, v4] [vL (ladd x1 x0)] I := runs_to (ins_of mI_264 (by rfl)) rfl rfl
theorem r264_162 : runs cal 264 162 [vR b0, v1, v2, v3, v4] [vL x0] I = runs cal 264 163 [vR b0, vL x0, vR 0, v3, v4] [] I := runs_to (ins_of mI_264 (by rfl)) rfl rfl
theorem r264_163 : runs cal 264 163 [v0, v1, v2, vI u, vI w] [] I = runs cal 264 166 [v0, v1, v2, vI u, vI (iadd w (1))] [] I := runs_to (ins_of mI_264 (by rfl)) rfl rfl
theorem r264_166 : runs cal 264 166 [v0, v1, v2, v3, v4] [] I = runs cal 264 133 [v0, v1, v2, v3, v4] [] I := st_goto (ins_of mI_264 (by rfl)) (by decide)
theorem r264_169 : runs cal 264 169 [v0, v1, v2, vI w, v4] [] I = runs cal 264 172 [v0, v1, kill v2, vI (iadd w (1)), v4] [] I := runs_to (ins_of mI_264 (by rfl)) rfl rfl
theorem r264_172 : runs cal 264 172 [v0, v1, v2, v3, v4] [] I = runs cal 264 125 [v0, v1, v2, v3, v4] [] I := st_goto (ins_of mI_264 (by rfl)) (by decide)
theorem r264_175 : runs cal 264 175 [v0, vL w, v2, v3, v4] [] I = runs cal 264 176 [v0, vL w, v2, v3, v4] [vL w] I := runs_to (ins_of mI_264 (by rfl)) rfl rfl
theorem r264_176 : runs cal 264 176 [v0, v1, v2, v3, v4] [vL x0] I = some (some (vL x0), I) := st_ret (q := some (vL x0)) (k := 1) (ins_of mI_264 (by rfl)) rfl (by decide) mR_264 rfl trivial
end PRINTED
