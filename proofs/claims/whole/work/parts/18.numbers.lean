/-! facts of the tables by number (printed by gen18.py) -/
set_option maxRecDepth 20000 in
theorem mq_0 : mq 0 = (yX0_restart, cX0_restart, 2, none, 0, false, 2, ins_0) := rfl
theorem mI_0 : mI 0 = ins_0 := by rw [mI, mq_0]
theorem mC_0 : mC 0 = 0 := by rw [mC, mq_0]
theorem mS_0 : mS 0 = false := by rw [mS, mq_0]
theorem mN_0 : mN 0 = 2 := by rw [mN, mq_0]
theorem mL_0 : mL 0 = 2 := by rw [mL, mq_0]
theorem mR_0 : mR 0 = none := by rw [mR, mq_0]
theorem wid_0 : wid 0 = 0 := by unfold wid; rw [mC_0]; rfl
set_option maxRecDepth 20000 in
theorem mq_1 : mq 1 = (yX0_copyOf, cX0_copyOf, 2, none, 0, false, 2, ins_1) := rfl
theorem mI_1 : mI 1 = ins_1 := by rw [mI, mq_1]
theorem mC_1 : mC 1 = 0 := by rw [mC, mq_1]
theorem mS_1 : mS 1 = false := by rw [mS, mq_1]
theorem mN_1 : mN 1 = 2 := by rw [mN, mq_1]
theorem mL_1 : mL 1 = 2 := by rw [mL, mq_1]
theorem mR_1 : mR 1 = none := by rw [mR, mq_1]
theorem wid_1 : wid 1 = 0 := by unfold wid; rw [mC_1]; rfl
set_option maxRecDepth 20000 in
theorem mq_2 : mq 2 = (yX0_addWalker, cX0_addWalker, 4, none, 0, false, 4, ins_2) := rfl
theorem mI_2 : mI 2 = ins_2 := by rw [mI, mq_2]
theorem mC_2 : mC 2 = 0 := by rw [mC, mq_2]
theorem mS_2 : mS 2 = false := by rw [mS, mq_2]
theorem mN_2 : mN 2 = 4 := by rw [mN, mq_2]
theorem mL_2 : mL 2 = 4 := by rw [mL, mq_2]
theorem mR_2 : mR 2 = none := by rw [mR, mq_2]
theorem wid_2 : wid 2 = 0 := by unfold wid; rw [mC_2]; rfl
set_option maxRecDepth 20000 in
theorem mq_3 : mq 3 = (yX0_addBoard, cX0_addBoard, 6, (some .boolean), 0, false, 5, ins_3) := rfl
theorem mI_3 : mI 3 = ins_3 := by rw [mI, mq_3]
theorem mC_3 : mC 3 = 0 := by rw [mC, mq_3]
theorem mS_3 : mS 3 = false := by rw [mS, mq_3]
theorem mN_3 : mN 3 = 5 := by rw [mN, mq_3]
theorem mL_3 : mL 3 = 6 := by rw [mL, mq_3]
theorem mR_3 : mR 3 = (some .boolean) := by rw [mR, mq_3]
theorem wid_3 : wid 3 = 0 := by unfold wid; rw [mC_3]; rfl
set_option maxRecDepth 20000 in
theorem mq_4 : mq 4 = (yX0_hasPlace, cX0_hasPlace, 2, (some .boolean), 0, false, 2, ins_4) := rfl
theorem mI_4 : mI 4 = ins_4 := by rw [mI, mq_4]
theorem mC_4 : mC 4 = 0 := by rw [mC, mq_4]
theorem mS_4 : mS 4 = false := by rw [mS, mq_4]
theorem mN_4 : mN 4 = 2 := by rw [mN, mq_4]
theorem mL_4 : mL 4 = 2 := by rw [mL, mq_4]
theorem mR_4 : mR 4 = (some .boolean) := by rw [mR, mq_4]
theorem wid_4 : wid 4 = 0 := by unfold wid; rw [mC_4]; rfl
set_option maxRecDepth 20000 in
theorem mq_5 : mq 5 = (yX0_hasBoard, cX0_hasBoard, 2, (some .boolean), 0, false, 2, ins_5) := rfl
theorem mI_5 : mI 5 = ins_5 := by rw [mI, mq_5]
theorem mC_5 : mC 5 = 0 := by rw [mC, mq_5]
theorem mS_5 : mS 5 = false := by rw [mS, mq_5]
theorem mN_5 : mN 5 = 2 := by rw [mN, mq_5]
theorem mL_5 : mL 5 = 2 := by rw [mL, mq_5]
theorem mR_5 : mR 5 = (some .boolean) := by rw [mR, mq_5]
theorem wid_5 : wid 5 = 0 := by unfold wid; rw [mC_5]; rfl
set_option maxRecDepth 20000 in
theorem mq_6 : mq 6 = (yX0_groundAt, cX0_groundAt, 2, (some .int), 0, false, 2, ins_6) := rfl
theorem mI_6 : mI 6 = ins_6 := by rw [mI, mq_6]
theorem mC_6 : mC 6 = 0 := by rw [mC, mq_6]
theorem mS_6 : mS 6 = false := by rw [mS, mq_6]
theorem mN_6 : mN 6 = 2 := by rw [mN, mq_6]
theorem mL_6 : mL 6 = 2 := by rw [mL, mq_6]
theorem mR_6 : mR 6 = (some .int) := by rw [mR, mq_6]
theorem wid_6 : wid 6 = 0 := by unfold wid; rw [mC_6]; rfl
set_option maxRecDepth 20000 in
theorem mq_7 : mq 7 = (yX0_walkerAt, cX0_walkerAt, 3, (some .int), 0, false, 3, ins_7) := rfl
theorem mI_7 : mI 7 = ins_7 := by rw [mI, mq_7]
theorem mC_7 : mC 7 = 0 := by rw [mC, mq_7]
theorem mS_7 : mS 7 = false := by rw [mS, mq_7]
theorem mN_7 : mN 7 = 3 := by rw [mN, mq_7]
theorem mL_7 : mL 7 = 3 := by rw [mL, mq_7]
theorem mR_7 : mR 7 = (some .int) := by rw [mR, mq_7]
theorem wid_7 : wid 7 = 0 := by unfold wid; rw [mC_7]; rfl
set_option maxRecDepth 20000 in
theorem mq_8 : mq 8 = (yX0_boardAt, cX0_boardAt, 3, (some .int), 0, false, 3, ins_8) := rfl
theorem mI_8 : mI 8 = ins_8 := by rw [mI, mq_8]
theorem mC_8 : mC 8 = 0 := by rw [mC, mq_8]
theorem mS_8 : mS 8 = false := by rw [mS, mq_8]
theorem mN_8 : mN 8 = 3 := by rw [mN, mq_8]
theorem mL_8 : mL 8 = 3 := by rw [mL, mq_8]
theorem mR_8 : mR 8 = (some .int) := by rw [mR, mq_8]
theorem wid_8 : wid 8 = 0 := by unfold wid; rw [mC_8]; rfl
set_option maxRecDepth 20000 in
theorem mq_9 : mq 9 = (yX0_isLying, cX0_isLying, 3, (some .boolean), 0, false, 3, ins_9) := rfl
theorem mI_9 : mI 9 = ins_9 := by rw [mI, mq_9]
theorem mC_9 : mC 9 = 0 := by rw [mC, mq_9]
theorem mS_9 : mS 9 = false := by rw [mS, mq_9]
theorem mN_9 : mN 9 = 3 := by rw [mN, mq_9]
theorem mL_9 : mL 9 = 3 := by rw [mL, mq_9]
theorem mR_9 : mR 9 = (some .boolean) := by rw [mR, mq_9]
theorem wid_9 : wid 9 = 0 := by unfold wid; rw [mC_9]; rfl
set_option maxRecDepth 20000 in
theorem mq_10 : mq 10 = (yX0_withWalker, cX0_withWalker, 4, (some .int), 0, false, 4, ins_10) := rfl
theorem mI_10 : mI 10 = ins_10 := by rw [mI, mq_10]
theorem mC_10 : mC 10 = 0 := by rw [mC, mq_10]
theorem mS_10 : mS 10 = false := by rw [mS, mq_10]
theorem mN_10 : mN 10 = 4 := by rw [mN, mq_10]
theorem mL_10 : mL 10 = 4 := by rw [mL, mq_10]
theorem mR_10 : mR 10 = (some .int) := by rw [mR, mq_10]
theorem wid_10 : wid 10 = 0 := by unfold wid; rw [mC_10]; rfl
set_option maxRecDepth 20000 in
theorem mq_11 : mq 11 = (yX0_withBoard, cX0_withBoard, 4, (some .int), 0, false, 4, ins_11) := rfl
theorem mI_11 : mI 11 = ins_11 := by rw [mI, mq_11]
theorem mC_11 : mC 11 = 0 := by rw [mC, mq_11]
theorem mS_11 : mS 11 = false := by rw [mS, mq_11]
theorem mN_11 : mN 11 = 4 := by rw [mN, mq_11]
theorem mL_11 : mL 11 = 4 := by rw [mL, mq_11]
theorem mR_11 : mR 11 = (some .int) := by rw [mR, mq_11]
theorem wid_11 : wid 11 = 0 := by unfold wid; rw [mC_11]; rfl
set_option maxRecDepth 20000 in
theorem mq_12 : mq 12 = (yX0_goalPlace, cX0_goalPlace, 2, (some .int), 0, false, 2, ins_12) := rfl
theorem mI_12 : mI 12 = ins_12 := by rw [mI, mq_12]
theorem mC_12 : mC 12 = 0 := by rw [mC, mq_12]
theorem mS_12 : mS 12 = false := by rw [mS, mq_12]
theorem mN_12 : mN 12 = 2 := by rw [mN, mq_12]
theorem mL_12 : mL 12 = 2 := by rw [mL, mq_12]
theorem mR_12 : mR 12 = (some .int) := by rw [mR, mq_12]
theorem wid_12 : wid 12 = 0 := by unfold wid; rw [mC_12]; rfl
set_option maxRecDepth 20000 in
theorem mq_13 : mq 13 = (yX0_isAtGoal, cX0_isAtGoal, 3, (some .boolean), 0, false, 3, ins_13) := rfl
theorem mI_13 : mI 13 = ins_13 := by rw [mI, mq_13]
theorem mC_13 : mC 13 = 0 := by rw [mC, mq_13]
theorem mS_13 : mS 13 = false := by rw [mS, mq_13]
theorem mN_13 : mN 13 = 3 := by rw [mN, mq_13]
theorem mL_13 : mL 13 = 3 := by rw [mL, mq_13]
theorem mR_13 : mR 13 = (some .boolean) := by rw [mR, mq_13]
theorem wid_13 : wid 13 = 0 := by unfold wid; rw [mC_13]; rfl
set_option maxRecDepth 20000 in
theorem mq_14 : mq 14 = (yX0_arrived, cX0_arrived, 4, (some .int), 0, false, 2, ins_14) := rfl
theorem mI_14 : mI 14 = ins_14 := by rw [mI, mq_14]
theorem mC_14 : mC 14 = 0 := by rw [mC, mq_14]
theorem mS_14 : mS 14 = false := by rw [mS, mq_14]
theorem mN_14 : mN 14 = 2 := by rw [mN, mq_14]
theorem mL_14 : mL 14 = 4 := by rw [mL, mq_14]
theorem mR_14 : mR 14 = (some .int) := by rw [mR, mq_14]
theorem wid_14 : wid 14 = 0 := by unfold wid; rw [mC_14]; rfl
set_option maxRecDepth 20000 in
theorem mq_15 : mq 15 = (yX0_isOver, cX0_isOver, 2, (some .boolean), 0, false, 2, ins_15) := rfl
theorem mI_15 : mI 15 = ins_15 := by rw [mI, mq_15]
theorem mC_15 : mC 15 = 0 := by rw [mC, mq_15]
theorem mS_15 : mS 15 = false := by rw [mS, mq_15]
theorem mN_15 : mN 15 = 2 := by rw [mN, mq_15]
theorem mL_15 : mL 15 = 2 := by rw [mL, mq_15]
theorem mR_15 : mR 15 = (some .boolean) := by rw [mR, mq_15]
theorem wid_15 : wid 15 = 0 := by unfold wid; rw [mC_15]; rfl
set_option maxRecDepth 20000 in
theorem mq_16 : mq 16 = (yX0_carriedBy, cX0_carriedBy, 4, (some .int), 0, false, 3, ins_16) := rfl
theorem mI_16 : mI 16 = ins_16 := by rw [mI, mq_16]
theorem mC_16 : mC 16 = 0 := by rw [mC, mq_16]
theorem mS_16 : mS 16 = false := by rw [mS, mq_16]
theorem mN_16 : mN 16 = 3 := by rw [mN, mq_16]
theorem mL_16 : mL 16 = 4 := by rw [mL, mq_16]
theorem mR_16 : mR 16 = (some .int) := by rw [mR, mq_16]
theorem wid_16 : wid 16 = 0 := by unfold wid; rw [mC_16]; rfl
set_option maxRecDepth 20000 in
theorem mq_17 : mq 17 = (yX0_ladenMask, cX0_ladenMask, 5, (some .int), 0, false, 2, ins_17) := rfl
theorem mI_17 : mI 17 = ins_17 := by rw [mI, mq_17]
theorem mC_17 : mC 17 = 0 := by rw [mC, mq_17]
theorem mS_17 : mS 17 = false := by rw [mS, mq_17]
theorem mN_17 : mN 17 = 2 := by rw [mN, mq_17]
theorem mL_17 : mL 17 = 5 := by rw [mL, mq_17]
theorem mR_17 : mR 17 = (some .int) := by rw [mR, mq_17]
theorem wid_17 : wid 17 = 0 := by unfold wid; rw [mC_17]; rfl
set_option maxRecDepth 20000 in
theorem mq_18 : mq 18 = (yX0_counts, cX0_counts, 3, (some .int), 0, false, 3, ins_18) := rfl
theorem mI_18 : mI 18 = ins_18 := by rw [mI, mq_18]
theorem mC_18 : mC 18 = 0 := by rw [mC, mq_18]
theorem mS_18 : mS 18 = false := by rw [mS, mq_18]
theorem mN_18 : mN 18 = 3 := by rw [mN, mq_18]
theorem mL_18 : mL 18 = 3 := by rw [mL, mq_18]
theorem mR_18 : mR 18 = (some .int) := by rw [mR, mq_18]
theorem wid_18 : wid 18 = 0 := by unfold wid; rw [mC_18]; rfl
set_option maxRecDepth 20000 in
theorem mq_19 : mq 19 = (yX0_maskOf, cX0_maskOf, 3, (some .int), 0, false, 3, ins_19) := rfl
theorem mI_19 : mI 19 = ins_19 := by rw [mI, mq_19]
theorem mC_19 : mC 19 = 0 := by rw [mC, mq_19]
theorem mS_19 : mS 19 = false := by rw [mS, mq_19]
theorem mN_19 : mN 19 = 3 := by rw [mN, mq_19]
theorem mL_19 : mL 19 = 3 := by rw [mL, mq_19]
theorem mR_19 : mR 19 = (some .int) := by rw [mR, mq_19]
theorem wid_19 : wid 19 = 0 := by unfold wid; rw [mC_19]; rfl
set_option maxRecDepth 20000 in
theorem mq_20 : mq 20 = (yX0_coverOf, cX0_coverOf, 4, (some .int), 0, false, 3, ins_20) := rfl
theorem mI_20 : mI 20 = ins_20 := by rw [mI, mq_20]
theorem mC_20 : mC 20 = 0 := by rw [mC, mq_20]
theorem mS_20 : mS 20 = false := by rw [mS, mq_20]
theorem mN_20 : mN 20 = 3 := by rw [mN, mq_20]
theorem mL_20 : mL 20 = 4 := by rw [mL, mq_20]
theorem mR_20 : mR 20 = (some .int) := by rw [mR, mq_20]
theorem wid_20 : wid 20 = 0 := by unfold wid; rw [mC_20]; rfl
set_option maxRecDepth 20000 in
theorem mq_21 : mq 21 = (yX0_boardMask, cX0_boardMask, 4, (some .int), 0, false, 2, ins_21) := rfl
theorem mI_21 : mI 21 = ins_21 := by rw [mI, mq_21]
theorem mC_21 : mC 21 = 0 := by rw [mC, mq_21]
theorem mS_21 : mS 21 = false := by rw [mS, mq_21]
theorem mN_21 : mN 21 = 2 := by rw [mN, mq_21]
theorem mL_21 : mL 21 = 4 := by rw [mL, mq_21]
theorem mR_21 : mR 21 = (some .int) := by rw [mR, mq_21]
theorem wid_21 : wid 21 = 0 := by unfold wid; rw [mC_21]; rfl
set_option maxRecDepth 20000 in
theorem mq_22 : mq 22 = (yX0_isIn, cX0_isIn, 3, (some .boolean), 0, false, 3, ins_22) := rfl
theorem mI_22 : mI 22 = ins_22 := by rw [mI, mq_22]
theorem mC_22 : mC 22 = 0 := by rw [mC, mq_22]
theorem mS_22 : mS 22 = false := by rw [mS, mq_22]
theorem mN_22 : mN 22 = 3 := by rw [mN, mq_22]
theorem mL_22 : mL 22 = 3 := by rw [mL, mq_22]
theorem mR_22 : mR 22 = (some .boolean) := by rw [mR, mq_22]
theorem wid_22 : wid 22 = 0 := by unfold wid; rw [mC_22]; rfl
set_option maxRecDepth 20000 in
theorem mq_23 : mq 23 = (yX0_groundMask, cX0_groundMask, 1, (some .int), 0, false, 1, ins_23) := rfl
theorem mI_23 : mI 23 = ins_23 := by rw [mI, mq_23]
theorem mC_23 : mC 23 = 0 := by rw [mC, mq_23]
theorem mS_23 : mS 23 = false := by rw [mS, mq_23]
theorem mN_23 : mN 23 = 1 := by rw [mN, mq_23]
theorem mL_23 : mL 23 = 1 := by rw [mL, mq_23]
theorem mR_23 : mR 23 = (some .int) := by rw [mR, mq_23]
theorem wid_23 : wid 23 = 0 := by unfold wid; rw [mC_23]; rfl
set_option maxRecDepth 20000 in
theorem mq_24 : mq 24 = (yX0_standMask, cX0_standMask, 4, (some .int), 0, false, 2, ins_24) := rfl
theorem mI_24 : mI 24 = ins_24 := by rw [mI, mq_24]
theorem mC_24 : mC 24 = 0 := by rw [mC, mq_24]
theorem mS_24 : mS 24 = false := by rw [mS, mq_24]
theorem mN_24 : mN 24 = 2 := by rw [mN, mq_24]
theorem mL_24 : mL 24 = 4 := by rw [mL, mq_24]
theorem mR_24 : mR 24 = (some .int) := by rw [mR, mq_24]
theorem wid_24 : wid 24 = 0 := by unfold wid; rw [mC_24]; rfl
set_option maxRecDepth 20000 in
theorem mq_25 : mq 25 = (yX0_isFirm, cX0_isFirm, 3, (some .boolean), 0, false, 3, ins_25) := rfl
theorem mI_25 : mI 25 = ins_25 := by rw [mI, mq_25]
theorem mC_25 : mC 25 = 0 := by rw [mC, mq_25]
theorem mS_25 : mS 25 = false := by rw [mS, mq_25]
theorem mN_25 : mN 25 = 3 := by rw [mN, mq_25]
theorem mL_25 : mL 25 = 3 := by rw [mL, mq_25]
theorem mR_25 : mR 25 = (some .boolean) := by rw [mR, mq_25]
theorem wid_25 : wid 25 = 0 := by unfold wid; rw [mC_25]; rfl
set_option maxRecDepth 20000 in
theorem mq_26 : mq 26 = (yX0_boardOver, cX0_boardOver, 4, (some .int), 0, false, 3, ins_26) := rfl
theorem mI_26 : mI 26 = ins_26 := by rw [mI, mq_26]
theorem mC_26 : mC 26 = 0 := by rw [mC, mq_26]
theorem mS_26 : mS 26 = false := by rw [mS, mq_26]
theorem mN_26 : mN 26 = 3 := by rw [mN, mq_26]
theorem mL_26 : mL 26 = 4 := by rw [mL, mq_26]
theorem mR_26 : mR 26 = (some .int) := by rw [mR, mq_26]
theorem wid_26 : wid 26 = 0 := by unfold wid; rw [mC_26]; rfl
set_option maxRecDepth 20000 in
theorem mq_27 : mq 27 = (yX0_standingAt, cX0_standingAt, 5, (some .int), 0, false, 3, ins_27) := rfl
theorem mI_27 : mI 27 = ins_27 := by rw [mI, mq_27]
theorem mC_27 : mC 27 = 0 := by rw [mC, mq_27]
theorem mS_27 : mS 27 = false := by rw [mS, mq_27]
theorem mN_27 : mN 27 = 3 := by rw [mN, mq_27]
theorem mL_27 : mL 27 = 5 := by rw [mL, mq_27]
theorem mR_27 : mR 27 = (some .int) := by rw [mR, mq_27]
theorem wid_27 : wid 27 = 0 := by unfold wid; rw [mC_27]; rfl
set_option maxRecDepth 20000 in
theorem mq_28 : mq 28 = (yX0_loadOn, cX0_loadOn, 3, (some .int), 0, false, 3, ins_28) := rfl
theorem mI_28 : mI 28 = ins_28 := by rw [mI, mq_28]
theorem mC_28 : mC 28 = 0 := by rw [mC, mq_28]
theorem mS_28 : mS 28 = false := by rw [mS, mq_28]
theorem mN_28 : mN 28 = 3 := by rw [mN, mq_28]
theorem mL_28 : mL 28 = 3 := by rw [mL, mq_28]
theorem mR_28 : mR 28 = (some .int) := by rw [mR, mq_28]
theorem wid_28 : wid 28 = 0 := by unfold wid; rw [mC_28]; rfl
set_option maxRecDepth 20000 in
theorem mq_29 : mq 29 = (yX0_weightOver, cX0_weightOver, 6, (some .int), 0, false, 4, ins_29) := rfl
theorem mI_29 : mI 29 = ins_29 := by rw [mI, mq_29]
theorem mC_29 : mC 29 = 0 := by rw [mC, mq_29]
theorem mS_29 : mS 29 = false := by rw [mS, mq_29]
theorem mN_29 : mN 29 = 4 := by rw [mN, mq_29]
theorem mL_29 : mL 29 = 6 := by rw [mL, mq_29]
theorem mR_29 : mR 29 = (some .int) := by rw [mR, mq_29]
theorem wid_29 : wid 29 = 0 := by unfold wid; rw [mC_29]; rfl
set_option maxRecDepth 20000 in
theorem mq_30 : mq 30 = (yX0_isWell, cX0_isWell, 6, (some .boolean), 0, false, 2, ins_30) := rfl
theorem mI_30 : mI 30 = ins_30 := by rw [mI, mq_30]
theorem mC_30 : mC 30 = 0 := by rw [mC, mq_30]
theorem mS_30 : mS 30 = false := by rw [mS, mq_30]
theorem mN_30 : mN 30 = 2 := by rw [mN, mq_30]
theorem mL_30 : mL 30 = 6 := by rw [mL, mq_30]
theorem mR_30 : mR 30 = (some .boolean) := by rw [mR, mq_30]
theorem wid_30 : wid 30 = 0 := by unfold wid; rw [mC_30]; rfl
set_option maxRecDepth 20000 in
theorem mq_31 : mq 31 = (yX0_isSuch, cX0_isSuch, 5, (some .boolean), 0, false, 2, ins_31) := rfl
theorem mI_31 : mI 31 = ins_31 := by rw [mI, mq_31]
theorem mC_31 : mC 31 = 0 := by rw [mC, mq_31]
theorem mS_31 : mS 31 = false := by rw [mS, mq_31]
theorem mN_31 : mN 31 = 2 := by rw [mN, mq_31]
theorem mL_31 : mL 31 = 5 := by rw [mL, mq_31]
theorem mR_31 : mR 31 = (some .boolean) := by rw [mR, mq_31]
theorem wid_31 : wid 31 = 0 := by unfold wid; rw [mC_31]; rfl
set_option maxRecDepth 20000 in
theorem mq_32 : mq 32 = (yX0_outcome, cX0_outcome, 10, (some .int), 0, false, 3, ins_32) := rfl
theorem mI_32 : mI 32 = ins_32 := by rw [mI, mq_32]
theorem mC_32 : mC 32 = 0 := by rw [mC, mq_32]
theorem mS_32 : mS 32 = false := by rw [mS, mq_32]
theorem mN_32 : mN 32 = 3 := by rw [mN, mq_32]
theorem mL_32 : mL 32 = 10 := by rw [mL, mq_32]
theorem mR_32 : mR 32 = (some .int) := by rw [mR, mq_32]
theorem wid_32 : wid 32 = 0 := by unfold wid; rw [mC_32]; rfl
set_option maxRecDepth 20000 in
theorem mq_33 : mq 33 = (yX0_walked, cX0_walked, 6, (some .int), 0, false, 5, ins_33) := rfl
theorem mI_33 : mI 33 = ins_33 := by rw [mI, mq_33]
theorem mC_33 : mC 33 = 0 := by rw [mC, mq_33]
theorem mS_33 : mS 33 = false := by rw [mS, mq_33]
theorem mN_33 : mN 33 = 5 := by rw [mN, mq_33]
theorem mL_33 : mL 33 = 6 := by rw [mL, mq_33]
theorem mR_33 : mR 33 = (some .int) := by rw [mR, mq_33]
theorem wid_33 : wid 33 = 0 := by unfold wid; rw [mC_33]; rfl
set_option maxRecDepth 20000 in
theorem mq_34 : mq 34 = (yX0_leapt, cX0_leapt, 8, (some .int), 0, false, 5, ins_34) := rfl
theorem mI_34 : mI 34 = ins_34 := by rw [mI, mq_34]
theorem mC_34 : mC 34 = 0 := by rw [mC, mq_34]
theorem mS_34 : mS 34 = false := by rw [mS, mq_34]
theorem mN_34 : mN 34 = 5 := by rw [mN, mq_34]
theorem mL_34 : mL 34 = 8 := by rw [mL, mq_34]
theorem mR_34 : mR 34 = (some .int) := by rw [mR, mq_34]
theorem wid_34 : wid 34 = 0 := by unfold wid; rw [mC_34]; rfl
set_option maxRecDepth 20000 in
theorem mq_35 : mq 35 = (yX0_laid, cX0_laid, 9, (some .int), 0, false, 6, ins_35) := rfl
theorem mI_35 : mI 35 = ins_35 := by rw [mI, mq_35]
theorem mC_35 : mC 35 = 0 := by rw [mC, mq_35]
theorem mS_35 : mS 35 = false := by rw [mS, mq_35]
theorem mN_35 : mN 35 = 6 := by rw [mN, mq_35]
theorem mL_35 : mL 35 = 9 := by rw [mL, mq_35]
theorem mR_35 : mR 35 = (some .int) := by rw [mR, mq_35]
theorem wid_35 : wid 35 = 0 := by unfold wid; rw [mC_35]; rfl
set_option maxRecDepth 20000 in
theorem mq_36 : mq 36 = (yX0_taken, cX0_taken, 8, (some .int), 0, false, 4, ins_36) := rfl
theorem mI_36 : mI 36 = ins_36 := by rw [mI, mq_36]
theorem mC_36 : mC 36 = 0 := by rw [mC, mq_36]
theorem mS_36 : mS 36 = false := by rw [mS, mq_36]
theorem mN_36 : mN 36 = 4 := by rw [mN, mq_36]
theorem mL_36 : mL 36 = 8 := by rw [mL, mq_36]
theorem mR_36 : mR 36 = (some .int) := by rw [mR, mq_36]
theorem wid_36 : wid 36 = 0 := by unfold wid; rw [mC_36]; rfl
set_option maxRecDepth 20000 in
theorem mq_37 : mq 37 = (yX0_handed, cX0_handed, 7, (some .int), 0, false, 5, ins_37) := rfl
theorem mI_37 : mI 37 = ins_37 := by rw [mI, mq_37]
theorem mC_37 : mC 37 = 0 := by rw [mC, mq_37]
theorem mS_37 : mS 37 = false := by rw [mS, mq_37]
theorem mN_37 : mN 37 = 5 := by rw [mN, mq_37]
theorem mL_37 : mL 37 = 7 := by rw [mL, mq_37]
theorem mR_37 : mR 37 = (some .int) := by rw [mR, mq_37]
theorem wid_37 : wid 37 = 0 := by unfold wid; rw [mC_37]; rfl
set_option maxRecDepth 20000 in
theorem mq_38 : mq 38 = (yX0_digestOn, cX0_digestOn, 6, (some .long), 0, false, 2, ins_38) := rfl
theorem mI_38 : mI 38 = ins_38 := by rw [mI, mq_38]
theorem mC_38 : mC 38 = 0 := by rw [mC, mq_38]
theorem mS_38 : mS 38 = false := by rw [mS, mq_38]
theorem mN_38 : mN 38 = 2 := by rw [mN, mq_38]
theorem mL_38 : mL 38 = 6 := by rw [mL, mq_38]
theorem mR_38 : mR 38 = (some .long) := by rw [mR, mq_38]
theorem wid_38 : wid 38 = 0 := by unfold wid; rw [mC_38]; rfl
set_option maxRecDepth 20000 in
theorem mq_39 : mq 39 = (yX1_chanceOfAtLeast, cX1_chanceOfAtLeast, 7, none, 1, false, 4, ins_39) := rfl
theorem mI_39 : mI 39 = ins_39 := by rw [mI, mq_39]
theorem mC_39 : mC 39 = 1 := by rw [mC, mq_39]
theorem mS_39 : mS 39 = false := by rw [mS, mq_39]
theorem mN_39 : mN 39 = 4 := by rw [mN, mq_39]
theorem mL_39 : mL 39 = 7 := by rw [mL, mq_39]
theorem mR_39 : mR 39 = none := by rw [mR, mq_39]
theorem wid_39 : wid 39 = 0 := by unfold wid; rw [mC_39]; rfl
set_option maxRecDepth 20000 in
theorem mq_40 : mq 40 = (yX1_setTo, cX1_setTo, 5, none, 1, false, 3, ins_40) := rfl
theorem mI_40 : mI 40 = ins_40 := by rw [mI, mq_40]
theorem mC_40 : mC 40 = 1 := by rw [mC, mq_40]
theorem mS_40 : mS 40 = false := by rw [mS, mq_40]
theorem mN_40 : mN 40 = 3 := by rw [mN, mq_40]
theorem mL_40 : mL 40 = 5 := by rw [mL, mq_40]
theorem mR_40 : mR 40 = none := by rw [mR, mq_40]
theorem wid_40 : wid 40 = 0 := by unfold wid; rw [mC_40]; rfl
set_option maxRecDepth 20000 in
theorem mq_41 : mq 41 = (yX1_multiply, cX1_multiply, 7, none, 1, false, 3, ins_41) := rfl
theorem mI_41 : mI 41 = ins_41 := by rw [mI, mq_41]
theorem mC_41 : mC 41 = 1 := by rw [mC, mq_41]
theorem mS_41 : mS 41 = false := by rw [mS, mq_41]
theorem mN_41 : mN 41 = 3 := by rw [mN, mq_41]
theorem mL_41 : mL 41 = 7 := by rw [mL, mq_41]
theorem mR_41 : mR 41 = none := by rw [mR, mq_41]
theorem wid_41 : wid 41 = 0 := by unfold wid; rw [mC_41]; rfl
set_option maxRecDepth 20000 in
theorem mq_42 : mq 42 = (yX1_multiplyOften, cX1_multiplyOften, 4, none, 1, false, 3, ins_42) := rfl
theorem mI_42 : mI 42 = ins_42 := by rw [mI, mq_42]
theorem mC_42 : mC 42 = 1 := by rw [mC, mq_42]
theorem mS_42 : mS 42 = false := by rw [mS, mq_42]
theorem mN_42 : mN 42 = 3 := by rw [mN, mq_42]
theorem mL_42 : mL 42 = 4 := by rw [mL, mq_42]
theorem mR_42 : mR 42 = none := by rw [mR, mq_42]
theorem wid_42 : wid 42 = 0 := by unfold wid; rw [mC_42]; rfl
set_option maxRecDepth 20000 in
theorem mq_43 : mq 43 = (yX1_addTerm, cX1_addTerm, 4, none, 1, false, 1, ins_43) := rfl
theorem mI_43 : mI 43 = ins_43 := by rw [mI, mq_43]
theorem mC_43 : mC 43 = 1 := by rw [mC, mq_43]
theorem mS_43 : mS 43 = false := by rw [mS, mq_43]
theorem mN_43 : mN 43 = 1 := by rw [mN, mq_43]
theorem mL_43 : mL 43 = 4 := by rw [mL, mq_43]
theorem mR_43 : mR 43 = none := by rw [mR, mq_43]
theorem wid_43 : wid 43 = 0 := by unfold wid; rw [mC_43]; rfl
set_option maxRecDepth 20000 in
theorem mq_44 : mq 44 = (yX1_shorten, cX1_shorten, 2, none, 1, false, 2, ins_44) := rfl
theorem mI_44 : mI 44 = ins_44 := by rw [mI, mq_44]
theorem mC_44 : mC 44 = 1 := by rw [mC, mq_44]
theorem mS_44 : mS 44 = false := by rw [mS, mq_44]
theorem mN_44 : mN 44 = 2 := by rw [mN, mq_44]
theorem mL_44 : mL 44 = 2 := by rw [mL, mq_44]
theorem mR_44 : mR 44 = none := by rw [mR, mq_44]
theorem wid_44 : wid 44 = 0 := by unfold wid; rw [mC_44]; rfl
set_option maxRecDepth 20000 in
theorem mq_45 : mq 45 = (yX1_shortenBy, cX1_shortenBy, 4, none, 1, false, 3, ins_45) := rfl
theorem mI_45 : mI 45 = ins_45 := by rw [mI, mq_45]
theorem mC_45 : mC 45 = 1 := by rw [mC, mq_45]
theorem mS_45 : mS 45 = false := by rw [mS, mq_45]
theorem mN_45 : mN 45 = 3 := by rw [mN, mq_45]
theorem mL_45 : mL 45 = 4 := by rw [mL, mq_45]
theorem mR_45 : mR 45 = none := by rw [mR, mq_45]
theorem wid_45 : wid 45 = 0 := by unfold wid; rw [mC_45]; rfl
set_option maxRecDepth 20000 in
theorem mq_46 : mq 46 = (yX1_isMultiple, cX1_isMultiple, 6, (some .boolean), 1, false, 3, ins_46) := rfl
theorem mI_46 : mI 46 = ins_46 := by rw [mI, mq_46]
theorem mC_46 : mC 46 = 1 := by rw [mC, mq_46]
theorem mS_46 : mS 46 = false := by rw [mS, mq_46]
theorem mN_46 : mN 46 = 3 := by rw [mN, mq_46]
theorem mL_46 : mL 46 = 6 := by rw [mL, mq_46]
theorem mR_46 : mR 46 = (some .boolean) := by rw [mR, mq_46]
theorem wid_46 : wid 46 = 0 := by unfold wid; rw [mC_46]; rfl
set_option maxRecDepth 20000 in
theorem mq_47 : mq 47 = (yX1_divide, cX1_divide, 8, none, 1, false, 3, ins_47) := rfl
theorem mI_47 : mI 47 = ins_47 := by rw [mI, mq_47]
theorem mC_47 : mC 47 = 1 := by rw [mC, mq_47]
theorem mS_47 : mS 47 = false := by rw [mS, mq_47]
theorem mN_47 : mN 47 = 3 := by rw [mN, mq_47]
theorem mL_47 : mL 47 = 8 := by rw [mL, mq_47]
theorem mR_47 : mR 47 = none := by rw [mR, mq_47]
theorem wid_47 : wid 47 = 0 := by unfold wid; rw [mC_47]; rfl
set_option maxRecDepth 20000 in
theorem mq_48 : mq 48 = (yX1_sizeOf, cX1_sizeOf, 3, (some .int), 1, false, 2, ins_48) := rfl
theorem mI_48 : mI 48 = ins_48 := by rw [mI, mq_48]
theorem mC_48 : mC 48 = 1 := by rw [mC, mq_48]
theorem mS_48 : mS 48 = false := by rw [mS, mq_48]
theorem mN_48 : mN 48 = 2 := by rw [mN, mq_48]
theorem mL_48 : mL 48 = 3 := by rw [mL, mq_48]
theorem mR_48 : mR 48 = (some .int) := by rw [mR, mq_48]
theorem wid_48 : wid 48 = 0 := by unfold wid; rw [mC_48]; rfl
set_option maxRecDepth 20000 in
theorem mq_49 : mq 49 = (yX1_aboveLimb, cX1_aboveLimb, 2, (some .int), 1, false, 2, ins_49) := rfl
theorem mI_49 : mI 49 = ins_49 := by rw [mI, mq_49]
theorem mC_49 : mC 49 = 1 := by rw [mC, mq_49]
theorem mS_49 : mS 49 = false := by rw [mS, mq_49]
theorem mN_49 : mN 49 = 2 := by rw [mN, mq_49]
theorem mL_49 : mL 49 = 2 := by rw [mL, mq_49]
theorem mR_49 : mR 49 = (some .int) := by rw [mR, mq_49]
theorem wid_49 : wid 49 = 0 := by unfold wid; rw [mC_49]; rfl
set_option maxRecDepth 20000 in
theorem mq_50 : mq 50 = (yX1_belowLimb, cX1_belowLimb, 2, (some .int), 1, false, 2, ins_50) := rfl
theorem mI_50 : mI 50 = ins_50 := by rw [mI, mq_50]
theorem mC_50 : mC 50 = 1 := by rw [mC, mq_50]
theorem mS_50 : mS 50 = false := by rw [mS, mq_50]
theorem mN_50 : mN 50 = 2 := by rw [mN, mq_50]
theorem mL_50 : mL 50 = 2 := by rw [mL, mq_50]
theorem mR_50 : mR 50 = (some .int) := by rw [mR, mq_50]
theorem wid_50 : wid 50 = 0 := by unfold wid; rw [mC_50]; rfl
set_option maxRecDepth 20000 in
theorem mq_51 : mq 51 = (yX1_digestOn, cX1_digestOn, 6, (some .long), 1, false, 2, ins_51) := rfl
theorem mI_51 : mI 51 = ins_51 := by rw [mI, mq_51]
theorem mC_51 : mC 51 = 1 := by rw [mC, mq_51]
theorem mS_51 : mS 51 = false := by rw [mS, mq_51]
theorem mN_51 : mN 51 = 2 := by rw [mN, mq_51]
theorem mL_51 : mL 51 = 6 := by rw [mL, mq_51]
theorem mR_51 : mR 51 = (some .long) := by rw [mR, mq_51]
theorem wid_51 : wid 51 = 0 := by unfold wid; rw [mC_51]; rfl
set_option maxRecDepth 20000 in
theorem mq_52 : mq 52 = (yX3_run, cX3_run, 7, none, 3, false, 4, ins_52) := rfl
theorem mI_52 : mI 52 = ins_52 := by rw [mI, mq_52]
theorem mC_52 : mC 52 = 3 := by rw [mC, mq_52]
theorem mS_52 : mS 52 = false := by rw [mS, mq_52]
theorem mN_52 : mN 52 = 4 := by rw [mN, mq_52]
theorem mL_52 : mL 52 = 7 := by rw [mL, mq_52]
theorem mR_52 : mR 52 = none := by rw [mR, mq_52]
theorem wid_52 : wid 52 = 0 := by unfold wid; rw [mC_52]; rfl
set_option maxRecDepth 20000 in
theorem mq_53 : mq 53 = (yX3_step, cX3_step, 8, none, 3, false, 5, ins_53) := rfl
theorem mI_53 : mI 53 = ins_53 := by rw [mI, mq_53]
theorem mC_53 : mC 53 = 3 := by rw [mC, mq_53]
theorem mS_53 : mS 53 = false := by rw [mS, mq_53]
theorem mN_53 : mN 53 = 5 := by rw [mN, mq_53]
theorem mL_53 : mL 53 = 8 := by rw [mL, mq_53]
theorem mR_53 : mR 53 = none := by rw [mR, mq_53]
theorem wid_53 : wid 53 = 0 := by unfold wid; rw [mC_53]; rfl
set_option maxRecDepth 20000 in
theorem mq_54 : mq 54 = (yX3_look, cX3_look, 6, none, 3, false, 4, ins_54) := rfl
theorem mI_54 : mI 54 = ins_54 := by rw [mI, mq_54]
theorem mC_54 : mC 54 = 3 := by rw [mC, mq_54]
theorem mS_54 : mS 54 = false := by rw [mS, mq_54]
theorem mN_54 : mN 54 = 4 := by rw [mN, mq_54]
theorem mL_54 : mL 54 = 6 := by rw [mL, mq_54]
theorem mR_54 : mR 54 = none := by rw [mR, mq_54]
theorem wid_54 : wid 54 = 0 := by unfold wid; rw [mC_54]; rfl
set_option maxRecDepth 20000 in
theorem mq_55 : mq 55 = (yX3_actOf, cX3_actOf, 7, (some .int), 3, false, 4, ins_55) := rfl
theorem mI_55 : mI 55 = ins_55 := by rw [mI, mq_55]
theorem mC_55 : mC 55 = 3 := by rw [mC, mq_55]
theorem mS_55 : mS 55 = false := by rw [mS, mq_55]
theorem mN_55 : mN 55 = 4 := by rw [mN, mq_55]
theorem mL_55 : mL 55 = 7 := by rw [mL, mq_55]
theorem mR_55 : mR 55 = (some .int) := by rw [mR, mq_55]
theorem wid_55 : wid 55 = 0 := by unfold wid; rw [mC_55]; rfl
set_option maxRecDepth 20000 in
theorem mq_56 : mq 56 = (yX4_remember, cX4_remember, 2, none, 4, false, 2, ins_56) := rfl
theorem mI_56 : mI 56 = ins_56 := by rw [mI, mq_56]
theorem mC_56 : mC 56 = 4 := by rw [mC, mq_56]
theorem mS_56 : mS 56 = false := by rw [mS, mq_56]
theorem mN_56 : mN 56 = 2 := by rw [mN, mq_56]
theorem mL_56 : mL 56 = 2 := by rw [mL, mq_56]
theorem mR_56 : mR 56 = none := by rw [mR, mq_56]
theorem wid_56 : wid 56 = 0 := by unfold wid; rw [mC_56]; rfl
set_option maxRecDepth 20000 in
theorem mq_57 : mq 57 = (yX4_takeLatest, cX4_takeLatest, 1, (some .int), 4, false, 1, ins_57) := rfl
theorem mI_57 : mI 57 = ins_57 := by rw [mI, mq_57]
theorem mC_57 : mC 57 = 4 := by rw [mC, mq_57]
theorem mS_57 : mS 57 = false := by rw [mS, mq_57]
theorem mN_57 : mN 57 = 1 := by rw [mN, mq_57]
theorem mL_57 : mL 57 = 1 := by rw [mL, mq_57]
theorem mR_57 : mR 57 = (some .int) := by rw [mR, mq_57]
theorem wid_57 : wid 57 = 0 := by unfold wid; rw [mC_57]; rfl
set_option maxRecDepth 20000 in
theorem mq_58 : mq 58 = (yX4_copyOf, cX4_copyOf, 2, none, 4, false, 2, ins_58) := rfl
theorem mI_58 : mI 58 = ins_58 := by rw [mI, mq_58]
theorem mC_58 : mC 58 = 4 := by rw [mC, mq_58]
theorem mS_58 : mS 58 = false := by rw [mS, mq_58]
theorem mN_58 : mN 58 = 2 := by rw [mN, mq_58]
theorem mL_58 : mL 58 = 2 := by rw [mL, mq_58]
theorem mR_58 : mR 58 = none := by rw [mR, mq_58]
theorem wid_58 : wid 58 = 0 := by unfold wid; rw [mC_58]; rfl
set_option maxRecDepth 20000 in
theorem mq_59 : mq 59 = (yX5_append, cX5_append, 2, none, 5, false, 2, ins_59) := rfl
theorem mI_59 : mI 59 = ins_59 := by rw [mI, mq_59]
theorem mC_59 : mC 59 = 5 := by rw [mC, mq_59]
theorem mS_59 : mS 59 = false := by rw [mS, mq_59]
theorem mN_59 : mN 59 = 2 := by rw [mN, mq_59]
theorem mL_59 : mL 59 = 2 := by rw [mL, mq_59]
theorem mR_59 : mR 59 = none := by rw [mR, mq_59]
theorem wid_59 : wid 59 = 0 := by unfold wid; rw [mC_59]; rfl
set_option maxRecDepth 20000 in
theorem mq_60 : mq 60 = (yX5_empty, cX5_empty, 1, none, 5, false, 1, ins_60) := rfl
theorem mI_60 : mI 60 = ins_60 := by rw [mI, mq_60]
theorem mC_60 : mC 60 = 5 := by rw [mC, mq_60]
theorem mS_60 : mS 60 = false := by rw [mS, mq_60]
theorem mN_60 : mN 60 = 1 := by rw [mN, mq_60]
theorem mL_60 : mL 60 = 1 := by rw [mL, mq_60]
theorem mR_60 : mR 60 = none := by rw [mR, mq_60]
theorem wid_60 : wid 60 = 0 := by unfold wid; rw [mC_60]; rfl
set_option maxRecDepth 20000 in
theorem mq_61 : mq 61 = (yX5_copyOf, cX5_copyOf, 2, none, 5, false, 2, ins_61) := rfl
theorem mI_61 : mI 61 = ins_61 := by rw [mI, mq_61]
theorem mC_61 : mC 61 = 5 := by rw [mC, mq_61]
theorem mS_61 : mS 61 = false := by rw [mS, mq_61]
theorem mN_61 : mN 61 = 2 := by rw [mN, mq_61]
theorem mL_61 : mL 61 = 2 := by rw [mL, mq_61]
theorem mR_61 : mR 61 = none := by rw [mR, mq_61]
theorem wid_61 : wid 61 = 0 := by unfold wid; rw [mC_61]; rfl
set_option maxRecDepth 20000 in
theorem mq_62 : mq 62 = (yX5_faultCode, cX5_faultCode, 1, (some .int), 5, false, 1, ins_62) := rfl
theorem mI_62 : mI 62 = ins_62 := by rw [mI, mq_62]
theorem mC_62 : mC 62 = 5 := by rw [mC, mq_62]
theorem mS_62 : mS 62 = false := by rw [mS, mq_62]
theorem mN_62 : mN 62 = 1 := by rw [mN, mq_62]
theorem mL_62 : mL 62 = 1 := by rw [mL, mq_62]
theorem mR_62 : mR 62 = (some .int) := by rw [mR, mq_62]
theorem wid_62 : wid 62 = 0 := by unfold wid; rw [mC_62]; rfl
set_option maxRecDepth 20000 in
theorem mq_63 : mq 63 = (yX5_parseValue, cX5_parseValue, 3, none, 5, false, 2, ins_63) := rfl
theorem mI_63 : mI 63 = ins_63 := by rw [mI, mq_63]
theorem mC_63 : mC 63 = 5 := by rw [mC, mq_63]
theorem mS_63 : mS 63 = false := by rw [mS, mq_63]
theorem mN_63 : mN 63 = 2 := by rw [mN, mq_63]
theorem mL_63 : mL 63 = 3 := by rw [mL, mq_63]
theorem mR_63 : mR 63 = none := by rw [mR, mq_63]
theorem wid_63 : wid 63 = 0 := by unfold wid; rw [mC_63]; rfl
set_option maxRecDepth 20000 in
theorem mq_64 : mq 64 = (yX5_parseBoth, cX5_parseBoth, 3, none, 5, false, 2, ins_64) := rfl
theorem mI_64 : mI 64 = ins_64 := by rw [mI, mq_64]
theorem mC_64 : mC 64 = 5 := by rw [mC, mq_64]
theorem mS_64 : mS 64 = false := by rw [mS, mq_64]
theorem mN_64 : mN 64 = 2 := by rw [mN, mq_64]
theorem mL_64 : mL 64 = 3 := by rw [mL, mq_64]
theorem mR_64 : mR 64 = none := by rw [mR, mq_64]
theorem wid_64 : wid 64 = 0 := by unfold wid; rw [mC_64]; rfl
set_option maxRecDepth 20000 in
theorem mq_65 : mq 65 = (yX5_parseHeld, cX5_parseHeld, 3, none, 5, false, 2, ins_65) := rfl
theorem mI_65 : mI 65 = ins_65 := by rw [mI, mq_65]
theorem mC_65 : mC 65 = 5 := by rw [mC, mq_65]
theorem mS_65 : mS 65 = false := by rw [mS, mq_65]
theorem mN_65 : mN 65 = 2 := by rw [mN, mq_65]
theorem mL_65 : mL 65 = 3 := by rw [mL, mq_65]
theorem mR_65 : mR 65 = none := by rw [mR, mq_65]
theorem wid_65 : wid 65 = 0 := by unfold wid; rw [mC_65]; rfl
set_option maxRecDepth 20000 in
theorem mq_66 : mq 66 = (yX5_parseSum, cX5_parseSum, 4, none, 5, false, 2, ins_66) := rfl
theorem mI_66 : mI 66 = ins_66 := by rw [mI, mq_66]
theorem mC_66 : mC 66 = 5 := by rw [mC, mq_66]
theorem mS_66 : mS 66 = false := by rw [mS, mq_66]
theorem mN_66 : mN 66 = 2 := by rw [mN, mq_66]
theorem mL_66 : mL 66 = 4 := by rw [mL, mq_66]
theorem mR_66 : mR 66 = none := by rw [mR, mq_66]
theorem wid_66 : wid 66 = 0 := by unfold wid; rw [mC_66]; rfl
set_option maxRecDepth 20000 in
theorem mq_67 : mq 67 = (yX5_parseTerm, cX5_parseTerm, 4, none, 5, false, 2, ins_67) := rfl
theorem mI_67 : mI 67 = ins_67 := by rw [mI, mq_67]
theorem mC_67 : mC 67 = 5 := by rw [mC, mq_67]
theorem mS_67 : mS 67 = false := by rw [mS, mq_67]
theorem mN_67 : mN 67 = 2 := by rw [mN, mq_67]
theorem mL_67 : mL 67 = 4 := by rw [mL, mq_67]
theorem mR_67 : mR 67 = none := by rw [mR, mq_67]
theorem wid_67 : wid 67 = 0 := by unfold wid; rw [mC_67]; rfl
set_option maxRecDepth 20000 in
theorem mq_68 : mq 68 = (yX5_parseUnit, cX5_parseUnit, 6, none, 5, false, 2, ins_68) := rfl
theorem mI_68 : mI 68 = ins_68 := by rw [mI, mq_68]
theorem mC_68 : mC 68 = 5 := by rw [mC, mq_68]
theorem mS_68 : mS 68 = false := by rw [mS, mq_68]
theorem mN_68 : mN 68 = 2 := by rw [mN, mq_68]
theorem mL_68 : mL 68 = 6 := by rw [mL, mq_68]
theorem mR_68 : mR 68 = none := by rw [mR, mq_68]
theorem wid_68 : wid 68 = 0 := by unfold wid; rw [mC_68]; rfl
set_option maxRecDepth 20000 in
theorem mq_69 : mq 69 = (yX5_parseCore, cX5_parseCore, 3, none, 5, false, 2, ins_69) := rfl
theorem mI_69 : mI 69 = ins_69 := by rw [mI, mq_69]
theorem mC_69 : mC 69 = 5 := by rw [mC, mq_69]
theorem mS_69 : mS 69 = false := by rw [mS, mq_69]
theorem mN_69 : mN 69 = 2 := by rw [mN, mq_69]
theorem mL_69 : mL 69 = 3 := by rw [mL, mq_69]
theorem mR_69 : mR 69 = none := by rw [mR, mq_69]
theorem wid_69 : wid 69 = 0 := by unfold wid; rw [mC_69]; rfl
set_option maxRecDepth 20000 in
theorem mq_70 : mq 70 = (yX5_parseNumber, cX5_parseNumber, 4, none, 5, false, 1, ins_70) := rfl
theorem mI_70 : mI 70 = ins_70 := by rw [mI, mq_70]
theorem mC_70 : mC 70 = 5 := by rw [mC, mq_70]
theorem mS_70 : mS 70 = false := by rw [mS, mq_70]
theorem mN_70 : mN 70 = 1 := by rw [mN, mq_70]
theorem mL_70 : mL 70 = 4 := by rw [mL, mq_70]
theorem mR_70 : mR 70 = none := by rw [mR, mq_70]
theorem wid_70 : wid 70 = 0 := by unfold wid; rw [mC_70]; rfl
set_option maxRecDepth 20000 in
theorem mq_71 : mq 71 = (yX5_characterAt, cX5_characterAt, 2, (some .int), 5, false, 2, ins_71) := rfl
theorem mI_71 : mI 71 = ins_71 := by rw [mI, mq_71]
theorem mC_71 : mC 71 = 5 := by rw [mC, mq_71]
theorem mS_71 : mS 71 = false := by rw [mS, mq_71]
theorem mN_71 : mN 71 = 2 := by rw [mN, mq_71]
theorem mL_71 : mL 71 = 2 := by rw [mL, mq_71]
theorem mR_71 : mR 71 = (some .int) := by rw [mR, mq_71]
theorem wid_71 : wid 71 = 0 := by unfold wid; rw [mC_71]; rfl
set_option maxRecDepth 20000 in
theorem mq_72 : mq 72 = (yX5_next, cX5_next, 1, (some .int), 5, false, 1, ins_72) := rfl
theorem mI_72 : mI 72 = ins_72 := by rw [mI, mq_72]
theorem mC_72 : mC 72 = 5 := by rw [mC, mq_72]
theorem mS_72 : mS 72 = false := by rw [mS, mq_72]
theorem mN_72 : mN 72 = 1 := by rw [mN, mq_72]
theorem mL_72 : mL 72 = 1 := by rw [mL, mq_72]
theorem mR_72 : mR 72 = (some .int) := by rw [mR, mq_72]
theorem wid_72 : wid 72 = 0 := by unfold wid; rw [mC_72]; rfl
set_option maxRecDepth 20000 in
theorem mq_73 : mq 73 = (yX5_takes, cX5_takes, 2, (some .boolean), 5, false, 2, ins_73) := rfl
theorem mI_73 : mI 73 = ins_73 := by rw [mI, mq_73]
theorem mC_73 : mC 73 = 5 := by rw [mC, mq_73]
theorem mS_73 : mS 73 = false := by rw [mS, mq_73]
theorem mN_73 : mN 73 = 2 := by rw [mN, mq_73]
theorem mL_73 : mL 73 = 2 := by rw [mL, mq_73]
theorem mR_73 : mR 73 = (some .boolean) := by rw [mR, mq_73]
theorem wid_73 : wid 73 = 0 := by unfold wid; rw [mC_73]; rfl
set_option maxRecDepth 20000 in
theorem mq_74 : mq 74 = (yX5_breakHere, cX5_breakHere, 2, none, 5, false, 2, ins_74) := rfl
theorem mI_74 : mI 74 = ins_74 := by rw [mI, mq_74]
theorem mC_74 : mC 74 = 5 := by rw [mC, mq_74]
theorem mS_74 : mS 74 = false := by rw [mS, mq_74]
theorem mN_74 : mN 74 = 2 := by rw [mN, mq_74]
theorem mL_74 : mL 74 = 2 := by rw [mL, mq_74]
theorem mR_74 : mR 74 = none := by rw [mR, mq_74]
theorem wid_74 : wid 74 = 0 := by unfold wid; rw [mC_74]; rfl
set_option maxRecDepth 20000 in
theorem mq_75 : mq 75 = (yX5_emit, cX5_emit, 2, none, 5, false, 2, ins_75) := rfl
theorem mI_75 : mI 75 = ins_75 := by rw [mI, mq_75]
theorem mC_75 : mC 75 = 5 := by rw [mC, mq_75]
theorem mS_75 : mS 75 = false := by rw [mS, mq_75]
theorem mN_75 : mN 75 = 2 := by rw [mN, mq_75]
theorem mL_75 : mL 75 = 2 := by rw [mL, mq_75]
theorem mR_75 : mR 75 = none := by rw [mR, mq_75]
theorem wid_75 : wid 75 = 0 := by unfold wid; rw [mC_75]; rfl
set_option maxRecDepth 20000 in
theorem mq_76 : mq 76 = (yX5_isDigit, cX5_isDigit, 2, (some .boolean), 5, false, 2, ins_76) := rfl
theorem mI_76 : mI 76 = ins_76 := by rw [mI, mq_76]
theorem mC_76 : mC 76 = 5 := by rw [mC, mq_76]
theorem mS_76 : mS 76 = false := by rw [mS, mq_76]
theorem mN_76 : mN 76 = 2 := by rw [mN, mq_76]
theorem mL_76 : mL 76 = 2 := by rw [mL, mq_76]
theorem mR_76 : mR 76 = (some .boolean) := by rw [mR, mq_76]
theorem wid_76 : wid 76 = 0 := by unfold wid; rw [mC_76]; rfl
set_option maxRecDepth 20000 in
theorem mq_77 : mq 77 = (yX5_isSeen, cX5_isSeen, 2, (some .boolean), 5, false, 2, ins_77) := rfl
theorem mI_77 : mI 77 = ins_77 := by rw [mI, mq_77]
theorem mC_77 : mC 77 = 5 := by rw [mC, mq_77]
theorem mS_77 : mS 77 = false := by rw [mS, mq_77]
theorem mN_77 : mN 77 = 2 := by rw [mN, mq_77]
theorem mL_77 : mL 77 = 2 := by rw [mL, mq_77]
theorem mR_77 : mR 77 = (some .boolean) := by rw [mR, mq_77]
theorem wid_77 : wid 77 = 0 := by unfold wid; rw [mC_77]; rfl
set_option maxRecDepth 20000 in
theorem mq_78 : mq 78 = (yX5_worked, cX5_worked, 6, (some .long), 5, false, 2, ins_78) := rfl
theorem mI_78 : mI 78 = ins_78 := by rw [mI, mq_78]
theorem mC_78 : mC 78 = 5 := by rw [mC, mq_78]
theorem mS_78 : mS 78 = false := by rw [mS, mq_78]
theorem mN_78 : mN 78 = 2 := by rw [mN, mq_78]
theorem mL_78 : mL 78 = 6 := by rw [mL, mq_78]
theorem mR_78 : mR 78 = (some .long) := by rw [mR, mq_78]
theorem wid_78 : wid 78 = 0 := by unfold wid; rw [mC_78]; rfl
set_option maxRecDepth 20000 in
theorem mq_79 : mq 79 = (yX5_push, cX5_push, 3, none, 5, false, 2, ins_79) := rfl
theorem mI_79 : mI 79 = ins_79 := by rw [mI, mq_79]
theorem mC_79 : mC 79 = 5 := by rw [mC, mq_79]
theorem mS_79 : mS 79 = false := by rw [mS, mq_79]
theorem mN_79 : mN 79 = 2 := by rw [mN, mq_79]
theorem mL_79 : mL 79 = 3 := by rw [mL, mq_79]
theorem mR_79 : mR 79 = none := by rw [mR, mq_79]
theorem wid_79 : wid 79 = 0 := by unfold wid; rw [mC_79]; rfl
set_option maxRecDepth 20000 in
theorem mq_80 : mq 80 = (yX5_pop, cX5_pop, 1, (some .long), 5, false, 1, ins_80) := rfl
theorem mI_80 : mI 80 = ins_80 := by rw [mI, mq_80]
theorem mC_80 : mC 80 = 5 := by rw [mC, mq_80]
theorem mS_80 : mS 80 = false := by rw [mS, mq_80]
theorem mN_80 : mN 80 = 1 := by rw [mN, mq_80]
theorem mL_80 : mL 80 = 1 := by rw [mL, mq_80]
theorem mR_80 : mR 80 = (some .long) := by rw [mR, mq_80]
theorem wid_80 : wid 80 = 0 := by unfold wid; rw [mC_80]; rfl
set_option maxRecDepth 20000 in
theorem mq_81 : mq 81 = (yX5_joined, cX5_joined, 6, (some .long), 5, false, 4, ins_81) := rfl
theorem mI_81 : mI 81 = ins_81 := by rw [mI, mq_81]
theorem mC_81 : mC 81 = 5 := by rw [mC, mq_81]
theorem mS_81 : mS 81 = false := by rw [mS, mq_81]
theorem mN_81 : mN 81 = 4 := by rw [mN, mq_81]
theorem mL_81 : mL 81 = 6 := by rw [mL, mq_81]
theorem mR_81 : mR 81 = (some .long) := by rw [mR, mq_81]
theorem wid_81 : wid 81 = 0 := by unfold wid; rw [mC_81]; rfl
set_option maxRecDepth 20000 in
theorem mq_82 : mq 82 = (yX5_digestOn, cX5_digestOn, 6, (some .long), 5, false, 2, ins_82) := rfl
theorem mI_82 : mI 82 = ins_82 := by rw [mI, mq_82]
theorem mC_82 : mC 82 = 5 := by rw [mC, mq_82]
theorem mS_82 : mS 82 = false := by rw [mS, mq_82]
theorem mN_82 : mN 82 = 2 := by rw [mN, mq_82]
theorem mL_82 : mL 82 = 6 := by rw [mL, mq_82]
theorem mR_82 : mR 82 = (some .long) := by rw [mR, mq_82]
theorem wid_82 : wid 82 = 0 := by unfold wid; rw [mC_82]; rfl
set_option maxRecDepth 20000 in
theorem mq_83 : mq 83 = (yX6_forget, cX6_forget, 2, none, 6, false, 1, ins_83) := rfl
theorem mI_83 : mI 83 = ins_83 := by rw [mI, mq_83]
theorem mC_83 : mC 83 = 6 := by rw [mC, mq_83]
theorem mS_83 : mS 83 = false := by rw [mS, mq_83]
theorem mN_83 : mN 83 = 1 := by rw [mN, mq_83]
theorem mL_83 : mL 83 = 2 := by rw [mL, mq_83]
theorem mR_83 : mR 83 = none := by rw [mR, mq_83]
theorem wid_83 : wid 83 = 0 := by unfold wid; rw [mC_83]; rfl
set_option maxRecDepth 20000 in
theorem mq_84 : mq 84 = (yX6_rowLength, cX6_rowLength, 2, (some .int), 6, false, 2, ins_84) := rfl
theorem mI_84 : mI 84 = ins_84 := by rw [mI, mq_84]
theorem mC_84 : mC 84 = 6 := by rw [mC, mq_84]
theorem mS_84 : mS 84 = false := by rw [mS, mq_84]
theorem mN_84 : mN 84 = 2 := by rw [mN, mq_84]
theorem mL_84 : mL 84 = 2 := by rw [mL, mq_84]
theorem mR_84 : mR 84 = (some .int) := by rw [mR, mq_84]
theorem wid_84 : wid 84 = 0 := by unfold wid; rw [mC_84]; rfl
set_option maxRecDepth 20000 in
theorem mq_85 : mq 85 = (yX6_rowAct, cX6_rowAct, 4, (some .int), 6, false, 2, ins_85) := rfl
theorem mI_85 : mI 85 = ins_85 := by rw [mI, mq_85]
theorem mC_85 : mC 85 = 6 := by rw [mC, mq_85]
theorem mS_85 : mS 85 = false := by rw [mS, mq_85]
theorem mN_85 : mN 85 = 2 := by rw [mN, mq_85]
theorem mL_85 : mL 85 = 4 := by rw [mL, mq_85]
theorem mR_85 : mR 85 = (some .int) := by rw [mR, mq_85]
theorem wid_85 : wid 85 = 0 := by unfold wid; rw [mC_85]; rfl
set_option maxRecDepth 20000 in
theorem mq_86 : mq 86 = (yX6_cameFromAt, cX6_cameFromAt, 2, (some .int), 6, false, 2, ins_86) := rfl
theorem mI_86 : mI 86 = ins_86 := by rw [mI, mq_86]
theorem mC_86 : mC 86 = 6 := by rw [mC, mq_86]
theorem mS_86 : mS 86 = false := by rw [mS, mq_86]
theorem mN_86 : mN 86 = 2 := by rw [mN, mq_86]
theorem mL_86 : mL 86 = 2 := by rw [mL, mq_86]
theorem mR_86 : mR 86 = (some .int) := by rw [mR, mq_86]
theorem wid_86 : wid 86 = 0 := by unfold wid; rw [mC_86]; rfl
set_option maxRecDepth 20000 in
theorem mq_87 : mq 87 = (yX6_lengthWithout, cX6_lengthWithout, 4, (some .int), 6, false, 3, ins_87) := rfl
theorem mI_87 : mI 87 = ins_87 := by rw [mI, mq_87]
theorem mC_87 : mC 87 = 6 := by rw [mC, mq_87]
theorem mS_87 : mS 87 = false := by rw [mS, mq_87]
theorem mN_87 : mN 87 = 3 := by rw [mN, mq_87]
theorem mL_87 : mL 87 = 4 := by rw [mL, mq_87]
theorem mR_87 : mR 87 = (some .int) := by rw [mR, mq_87]
theorem wid_87 : wid 87 = 0 := by unfold wid; rw [mC_87]; rfl
set_option maxRecDepth 20000 in
theorem mq_88 : mq 88 = (yX6_leapsWithout, cX6_leapsWithout, 6, (some .int), 6, false, 3, ins_88) := rfl
theorem mI_88 : mI 88 = ins_88 := by rw [mI, mq_88]
theorem mC_88 : mC 88 = 6 := by rw [mC, mq_88]
theorem mS_88 : mS 88 = false := by rw [mS, mq_88]
theorem mN_88 : mN 88 = 3 := by rw [mN, mq_88]
theorem mL_88 : mL 88 = 6 := by rw [mL, mq_88]
theorem mR_88 : mR 88 = (some .int) := by rw [mR, mq_88]
theorem wid_88 : wid 88 = 0 := by unfold wid; rw [mC_88]; rfl
set_option maxRecDepth 20000 in
theorem mq_89 : mq 89 = (yX6_shortest, cX6_shortest, 6, (some .int), 6, false, 3, ins_89) := rfl
theorem mI_89 : mI 89 = ins_89 := by rw [mI, mq_89]
theorem mC_89 : mC 89 = 6 := by rw [mC, mq_89]
theorem mS_89 : mS 89 = false := by rw [mS, mq_89]
theorem mN_89 : mN 89 = 3 := by rw [mN, mq_89]
theorem mL_89 : mL 89 = 6 := by rw [mL, mq_89]
theorem mR_89 : mR 89 = (some .int) := by rw [mR, mq_89]
theorem wid_89 : wid 89 = 0 := by unfold wid; rw [mC_89]; rfl
set_option maxRecDepth 20000 in
theorem mq_90 : mq 90 = (yX6_fewestLeaps, cX6_fewestLeaps, 7, (some .int), 6, false, 3, ins_90) := rfl
theorem mI_90 : mI 90 = ins_90 := by rw [mI, mq_90]
theorem mC_90 : mC 90 = 6 := by rw [mC, mq_90]
theorem mS_90 : mS 90 = false := by rw [mS, mq_90]
theorem mN_90 : mN 90 = 3 := by rw [mN, mq_90]
theorem mL_90 : mL 90 = 7 := by rw [mL, mq_90]
theorem mR_90 : mR 90 = (some .int) := by rw [mR, mq_90]
theorem wid_90 : wid 90 = 0 := by unfold wid; rw [mC_90]; rfl
set_option maxRecDepth 20000 in
theorem mq_91 : mq 91 = (yX6_begin, cX6_begin, 2, none, 6, false, 2, ins_91) := rfl
theorem mI_91 : mI 91 = ins_91 := by rw [mI, mq_91]
theorem mC_91 : mC 91 = 6 := by rw [mC, mq_91]
theorem mS_91 : mS 91 = false := by rw [mS, mq_91]
theorem mN_91 : mN 91 = 2 := by rw [mN, mq_91]
theorem mL_91 : mL 91 = 2 := by rw [mL, mq_91]
theorem mR_91 : mR 91 = none := by rw [mR, mq_91]
theorem wid_91 : wid 91 = 0 := by unfold wid; rw [mC_91]; rfl
set_option maxRecDepth 20000 in
theorem mq_92 : mq 92 = (yX6_listActs, cX6_listActs, 5, none, 6, false, 4, ins_92) := rfl
theorem mI_92 : mI 92 = ins_92 := by rw [mI, mq_92]
theorem mC_92 : mC 92 = 6 := by rw [mC, mq_92]
theorem mS_92 : mS 92 = false := by rw [mS, mq_92]
theorem mN_92 : mN 92 = 4 := by rw [mN, mq_92]
theorem mL_92 : mL 92 = 5 := by rw [mL, mq_92]
theorem mR_92 : mR 92 = none := by rw [mR, mq_92]
theorem wid_92 : wid 92 = 0 := by unfold wid; rw [mC_92]; rfl
set_option maxRecDepth 20000 in
theorem mq_93 : mq 93 = (yX6_goOn, cX6_goOn, 5, (some .boolean), 6, false, 3, ins_93) := rfl
theorem mI_93 : mI 93 = ins_93 := by rw [mI, mq_93]
theorem mC_93 : mC 93 = 6 := by rw [mC, mq_93]
theorem mS_93 : mS 93 = false := by rw [mS, mq_93]
theorem mN_93 : mN 93 = 3 := by rw [mN, mq_93]
theorem mL_93 : mL 93 = 5 := by rw [mL, mq_93]
theorem mR_93 : mR 93 = (some .boolean) := by rw [mR, mq_93]
theorem wid_93 : wid 93 = 0 := by unfold wid; rw [mC_93]; rfl
set_option maxRecDepth 20000 in
theorem mq_94 : mq 94 = (yX6_enter, cX6_enter, 2, (some .boolean), 6, false, 2, ins_94) := rfl
theorem mI_94 : mI 94 = ins_94 := by rw [mI, mq_94]
theorem mC_94 : mC 94 = 6 := by rw [mC, mq_94]
theorem mS_94 : mS 94 = false := by rw [mS, mq_94]
theorem mN_94 : mN 94 = 2 := by rw [mN, mq_94]
theorem mL_94 : mL 94 = 2 := by rw [mL, mq_94]
theorem mR_94 : mR 94 = (some .boolean) := by rw [mR, mq_94]
theorem wid_94 : wid 94 = 0 := by unfold wid; rw [mC_94]; rfl
set_option maxRecDepth 20000 in
theorem mq_95 : mq 95 = (yX7_valueOf, cX7_valueOf, 2, (some .int), 7, false, 2, ins_95) := rfl
theorem mI_95 : mI 95 = ins_95 := by rw [mI, mq_95]
theorem mC_95 : mC 95 = 7 := by rw [mC, mq_95]
theorem mS_95 : mS 95 = false := by rw [mS, mq_95]
theorem mN_95 : mN 95 = 2 := by rw [mN, mq_95]
theorem mL_95 : mL 95 = 2 := by rw [mL, mq_95]
theorem mR_95 : mR 95 = (some .int) := by rw [mR, mq_95]
theorem wid_95 : wid 95 = 0 := by unfold wid; rw [mC_95]; rfl
set_option maxRecDepth 20000 in
theorem mq_96 : mq 96 = (yX8_append, cX8_append, 2, none, 8, false, 2, ins_96) := rfl
theorem mI_96 : mI 96 = ins_96 := by rw [mI, mq_96]
theorem mC_96 : mC 96 = 8 := by rw [mC, mq_96]
theorem mS_96 : mS 96 = false := by rw [mS, mq_96]
theorem mN_96 : mN 96 = 2 := by rw [mN, mq_96]
theorem mL_96 : mL 96 = 2 := by rw [mL, mq_96]
theorem mR_96 : mR 96 = none := by rw [mR, mq_96]
theorem wid_96 : wid 96 = 0 := by unfold wid; rw [mC_96]; rfl
set_option maxRecDepth 20000 in
theorem mq_97 : mq 97 = (yX8_byteAt, cX8_byteAt, 2, (some .int), 8, false, 2, ins_97) := rfl
theorem mI_97 : mI 97 = ins_97 := by rw [mI, mq_97]
theorem mC_97 : mC 97 = 8 := by rw [mC, mq_97]
theorem mS_97 : mS 97 = false := by rw [mS, mq_97]
theorem mN_97 : mN 97 = 2 := by rw [mN, mq_97]
theorem mL_97 : mL 97 = 2 := by rw [mL, mq_97]
theorem mR_97 : mR 97 = (some .int) := by rw [mR, mq_97]
theorem wid_97 : wid 97 = 0 := by unfold wid; rw [mC_97]; rfl
set_option maxRecDepth 20000 in
theorem mq_98 : mq 98 = (yX9_readInto, cX9_readInto, 3, (some .int), 9, false, 2, ins_98) := rfl
theorem mI_98 : mI 98 = ins_98 := by rw [mI, mq_98]
theorem mC_98 : mC 98 = 9 := by rw [mC, mq_98]
theorem mS_98 : mS 98 = false := by rw [mS, mq_98]
theorem mN_98 : mN 98 = 2 := by rw [mN, mq_98]
theorem mL_98 : mL 98 = 3 := by rw [mL, mq_98]
theorem mR_98 : mR 98 = (some .int) := by rw [mR, mq_98]
theorem wid_98 : wid 98 = 0 := by unfold wid; rw [mC_98]; rfl
set_option maxRecDepth 20000 in
theorem mq_99 : mq 99 = (yX9_readItem, cX9_readItem, 5, none, 9, false, 3, ins_99) := rfl
theorem mI_99 : mI 99 = ins_99 := by rw [mI, mq_99]
theorem mC_99 : mC 99 = 9 := by rw [mC, mq_99]
theorem mS_99 : mS 99 = false := by rw [mS, mq_99]
theorem mN_99 : mN 99 = 3 := by rw [mN, mq_99]
theorem mL_99 : mL 99 = 5 := by rw [mL, mq_99]
theorem mR_99 : mR 99 = none := by rw [mR, mq_99]
theorem wid_99 : wid 99 = 0 := by unfold wid; rw [mC_99]; rfl
set_option maxRecDepth 20000 in
theorem mq_100 : mq 100 = (yX9_readBoard, cX9_readBoard, 6, none, 9, false, 2, ins_100) := rfl
theorem mI_100 : mI 100 = ins_100 := by rw [mI, mq_100]
theorem mC_100 : mC 100 = 9 := by rw [mC, mq_100]
theorem mS_100 : mS 100 = false := by rw [mS, mq_100]
theorem mN_100 : mN 100 = 2 := by rw [mN, mq_100]
theorem mL_100 : mL 100 = 6 := by rw [mL, mq_100]
theorem mR_100 : mR 100 = none := by rw [mR, mq_100]
theorem wid_100 : wid 100 = 0 := by unfold wid; rw [mC_100]; rfl
set_option maxRecDepth 20000 in
theorem mq_101 : mq 101 = (yX9_number, cX9_number, 3, (some .int), 9, false, 3, ins_101) := rfl
theorem mI_101 : mI 101 = ins_101 := by rw [mI, mq_101]
theorem mC_101 : mC 101 = 9 := by rw [mC, mq_101]
theorem mS_101 : mS 101 = false := by rw [mS, mq_101]
theorem mN_101 : mN 101 = 3 := by rw [mN, mq_101]
theorem mL_101 : mL 101 = 3 := by rw [mL, mq_101]
theorem mR_101 : mR 101 = (some .int) := by rw [mR, mq_101]
theorem wid_101 : wid 101 = 0 := by unfold wid; rw [mC_101]; rfl
set_option maxRecDepth 20000 in
theorem mq_102 : mq 102 = (yX9_expectStop, cX9_expectStop, 1, none, 9, false, 1, ins_102) := rfl
theorem mI_102 : mI 102 = ins_102 := by rw [mI, mq_102]
theorem mC_102 : mC 102 = 9 := by rw [mC, mq_102]
theorem mS_102 : mS 102 = false := by rw [mS, mq_102]
theorem mN_102 : mN 102 = 1 := by rw [mN, mq_102]
theorem mL_102 : mL 102 = 1 := by rw [mL, mq_102]
theorem mR_102 : mR 102 = none := by rw [mR, mq_102]
theorem wid_102 : wid 102 = 0 := by unfold wid; rw [mC_102]; rfl
set_option maxRecDepth 20000 in
theorem mq_103 : mq 103 = (yX9_breakHere, cX9_breakHere, 1, none, 9, false, 1, ins_103) := rfl
theorem mI_103 : mI 103 = ins_103 := by rw [mI, mq_103]
theorem mC_103 : mC 103 = 9 := by rw [mC, mq_103]
theorem mS_103 : mS 103 = false := by rw [mS, mq_103]
theorem mN_103 : mN 103 = 1 := by rw [mN, mq_103]
theorem mL_103 : mL 103 = 1 := by rw [mL, mq_103]
theorem mR_103 : mR 103 = none := by rw [mR, mq_103]
theorem wid_103 : wid 103 = 0 := by unfold wid; rw [mC_103]; rfl
set_option maxRecDepth 20000 in
theorem mq_104 : mq 104 = (yX9_nextToken, cX9_nextToken, 2, none, 9, false, 1, ins_104) := rfl
theorem mI_104 : mI 104 = ins_104 := by rw [mI, mq_104]
theorem mC_104 : mC 104 = 9 := by rw [mC, mq_104]
theorem mS_104 : mS 104 = false := by rw [mS, mq_104]
theorem mN_104 : mN 104 = 1 := by rw [mN, mq_104]
theorem mL_104 : mL 104 = 2 := by rw [mL, mq_104]
theorem mR_104 : mR 104 = none := by rw [mR, mq_104]
theorem wid_104 : wid 104 = 0 := by unfold wid; rw [mC_104]; rfl
set_option maxRecDepth 20000 in
theorem mq_105 : mq 105 = (yX9_readFigures, cX9_readFigures, 1, none, 9, false, 1, ins_105) := rfl
theorem mI_105 : mI 105 = ins_105 := by rw [mI, mq_105]
theorem mC_105 : mC 105 = 9 := by rw [mC, mq_105]
theorem mS_105 : mS 105 = false := by rw [mS, mq_105]
theorem mN_105 : mN 105 = 1 := by rw [mN, mq_105]
theorem mL_105 : mL 105 = 1 := by rw [mL, mq_105]
theorem mR_105 : mR 105 = none := by rw [mR, mq_105]
theorem wid_105 : wid 105 = 0 := by unfold wid; rw [mC_105]; rfl
set_option maxRecDepth 20000 in
theorem mq_106 : mq 106 = (yX9_isWord, cX9_isWord, 3, (some .boolean), 9, false, 2, ins_106) := rfl
theorem mI_106 : mI 106 = ins_106 := by rw [mI, mq_106]
theorem mC_106 : mC 106 = 9 := by rw [mC, mq_106]
theorem mS_106 : mS 106 = false := by rw [mS, mq_106]
theorem mN_106 : mN 106 = 2 := by rw [mN, mq_106]
theorem mL_106 : mL 106 = 3 := by rw [mL, mq_106]
theorem mR_106 : mR 106 = (some .boolean) := by rw [mR, mq_106]
theorem wid_106 : wid 106 = 0 := by unfold wid; rw [mC_106]; rfl
set_option maxRecDepth 20000 in
theorem mq_107 : mq 107 = (yX9_isLetter, cX9_isLetter, 2, (some .boolean), 9, false, 2, ins_107) := rfl
theorem mI_107 : mI 107 = ins_107 := by rw [mI, mq_107]
theorem mC_107 : mC 107 = 9 := by rw [mC, mq_107]
theorem mS_107 : mS 107 = false := by rw [mS, mq_107]
theorem mN_107 : mN 107 = 2 := by rw [mN, mq_107]
theorem mL_107 : mL 107 = 2 := by rw [mL, mq_107]
theorem mR_107 : mR 107 = (some .boolean) := by rw [mR, mq_107]
theorem wid_107 : wid 107 = 0 := by unfold wid; rw [mC_107]; rfl
set_option maxRecDepth 20000 in
theorem mq_108 : mq 108 = (yX9_isFigure, cX9_isFigure, 2, (some .boolean), 9, false, 2, ins_108) := rfl
theorem mI_108 : mI 108 = ins_108 := by rw [mI, mq_108]
theorem mC_108 : mC 108 = 9 := by rw [mC, mq_108]
theorem mS_108 : mS 108 = false := by rw [mS, mq_108]
theorem mN_108 : mN 108 = 2 := by rw [mN, mq_108]
theorem mL_108 : mL 108 = 2 := by rw [mL, mq_108]
theorem mR_108 : mR 108 = (some .boolean) := by rw [mR, mq_108]
theorem wid_108 : wid 108 = 0 := by unfold wid; rw [mC_108]; rfl
set_option maxRecDepth 20000 in
theorem mq_109 : mq 109 = (yX10_type, cX10_type, 5, (some .int), 10, false, 3, ins_109) := rfl
theorem mI_109 : mI 109 = ins_109 := by rw [mI, mq_109]
theorem mC_109 : mC 109 = 10 := by rw [mC, mq_109]
theorem mS_109 : mS 109 = false := by rw [mS, mq_109]
theorem mN_109 : mN 109 = 3 := by rw [mN, mq_109]
theorem mL_109 : mL 109 = 5 := by rw [mL, mq_109]
theorem mR_109 : mR 109 = (some .int) := by rw [mR, mq_109]
theorem wid_109 : wid 109 = 0 := by unfold wid; rw [mC_109]; rfl
set_option maxRecDepth 20000 in
theorem mq_110 : mq 110 = (yX10_clear, cX10_clear, 2, (some .int), 10, false, 1, ins_110) := rfl
theorem mI_110 : mI 110 = ins_110 := by rw [mI, mq_110]
theorem mC_110 : mC 110 = 10 := by rw [mC, mq_110]
theorem mS_110 : mS 110 = false := by rw [mS, mq_110]
theorem mN_110 : mN 110 = 1 := by rw [mN, mq_110]
theorem mL_110 : mL 110 = 2 := by rw [mL, mq_110]
theorem mR_110 : mR 110 = (some .int) := by rw [mR, mq_110]
theorem wid_110 : wid 110 = 0 := by unfold wid; rw [mC_110]; rfl
set_option maxRecDepth 20000 in
theorem mq_111 : mq 111 = (yX10_read, cX10_read, 2, (some .int), 10, false, 1, ins_111) := rfl
theorem mI_111 : mI 111 = ins_111 := by rw [mI, mq_111]
theorem mC_111 : mC 111 = 10 := by rw [mC, mq_111]
theorem mS_111 : mS 111 = false := by rw [mS, mq_111]
theorem mN_111 : mN 111 = 1 := by rw [mN, mq_111]
theorem mL_111 : mL 111 = 2 := by rw [mL, mq_111]
theorem mR_111 : mR 111 = (some .int) := by rw [mR, mq_111]
theorem wid_111 : wid 111 = 0 := by unfold wid; rw [mC_111]; rfl
set_option maxRecDepth 20000 in
theorem mq_112 : mq 112 = (yX10_place, cX10_place, 2, (some .int), 10, false, 2, ins_112) := rfl
theorem mI_112 : mI 112 = ins_112 := by rw [mI, mq_112]
theorem mC_112 : mC 112 = 10 := by rw [mC, mq_112]
theorem mS_112 : mS 112 = false := by rw [mS, mq_112]
theorem mN_112 : mN 112 = 2 := by rw [mN, mq_112]
theorem mL_112 : mL 112 = 2 := by rw [mL, mq_112]
theorem mR_112 : mR 112 = (some .int) := by rw [mR, mq_112]
theorem wid_112 : wid 112 = 0 := by unfold wid; rw [mC_112]; rfl
set_option maxRecDepth 20000 in
theorem mq_113 : mq 113 = (yX10_firm, cX10_firm, 2, (some .int), 10, false, 2, ins_113) := rfl
theorem mI_113 : mI 113 = ins_113 := by rw [mI, mq_113]
theorem mC_113 : mC 113 = 10 := by rw [mC, mq_113]
theorem mS_113 : mS 113 = false := by rw [mS, mq_113]
theorem mN_113 : mN 113 = 2 := by rw [mN, mq_113]
theorem mL_113 : mL 113 = 2 := by rw [mL, mq_113]
theorem mR_113 : mR 113 = (some .int) := by rw [mR, mq_113]
theorem wid_113 : wid 113 = 0 := by unfold wid; rw [mC_113]; rfl
set_option maxRecDepth 20000 in
theorem mq_114 : mq 114 = (yX10_walker, cX10_walker, 3, (some .int), 10, false, 3, ins_114) := rfl
theorem mI_114 : mI 114 = ins_114 := by rw [mI, mq_114]
theorem mC_114 : mC 114 = 10 := by rw [mC, mq_114]
theorem mS_114 : mS 114 = false := by rw [mS, mq_114]
theorem mN_114 : mN 114 = 3 := by rw [mN, mq_114]
theorem mL_114 : mL 114 = 3 := by rw [mL, mq_114]
theorem mR_114 : mR 114 = (some .int) := by rw [mR, mq_114]
theorem wid_114 : wid 114 = 0 := by unfold wid; rw [mC_114]; rfl
set_option maxRecDepth 20000 in
theorem mq_115 : mq 115 = (yX10_board, cX10_board, 3, (some .int), 10, false, 3, ins_115) := rfl
theorem mI_115 : mI 115 = ins_115 := by rw [mI, mq_115]
theorem mC_115 : mC 115 = 10 := by rw [mC, mq_115]
theorem mS_115 : mS 115 = false := by rw [mS, mq_115]
theorem mN_115 : mN 115 = 3 := by rw [mN, mq_115]
theorem mL_115 : mL 115 = 3 := by rw [mL, mq_115]
theorem mR_115 : mR 115 = (some .int) := by rw [mR, mq_115]
theorem wid_115 : wid 115 = 0 := by unfold wid; rw [mC_115]; rfl
set_option maxRecDepth 20000 in
theorem mq_116 : mq 116 = (yX10_why, cX10_why, 3, (some .int), 10, false, 2, ins_116) := rfl
theorem mI_116 : mI 116 = ins_116 := by rw [mI, mq_116]
theorem mC_116 : mC 116 = 10 := by rw [mC, mq_116]
theorem mS_116 : mS 116 = false := by rw [mS, mq_116]
theorem mN_116 : mN 116 = 2 := by rw [mN, mq_116]
theorem mL_116 : mL 116 = 3 := by rw [mL, mq_116]
theorem mR_116 : mR 116 = (some .int) := by rw [mR, mq_116]
theorem wid_116 : wid 116 = 0 := by unfold wid; rw [mC_116]; rfl
set_option maxRecDepth 20000 in
theorem mq_117 : mq 117 = (yX10_act, cX10_act, 3, (some .int), 10, false, 2, ins_117) := rfl
theorem mI_117 : mI 117 = ins_117 := by rw [mI, mq_117]
theorem mC_117 : mC 117 = 10 := by rw [mC, mq_117]
theorem mS_117 : mS 117 = false := by rw [mS, mq_117]
theorem mN_117 : mN 117 = 2 := by rw [mN, mq_117]
theorem mL_117 : mL 117 = 3 := by rw [mL, mq_117]
theorem mR_117 : mR 117 = (some .int) := by rw [mR, mq_117]
theorem wid_117 : wid 117 = 0 := by unfold wid; rw [mC_117]; rfl
set_option maxRecDepth 20000 in
theorem mq_118 : mq 118 = (yX10_undo, cX10_undo, 1, (some .int), 10, false, 1, ins_118) := rfl
theorem mI_118 : mI 118 = ins_118 := by rw [mI, mq_118]
theorem mC_118 : mC 118 = 10 := by rw [mC, mq_118]
theorem mS_118 : mS 118 = false := by rw [mS, mq_118]
theorem mN_118 : mN 118 = 1 := by rw [mN, mq_118]
theorem mL_118 : mL 118 = 1 := by rw [mL, mq_118]
theorem mR_118 : mR 118 = (some .int) := by rw [mR, mq_118]
theorem wid_118 : wid 118 = 0 := by unfold wid; rw [mC_118]; rfl
set_option maxRecDepth 20000 in
theorem mq_119 : mq 119 = (yX10_over, cX10_over, 1, (some .int), 10, false, 1, ins_119) := rfl
theorem mI_119 : mI 119 = ins_119 := by rw [mI, mq_119]
theorem mC_119 : mC 119 = 10 := by rw [mC, mq_119]
theorem mS_119 : mS 119 = false := by rw [mS, mq_119]
theorem mN_119 : mN 119 = 1 := by rw [mN, mq_119]
theorem mL_119 : mL 119 = 1 := by rw [mL, mq_119]
theorem mR_119 : mR 119 = (some .int) := by rw [mR, mq_119]
theorem wid_119 : wid 119 = 0 := by unfold wid; rw [mC_119]; rfl
set_option maxRecDepth 20000 in
theorem mq_120 : mq 120 = (yX10_fewest, cX10_fewest, 1, (some .int), 10, false, 1, ins_120) := rfl
theorem mI_120 : mI 120 = ins_120 := by rw [mI, mq_120]
theorem mC_120 : mC 120 = 10 := by rw [mC, mq_120]
theorem mS_120 : mS 120 = false := by rw [mS, mq_120]
theorem mN_120 : mN 120 = 1 := by rw [mN, mq_120]
theorem mL_120 : mL 120 = 1 := by rw [mL, mq_120]
theorem mR_120 : mR 120 = (some .int) := by rw [mR, mq_120]
theorem wid_120 : wid 120 = 0 := by unfold wid; rw [mC_120]; rfl
set_option maxRecDepth 20000 in
theorem mq_121 : mq 121 = (yX10_row, cX10_row, 3, (some .int), 10, false, 2, ins_121) := rfl
theorem mI_121 : mI 121 = ins_121 := by rw [mI, mq_121]
theorem mC_121 : mC 121 = 10 := by rw [mC, mq_121]
theorem mS_121 : mS 121 = false := by rw [mS, mq_121]
theorem mN_121 : mN 121 = 2 := by rw [mN, mq_121]
theorem mL_121 : mL 121 = 3 := by rw [mL, mq_121]
theorem mR_121 : mR 121 = (some .int) := by rw [mR, mq_121]
theorem wid_121 : wid 121 = 0 := by unfold wid; rw [mC_121]; rfl
set_option maxRecDepth 20000 in
theorem mq_122 : mq 122 = (yX10_lost, cX10_lost, 2, (some .int), 10, false, 2, ins_122) := rfl
theorem mI_122 : mI 122 = ins_122 := by rw [mI, mq_122]
theorem mC_122 : mC 122 = 10 := by rw [mC, mq_122]
theorem mS_122 : mS 122 = false := by rw [mS, mq_122]
theorem mN_122 : mN 122 = 2 := by rw [mN, mq_122]
theorem mL_122 : mL 122 = 2 := by rw [mL, mq_122]
theorem mR_122 : mR 122 = (some .int) := by rw [mR, mq_122]
theorem wid_122 : wid 122 = 0 := by unfold wid; rw [mC_122]; rfl
set_option maxRecDepth 20000 in
theorem mq_123 : mq 123 = (yX10_leaps, cX10_leaps, 2, (some .int), 10, false, 2, ins_123) := rfl
theorem mI_123 : mI 123 = ins_123 := by rw [mI, mq_123]
theorem mC_123 : mC 123 = 10 := by rw [mC, mq_123]
theorem mS_123 : mS 123 = false := by rw [mS, mq_123]
theorem mN_123 : mN 123 = 2 := by rw [mN, mq_123]
theorem mL_123 : mL 123 = 2 := by rw [mL, mq_123]
theorem mR_123 : mR 123 = (some .int) := by rw [mR, mq_123]
theorem wid_123 : wid 123 = 0 := by unfold wid; rw [mC_123]; rfl
set_option maxRecDepth 20000 in
theorem mq_124 : mq 124 = (yX10_wrong, cX10_wrong, 4, (some .int), 10, false, 2, ins_124) := rfl
theorem mI_124 : mI 124 = ins_124 := by rw [mI, mq_124]
theorem mC_124 : mC 124 = 10 := by rw [mC, mq_124]
theorem mS_124 : mS 124 = false := by rw [mS, mq_124]
theorem mN_124 : mN 124 = 2 := by rw [mN, mq_124]
theorem mL_124 : mL 124 = 4 := by rw [mL, mq_124]
theorem mR_124 : mR 124 = (some .int) := by rw [mR, mq_124]
theorem wid_124 : wid 124 = 0 := by unfold wid; rw [mC_124]; rfl
set_option maxRecDepth 20000 in
theorem mq_125 : mq 125 = (yX10_write, cX10_write, 2, (some .int), 10, false, 2, ins_125) := rfl
theorem mI_125 : mI 125 = ins_125 := by rw [mI, mq_125]
theorem mC_125 : mC 125 = 10 := by rw [mC, mq_125]
theorem mS_125 : mS 125 = false := by rw [mS, mq_125]
theorem mN_125 : mN 125 = 2 := by rw [mN, mq_125]
theorem mL_125 : mL 125 = 2 := by rw [mL, mq_125]
theorem mR_125 : mR 125 = (some .int) := by rw [mR, mq_125]
theorem wid_125 : wid 125 = 0 := by unfold wid; rw [mC_125]; rfl
set_option maxRecDepth 20000 in
theorem mq_126 : mq 126 = (yX10_erase, cX10_erase, 2, (some .int), 10, false, 1, ins_126) := rfl
theorem mI_126 : mI 126 = ins_126 := by rw [mI, mq_126]
theorem mC_126 : mC 126 = 10 := by rw [mC, mq_126]
theorem mS_126 : mS 126 = false := by rw [mS, mq_126]
theorem mN_126 : mN 126 = 1 := by rw [mN, mq_126]
theorem mL_126 : mL 126 = 2 := by rw [mL, mq_126]
theorem mR_126 : mR 126 = (some .int) := by rw [mR, mq_126]
theorem wid_126 : wid 126 = 0 := by unfold wid; rw [mC_126]; rfl
set_option maxRecDepth 20000 in
theorem mq_127 : mq 127 = (yX10_fault, cX10_fault, 1, (some .int), 10, false, 1, ins_127) := rfl
theorem mI_127 : mI 127 = ins_127 := by rw [mI, mq_127]
theorem mC_127 : mC 127 = 10 := by rw [mC, mq_127]
theorem mS_127 : mS 127 = false := by rw [mS, mq_127]
theorem mN_127 : mN 127 = 1 := by rw [mN, mq_127]
theorem mL_127 : mL 127 = 1 := by rw [mL, mq_127]
theorem mR_127 : mR 127 = (some .int) := by rw [mR, mq_127]
theorem wid_127 : wid 127 = 0 := by unfold wid; rw [mC_127]; rfl
set_option maxRecDepth 20000 in
theorem mq_128 : mq 128 = (yX10_mist, cX10_mist, 3, (some .int), 10, false, 3, ins_128) := rfl
theorem mI_128 : mI 128 = ins_128 := by rw [mI, mq_128]
theorem mC_128 : mC 128 = 10 := by rw [mC, mq_128]
theorem mS_128 : mS 128 = false := by rw [mS, mq_128]
theorem mN_128 : mN 128 = 3 := by rw [mN, mq_128]
theorem mL_128 : mL 128 = 3 := by rw [mL, mq_128]
theorem mR_128 : mR 128 = (some .int) := by rw [mR, mq_128]
theorem wid_128 : wid 128 = 0 := by unfold wid; rw [mC_128]; rfl
set_option maxRecDepth 20000 in
theorem mq_129 : mq 129 = (yX10_years, cX10_years, 4, (some .int), 10, false, 4, ins_129) := rfl
theorem mI_129 : mI 129 = ins_129 := by rw [mI, mq_129]
theorem mC_129 : mC 129 = 10 := by rw [mC, mq_129]
theorem mS_129 : mS 129 = false := by rw [mS, mq_129]
theorem mN_129 : mN 129 = 4 := by rw [mN, mq_129]
theorem mL_129 : mL 129 = 4 := by rw [mL, mq_129]
theorem mR_129 : mR 129 = (some .int) := by rw [mR, mq_129]
theorem wid_129 : wid 129 = 0 := by unfold wid; rw [mC_129]; rfl
set_option maxRecDepth 20000 in
theorem mq_130 : mq 130 = (yX10_sign, cX10_sign, 2, (some .int), 10, false, 2, ins_130) := rfl
theorem mI_130 : mI 130 = ins_130 := by rw [mI, mq_130]
theorem mC_130 : mC 130 = 10 := by rw [mC, mq_130]
theorem mS_130 : mS 130 = false := by rw [mS, mq_130]
theorem mN_130 : mN 130 = 2 := by rw [mN, mq_130]
theorem mL_130 : mL 130 = 2 := by rw [mL, mq_130]
theorem mR_130 : mR 130 = (some .int) := by rw [mR, mq_130]
theorem wid_130 : wid 130 = 0 := by unfold wid; rw [mC_130]; rfl
set_option maxRecDepth 20000 in
theorem mq_131 : mq 131 = (yX10_limb, cX10_limb, 3, (some .int), 10, false, 3, ins_131) := rfl
theorem mI_131 : mI 131 = ins_131 := by rw [mI, mq_131]
theorem mC_131 : mC 131 = 10 := by rw [mC, mq_131]
theorem mS_131 : mS 131 = false := by rw [mS, mq_131]
theorem mN_131 : mN 131 = 3 := by rw [mN, mq_131]
theorem mL_131 : mL 131 = 3 := by rw [mL, mq_131]
theorem mR_131 : mR 131 = (some .int) := by rw [mR, mq_131]
theorem wid_131 : wid 131 = 0 := by unfold wid; rw [mC_131]; rfl
set_option maxRecDepth 20000 in
theorem mq_132 : mq 132 = (yX10_image, cX10_image, 3, (some .int), 10, false, 2, ins_132) := rfl
theorem mI_132 : mI 132 = ins_132 := by rw [mI, mq_132]
theorem mC_132 : mC 132 = 10 := by rw [mC, mq_132]
theorem mS_132 : mS 132 = false := by rw [mS, mq_132]
theorem mN_132 : mN 132 = 2 := by rw [mN, mq_132]
theorem mL_132 : mL 132 = 3 := by rw [mL, mq_132]
theorem mR_132 : mR 132 = (some .int) := by rw [mR, mq_132]
theorem wid_132 : wid 132 = 0 := by unfold wid; rw [mC_132]; rfl
set_option maxRecDepth 20000 in
theorem mq_133 : mq 133 = (yX10_from, cX10_from, 3, (some .int), 10, false, 2, ins_133) := rfl
theorem mI_133 : mI 133 = ins_133 := by rw [mI, mq_133]
theorem mC_133 : mC 133 = 10 := by rw [mC, mq_133]
theorem mS_133 : mS 133 = false := by rw [mS, mq_133]
theorem mN_133 : mN 133 = 2 := by rw [mN, mq_133]
theorem mL_133 : mL 133 = 3 := by rw [mL, mq_133]
theorem mR_133 : mR 133 = (some .int) := by rw [mR, mq_133]
theorem wid_133 : wid 133 = 0 := by unfold wid; rw [mC_133]; rfl
set_option maxRecDepth 20000 in
theorem mq_134 : mq 134 = (yX10_status, cX10_status, 2, (some .int), 10, false, 2, ins_134) := rfl
theorem mI_134 : mI 134 = ins_134 := by rw [mI, mq_134]
theorem mC_134 : mC 134 = 10 := by rw [mC, mq_134]
theorem mS_134 : mS 134 = false := by rw [mS, mq_134]
theorem mN_134 : mN 134 = 2 := by rw [mN, mq_134]
theorem mL_134 : mL 134 = 2 := by rw [mL, mq_134]
theorem mR_134 : mR 134 = (some .int) := by rw [mR, mq_134]
theorem wid_134 : wid 134 = 0 := by unfold wid; rw [mC_134]; rfl
set_option maxRecDepth 20000 in
theorem mq_135 : mq 135 = (yX10_count, cX10_count, 2, (some .int), 10, false, 2, ins_135) := rfl
theorem mI_135 : mI 135 = ins_135 := by rw [mI, mq_135]
theorem mC_135 : mC 135 = 10 := by rw [mC, mq_135]
theorem mS_135 : mS 135 = false := by rw [mS, mq_135]
theorem mN_135 : mN 135 = 2 := by rw [mN, mq_135]
theorem mL_135 : mL 135 = 2 := by rw [mL, mq_135]
theorem mR_135 : mR 135 = (some .int) := by rw [mR, mq_135]
theorem wid_135 : wid 135 = 0 := by unfold wid; rw [mC_135]; rfl
set_option maxRecDepth 20000 in
theorem mq_136 : mq 136 = (yX10_digest, cX10_digest, 4, (some .long), 10, false, 1, ins_136) := rfl
theorem mI_136 : mI 136 = ins_136 := by rw [mI, mq_136]
theorem mC_136 : mC 136 = 10 := by rw [mC, mq_136]
theorem mS_136 : mS 136 = false := by rw [mS, mq_136]
theorem mN_136 : mN 136 = 1 := by rw [mN, mq_136]
theorem mL_136 : mL 136 = 4 := by rw [mL, mq_136]
theorem mR_136 : mR 136 = (some .long) := by rw [mR, mq_136]
theorem wid_136 : wid 136 = 0 := by unfold wid; rw [mC_136]; rfl
set_option maxRecDepth 20000 in
theorem mq_137 : mq 137 = (yX10_amount, cX10_amount, 2, (some .int), 10, false, 2, ins_137) := rfl
theorem mI_137 : mI 137 = ins_137 := by rw [mI, mq_137]
theorem mC_137 : mC 137 = 10 := by rw [mC, mq_137]
theorem mS_137 : mS 137 = false := by rw [mS, mq_137]
theorem mN_137 : mN 137 = 2 := by rw [mN, mq_137]
theorem mL_137 : mL 137 = 2 := by rw [mL, mq_137]
theorem mR_137 : mR 137 = (some .int) := by rw [mR, mq_137]
theorem wid_137 : wid 137 = 0 := by unfold wid; rw [mC_137]; rfl
set_option maxRecDepth 20000 in
theorem mq_138 : mq 138 = (yX10_refused, cX10_refused, 3, (some .int), 10, false, 3, ins_138) := rfl
theorem mI_138 : mI 138 = ins_138 := by rw [mI, mq_138]
theorem mC_138 : mC 138 = 10 := by rw [mC, mq_138]
theorem mS_138 : mS 138 = false := by rw [mS, mq_138]
theorem mN_138 : mN 138 = 3 := by rw [mN, mq_138]
theorem mL_138 : mL 138 = 3 := by rw [mL, mq_138]
theorem mR_138 : mR 138 = (some .int) := by rw [mR, mq_138]
theorem wid_138 : wid 138 = 0 := by unfold wid; rw [mC_138]; rfl
set_option maxRecDepth 20000 in
theorem mq_139 : mq 139 = (yX10_outcomeNow, cX10_outcomeNow, 2, (some .int), 10, false, 2, ins_139) := rfl
theorem mI_139 : mI 139 = ins_139 := by rw [mI, mq_139]
theorem mC_139 : mC 139 = 10 := by rw [mC, mq_139]
theorem mS_139 : mS 139 = false := by rw [mS, mq_139]
theorem mN_139 : mN 139 = 2 := by rw [mN, mq_139]
theorem mL_139 : mL 139 = 2 := by rw [mL, mq_139]
theorem mR_139 : mR 139 = (some .int) := by rw [mR, mq_139]
theorem wid_139 : wid 139 = 0 := by unfold wid; rw [mC_139]; rfl
set_option maxRecDepth 20000 in
theorem mq_140 : mq 140 = (yX10_moveTo, cX10_moveTo, 2, none, 10, false, 2, ins_140) := rfl
theorem mI_140 : mI 140 = ins_140 := by rw [mI, mq_140]
theorem mC_140 : mC 140 = 10 := by rw [mC, mq_140]
theorem mS_140 : mS 140 = false := by rw [mS, mq_140]
theorem mN_140 : mN 140 = 2 := by rw [mN, mq_140]
theorem mL_140 : mL 140 = 2 := by rw [mL, mq_140]
theorem mR_140 : mR 140 = none := by rw [mR, mq_140]
theorem wid_140 : wid 140 = 0 := by unfold wid; rw [mC_140]; rfl
set_option maxRecDepth 20000 in
theorem mq_141 : mq 141 = (yX10_imageOf, cX10_imageOf, 2, (some (.object "BogBoards$Image")), 10, false, 2, ins_141) := rfl
theorem mI_141 : mI 141 = ins_141 := by rw [mI, mq_141]
theorem mC_141 : mC 141 = 10 := by rw [mC, mq_141]
theorem mS_141 : mS 141 = false := by rw [mS, mq_141]
theorem mN_141 : mN 141 = 2 := by rw [mN, mq_141]
theorem mL_141 : mL 141 = 2 := by rw [mL, mq_141]
theorem mR_141 : mR 141 = (some (.object "BogBoards$Image")) := by rw [mR, mq_141]
theorem wid_141 : wid 141 = 0 := by unfold wid; rw [mC_141]; rfl
set_option maxRecDepth 20000 in
theorem mq_142 : mq 142 = (yX11_in, cX11_in, 6, (some .boolean), 11, true, 3, ins_142) := rfl
theorem mI_142 : mI 142 = ins_142 := by rw [mI, mq_142]
theorem mC_142 : mC 142 = 11 := by rw [mC, mq_142]
theorem mS_142 : mS 142 = true := by rw [mS, mq_142]
theorem mN_142 : mN 142 = 3 := by rw [mN, mq_142]
theorem mL_142 : mL 142 = 6 := by rw [mL, mq_142]
theorem mR_142 : mR 142 = (some .boolean) := by rw [mR, mq_142]
theorem wid_142 : wid 142 = 1 := by unfold wid; rw [mC_142]; rfl
set_option maxRecDepth 20000 in
theorem mq_143 : mq 143 = (yX11_bad, cX11_bad, 2, (some .int), 11, false, 2, ins_143) := rfl
theorem mI_143 : mI 143 = ins_143 := by rw [mI, mq_143]
theorem mC_143 : mC 143 = 11 := by rw [mC, mq_143]
theorem mS_143 : mS 143 = false := by rw [mS, mq_143]
theorem mN_143 : mN 143 = 2 := by rw [mN, mq_143]
theorem mL_143 : mL 143 = 2 := by rw [mL, mq_143]
theorem mR_143 : mR 143 = (some .int) := by rw [mR, mq_143]
theorem wid_143 : wid 143 = 1 := by unfold wid; rw [mC_143]; rfl
set_option maxRecDepth 20000 in
theorem mq_144 : mq 144 = (yX11_no, cX11_no, 1, (some .int), 11, false, 1, ins_144) := rfl
theorem mI_144 : mI 144 = ins_144 := by rw [mI, mq_144]
theorem mC_144 : mC 144 = 11 := by rw [mC, mq_144]
theorem mS_144 : mS 144 = false := by rw [mS, mq_144]
theorem mN_144 : mN 144 = 1 := by rw [mN, mq_144]
theorem mL_144 : mL 144 = 1 := by rw [mL, mq_144]
theorem mR_144 : mR 144 = (some .int) := by rw [mR, mq_144]
theorem wid_144 : wid 144 = 1 := by unfold wid; rw [mC_144]; rfl
set_option maxRecDepth 20000 in
theorem mq_145 : mq 145 = (yX11_full, cX11_full, 1, (some .int), 11, false, 1, ins_145) := rfl
theorem mI_145 : mI 145 = ins_145 := by rw [mI, mq_145]
theorem mC_145 : mC 145 = 11 := by rw [mC, mq_145]
theorem mS_145 : mS 145 = false := by rw [mS, mq_145]
theorem mN_145 : mN 145 = 1 := by rw [mN, mq_145]
theorem mL_145 : mL 145 = 1 := by rw [mL, mq_145]
theorem mR_145 : mR 145 = (some .int) := by rw [mR, mq_145]
theorem wid_145 : wid 145 = 1 := by unfold wid; rw [mC_145]; rfl
set_option maxRecDepth 20000 in
theorem mq_146 : mq 146 = (yX11_set, cX11_set, 6, none, 11, false, 3, ins_146) := rfl
theorem mI_146 : mI 146 = ins_146 := by rw [mI, mq_146]
theorem mC_146 : mC 146 = 11 := by rw [mC, mq_146]
theorem mS_146 : mS 146 = false := by rw [mS, mq_146]
theorem mN_146 : mN 146 = 3 := by rw [mN, mq_146]
theorem mL_146 : mL 146 = 6 := by rw [mL, mq_146]
theorem mR_146 : mR 146 = none := by rw [mR, mq_146]
theorem wid_146 : wid 146 = 1 := by unfold wid; rw [mC_146]; rfl
set_option maxRecDepth 20000 in
theorem mq_147 : mq 147 = (yX11_copy, cX11_copy, 4, none, 11, false, 3, ins_147) := rfl
theorem mI_147 : mI 147 = ins_147 := by rw [mI, mq_147]
theorem mC_147 : mC 147 = 11 := by rw [mC, mq_147]
theorem mS_147 : mS 147 = false := by rw [mS, mq_147]
theorem mN_147 : mN 147 = 3 := by rw [mN, mq_147]
theorem mL_147 : mL 147 = 4 := by rw [mL, mq_147]
theorem mR_147 : mR 147 = none := by rw [mR, mq_147]
theorem wid_147 : wid 147 = 1 := by unfold wid; rw [mC_147]; rfl
set_option maxRecDepth 20000 in
theorem mq_148 : mq 148 = (yX11_trim, cX11_trim, 2, none, 11, false, 2, ins_148) := rfl
theorem mI_148 : mI 148 = ins_148 := by rw [mI, mq_148]
theorem mC_148 : mC 148 = 11 := by rw [mC, mq_148]
theorem mS_148 : mS 148 = false := by rw [mS, mq_148]
theorem mN_148 : mN 148 = 2 := by rw [mN, mq_148]
theorem mL_148 : mL 148 = 2 := by rw [mL, mq_148]
theorem mR_148 : mR 148 = none := by rw [mR, mq_148]
theorem wid_148 : wid 148 = 1 := by unfold wid; rw [mC_148]; rfl
set_option maxRecDepth 20000 in
theorem mq_149 : mq 149 = (yX11_times, cX11_times, 9, none, 11, false, 3, ins_149) := rfl
theorem mI_149 : mI 149 = ins_149 := by rw [mI, mq_149]
theorem mC_149 : mC 149 = 11 := by rw [mC, mq_149]
theorem mS_149 : mS 149 = false := by rw [mS, mq_149]
theorem mN_149 : mN 149 = 3 := by rw [mN, mq_149]
theorem mL_149 : mL 149 = 9 := by rw [mL, mq_149]
theorem mR_149 : mR 149 = none := by rw [mR, mq_149]
theorem wid_149 : wid 149 = 1 := by unfold wid; rw [mC_149]; rfl
set_option maxRecDepth 20000 in
theorem mq_150 : mq 150 = (yX11_compare, cX11_compare, 6, (some .int), 11, false, 3, ins_150) := rfl
theorem mI_150 : mI 150 = ins_150 := by rw [mI, mq_150]
theorem mC_150 : mC 150 = 11 := by rw [mC, mq_150]
theorem mS_150 : mS 150 = false := by rw [mS, mq_150]
theorem mN_150 : mN 150 = 3 := by rw [mN, mq_150]
theorem mL_150 : mL 150 = 6 := by rw [mL, mq_150]
theorem mR_150 : mR 150 = (some .int) := by rw [mR, mq_150]
theorem wid_150 : wid 150 = 1 := by unfold wid; rw [mC_150]; rfl
set_option maxRecDepth 20000 in
theorem mq_151 : mq 151 = (yX11_add, cX11_add, 9, none, 11, false, 3, ins_151) := rfl
theorem mI_151 : mI 151 = ins_151 := by rw [mI, mq_151]
theorem mC_151 : mC 151 = 11 := by rw [mC, mq_151]
theorem mS_151 : mS 151 = false := by rw [mS, mq_151]
theorem mN_151 : mN 151 = 3 := by rw [mN, mq_151]
theorem mL_151 : mL 151 = 9 := by rw [mL, mq_151]
theorem mR_151 : mR 151 = none := by rw [mR, mq_151]
theorem wid_151 : wid 151 = 1 := by unfold wid; rw [mC_151]; rfl
set_option maxRecDepth 20000 in
theorem mq_152 : mq 152 = (yX11_take, cX11_take, 8, none, 11, false, 3, ins_152) := rfl
theorem mI_152 : mI 152 = ins_152 := by rw [mI, mq_152]
theorem mC_152 : mC 152 = 11 := by rw [mC, mq_152]
theorem mS_152 : mS 152 = false := by rw [mS, mq_152]
theorem mN_152 : mN 152 = 3 := by rw [mN, mq_152]
theorem mL_152 : mL 152 = 8 := by rw [mL, mq_152]
theorem mR_152 : mR 152 = none := by rw [mR, mq_152]
theorem wid_152 : wid 152 = 1 := by unfold wid; rw [mC_152]; rfl
set_option maxRecDepth 20000 in
theorem mq_153 : mq 153 = (yX11_halve, cX11_halve, 7, none, 11, false, 2, ins_153) := rfl
theorem mI_153 : mI 153 = ins_153 := by rw [mI, mq_153]
theorem mC_153 : mC 153 = 11 := by rw [mC, mq_153]
theorem mS_153 : mS 153 = false := by rw [mS, mq_153]
theorem mN_153 : mN 153 = 2 := by rw [mN, mq_153]
theorem mL_153 : mL 153 = 7 := by rw [mL, mq_153]
theorem mR_153 : mR 153 = none := by rw [mR, mq_153]
theorem wid_153 : wid 153 = 1 := by unfold wid; rw [mC_153]; rfl
set_option maxRecDepth 20000 in
theorem mq_154 : mq 154 = (yX11_isEven, cX11_isEven, 2, (some .boolean), 11, false, 2, ins_154) := rfl
theorem mI_154 : mI 154 = ins_154 := by rw [mI, mq_154]
theorem mC_154 : mC 154 = 11 := by rw [mC, mq_154]
theorem mS_154 : mS 154 = false := by rw [mS, mq_154]
theorem mN_154 : mN 154 = 2 := by rw [mN, mq_154]
theorem mL_154 : mL 154 = 2 := by rw [mL, mq_154]
theorem mR_154 : mR 154 = (some .boolean) := by rw [mR, mq_154]
theorem wid_154 : wid 154 = 1 := by unfold wid; rw [mC_154]; rfl
set_option maxRecDepth 20000 in
theorem mq_155 : mq 155 = (yX11_findDivisor, cX11_findDivisor, 5, none, 11, false, 3, ins_155) := rfl
theorem mI_155 : mI 155 = ins_155 := by rw [mI, mq_155]
theorem mC_155 : mC 155 = 11 := by rw [mC, mq_155]
theorem mS_155 : mS 155 = false := by rw [mS, mq_155]
theorem mN_155 : mN 155 = 3 := by rw [mN, mq_155]
theorem mL_155 : mL 155 = 5 := by rw [mL, mq_155]
theorem mR_155 : mR 155 = none := by rw [mR, mq_155]
theorem wid_155 : wid 155 = 1 := by unfold wid; rw [mC_155]; rfl
set_option maxRecDepth 20000 in
theorem mq_156 : mq 156 = (yX11_divide, cX11_divide, 7, none, 11, false, 2, ins_156) := rfl
theorem mI_156 : mI 156 = ins_156 := by rw [mI, mq_156]
theorem mC_156 : mC 156 = 11 := by rw [mC, mq_156]
theorem mS_156 : mS 156 = false := by rw [mS, mq_156]
theorem mN_156 : mN 156 = 2 := by rw [mN, mq_156]
theorem mL_156 : mL 156 = 7 := by rw [mL, mq_156]
theorem mR_156 : mR 156 = none := by rw [mR, mq_156]
theorem wid_156 : wid 156 = 1 := by unfold wid; rw [mC_156]; rfl
set_option maxRecDepth 20000 in
theorem mq_157 : mq 157 = (yX11_addOne, cX11_addOne, 1, none, 11, false, 1, ins_157) := rfl
theorem mI_157 : mI 157 = ins_157 := by rw [mI, mq_157]
theorem mC_157 : mC 157 = 11 := by rw [mC, mq_157]
theorem mS_157 : mS 157 = false := by rw [mS, mq_157]
theorem mN_157 : mN 157 = 1 := by rw [mN, mq_157]
theorem mL_157 : mL 157 = 1 := by rw [mL, mq_157]
theorem mR_157 : mR 157 = none := by rw [mR, mq_157]
theorem wid_157 : wid 157 = 1 := by unfold wid; rw [mC_157]; rfl
set_option maxRecDepth 20000 in
theorem mq_158 : mq 158 = (yX11_tell, cX11_tell, 4, none, 11, false, 4, ins_158) := rfl
theorem mI_158 : mI 158 = ins_158 := by rw [mI, mq_158]
theorem mC_158 : mC 158 = 11 := by rw [mC, mq_158]
theorem mS_158 : mS 158 = false := by rw [mS, mq_158]
theorem mN_158 : mN 158 = 4 := by rw [mN, mq_158]
theorem mL_158 : mL 158 = 4 := by rw [mL, mq_158]
theorem mR_158 : mR 158 = none := by rw [mR, mq_158]
theorem wid_158 : wid 158 = 1 := by unfold wid; rw [mC_158]; rfl
set_option maxRecDepth 20000 in
theorem mq_159 : mq 159 = (yX11_walkers, cX11_walkers, 1, (some .int), 11, false, 1, ins_159) := rfl
theorem mI_159 : mI 159 = ins_159 := by rw [mI, mq_159]
theorem mC_159 : mC 159 = 11 := by rw [mC, mq_159]
theorem mS_159 : mS 159 = false := by rw [mS, mq_159]
theorem mN_159 : mN 159 = 1 := by rw [mN, mq_159]
theorem mL_159 : mL 159 = 1 := by rw [mL, mq_159]
theorem mR_159 : mR 159 = (some .int) := by rw [mR, mq_159]
theorem wid_159 : wid 159 = 1 := by unfold wid; rw [mC_159]; rfl
set_option maxRecDepth 20000 in
theorem mq_160 : mq 160 = (yX11_boards, cX11_boards, 1, (some .int), 11, false, 1, ins_160) := rfl
theorem mI_160 : mI 160 = ins_160 := by rw [mI, mq_160]
theorem mC_160 : mC 160 = 11 := by rw [mC, mq_160]
theorem mS_160 : mS 160 = false := by rw [mS, mq_160]
theorem mN_160 : mN 160 = 1 := by rw [mN, mq_160]
theorem mL_160 : mL 160 = 1 := by rw [mL, mq_160]
theorem mR_160 : mR 160 = (some .int) := by rw [mR, mq_160]
theorem wid_160 : wid 160 = 1 := by unfold wid; rw [mC_160]; rfl
set_option maxRecDepth 20000 in
theorem mq_161 : mq 161 = (yX11_isWalker, cX11_isWalker, 2, (some .boolean), 11, false, 2, ins_161) := rfl
theorem mI_161 : mI 161 = ins_161 := by rw [mI, mq_161]
theorem mC_161 : mC 161 = 11 := by rw [mC, mq_161]
theorem mS_161 : mS 161 = false := by rw [mS, mq_161]
theorem mN_161 : mN 161 = 2 := by rw [mN, mq_161]
theorem mL_161 : mL 161 = 2 := by rw [mL, mq_161]
theorem mR_161 : mR 161 = (some .boolean) := by rw [mR, mq_161]
theorem wid_161 : wid 161 = 1 := by unfold wid; rw [mC_161]; rfl
set_option maxRecDepth 20000 in
theorem mq_162 : mq 162 = (yX11_isBoard, cX11_isBoard, 2, (some .boolean), 11, false, 2, ins_162) := rfl
theorem mI_162 : mI 162 = ins_162 := by rw [mI, mq_162]
theorem mC_162 : mC 162 = 11 := by rw [mC, mq_162]
theorem mS_162 : mS 162 = false := by rw [mS, mq_162]
theorem mN_162 : mN 162 = 2 := by rw [mN, mq_162]
theorem mL_162 : mL 162 = 2 := by rw [mL, mq_162]
theorem mR_162 : mR 162 = (some .boolean) := by rw [mR, mq_162]
theorem wid_162 : wid 162 = 1 := by unfold wid; rw [mC_162]; rfl
set_option maxRecDepth 20000 in
theorem mq_163 : mq 163 = (yX11_last, cX11_last, 1, (some .int), 11, false, 1, ins_163) := rfl
theorem mI_163 : mI 163 = ins_163 := by rw [mI, mq_163]
theorem mC_163 : mC 163 = 11 := by rw [mC, mq_163]
theorem mS_163 : mS 163 = false := by rw [mS, mq_163]
theorem mN_163 : mN 163 = 1 := by rw [mN, mq_163]
theorem mL_163 : mL 163 = 1 := by rw [mL, mq_163]
theorem mR_163 : mR 163 = (some .int) := by rw [mR, mq_163]
theorem wid_163 : wid 163 = 1 := by unfold wid; rw [mC_163]; rfl
set_option maxRecDepth 20000 in
theorem mq_164 : mq 164 = (yX11_takeNow, cX11_takeNow, 2, none, 11, false, 1, ins_164) := rfl
theorem mI_164 : mI 164 = ins_164 := by rw [mI, mq_164]
theorem mC_164 : mC 164 = 11 := by rw [mC, mq_164]
theorem mS_164 : mS 164 = false := by rw [mS, mq_164]
theorem mN_164 : mN 164 = 1 := by rw [mN, mq_164]
theorem mL_164 : mL 164 = 2 := by rw [mL, mq_164]
theorem mR_164 : mR 164 = none := by rw [mR, mq_164]
theorem wid_164 : wid 164 = 1 := by unfold wid; rw [mC_164]; rfl
set_option maxRecDepth 20000 in
theorem mq_165 : mq 165 = (yX11_putNow, cX11_putNow, 2, none, 11, false, 1, ins_165) := rfl
theorem mI_165 : mI 165 = ins_165 := by rw [mI, mq_165]
theorem mC_165 : mC 165 = 11 := by rw [mC, mq_165]
theorem mS_165 : mS 165 = false := by rw [mS, mq_165]
theorem mN_165 : mN 165 = 1 := by rw [mN, mq_165]
theorem mL_165 : mL 165 = 2 := by rw [mL, mq_165]
theorem mR_165 : mR 165 = none := by rw [mR, mq_165]
theorem wid_165 : wid 165 = 1 := by unfold wid; rw [mC_165]; rfl
set_option maxRecDepth 20000 in
theorem mq_166 : mq 166 = (yX11_longOf, cX11_longOf, 2, (some .int), 11, true, 2, ins_166) := rfl
theorem mI_166 : mI 166 = ins_166 := by rw [mI, mq_166]
theorem mC_166 : mC 166 = 11 := by rw [mC, mq_166]
theorem mS_166 : mS 166 = true := by rw [mS, mq_166]
theorem mN_166 : mN 166 = 2 := by rw [mN, mq_166]
theorem mL_166 : mL 166 = 2 := by rw [mL, mq_166]
theorem mR_166 : mR 166 = (some .int) := by rw [mR, mq_166]
theorem wid_166 : wid 166 = 1 := by unfold wid; rw [mC_166]; rfl
set_option maxRecDepth 20000 in
theorem mq_167 : mq 167 = (yX11_longOfBoard, cX11_longOfBoard, 2, (some .int), 11, false, 2, ins_167) := rfl
theorem mI_167 : mI 167 = ins_167 := by rw [mI, mq_167]
theorem mC_167 : mC 167 = 11 := by rw [mC, mq_167]
theorem mS_167 : mS 167 = false := by rw [mS, mq_167]
theorem mN_167 : mN 167 = 2 := by rw [mN, mq_167]
theorem mL_167 : mL 167 = 2 := by rw [mL, mq_167]
theorem mR_167 : mR 167 = (some .int) := by rw [mR, mq_167]
theorem wid_167 : wid 167 = 1 := by unfold wid; rw [mC_167]; rfl
set_option maxRecDepth 20000 in
theorem mq_168 : mq 168 = (yX11_bears, cX11_bears, 4, (some .int), 11, false, 2, ins_168) := rfl
theorem mI_168 : mI 168 = ins_168 := by rw [mI, mq_168]
theorem mC_168 : mC 168 = 11 := by rw [mC, mq_168]
theorem mS_168 : mS 168 = false := by rw [mS, mq_168]
theorem mN_168 : mN 168 = 2 := by rw [mN, mq_168]
theorem mL_168 : mL 168 = 4 := by rw [mL, mq_168]
theorem mR_168 : mR 168 = (some .int) := by rw [mR, mq_168]
theorem wid_168 : wid 168 = 1 := by unfold wid; rw [mC_168]; rfl
set_option maxRecDepth 20000 in
theorem mq_169 : mq 169 = (yX11_isLaid, cX11_isLaid, 2, (some .boolean), 11, false, 2, ins_169) := rfl
theorem mI_169 : mI 169 = ins_169 := by rw [mI, mq_169]
theorem mC_169 : mC 169 = 11 := by rw [mC, mq_169]
theorem mS_169 : mS 169 = false := by rw [mS, mq_169]
theorem mN_169 : mN 169 = 2 := by rw [mN, mq_169]
theorem mL_169 : mL 169 = 2 := by rw [mL, mq_169]
theorem mR_169 : mR 169 = (some .boolean) := by rw [mR, mq_169]
theorem wid_169 : wid 169 = 1 := by unfold wid; rw [mC_169]; rfl
set_option maxRecDepth 20000 in
theorem mq_170 : mq 170 = (yX11_covers, cX11_covers, 3, (some .boolean), 11, false, 3, ins_170) := rfl
theorem mI_170 : mI 170 = ins_170 := by rw [mI, mq_170]
theorem mC_170 : mC 170 = 11 := by rw [mC, mq_170]
theorem mS_170 : mS 170 = false := by rw [mS, mq_170]
theorem mN_170 : mN 170 = 3 := by rw [mN, mq_170]
theorem mL_170 : mL 170 = 3 := by rw [mL, mq_170]
theorem mR_170 : mR 170 = (some .boolean) := by rw [mR, mq_170]
theorem wid_170 : wid 170 = 1 := by unfold wid; rw [mC_170]; rfl
set_option maxRecDepth 20000 in
theorem mq_171 : mq 171 = (yX11_hasBoard, cX11_hasBoard, 4, (some .boolean), 11, false, 2, ins_171) := rfl
theorem mI_171 : mI 171 = ins_171 := by rw [mI, mq_171]
theorem mC_171 : mC 171 = 11 := by rw [mC, mq_171]
theorem mS_171 : mS 171 = false := by rw [mS, mq_171]
theorem mN_171 : mN 171 = 2 := by rw [mN, mq_171]
theorem mL_171 : mL 171 = 4 := by rw [mL, mq_171]
theorem mR_171 : mR 171 = (some .boolean) := by rw [mR, mq_171]
theorem wid_171 : wid 171 = 1 := by unfold wid; rw [mC_171]; rfl
set_option maxRecDepth 20000 in
theorem mq_172 : mq 172 = (yX11_isFirm, cX11_isFirm, 2, (some .boolean), 11, false, 2, ins_172) := rfl
theorem mI_172 : mI 172 = ins_172 := by rw [mI, mq_172]
theorem mC_172 : mC 172 = 11 := by rw [mC, mq_172]
theorem mS_172 : mS 172 = false := by rw [mS, mq_172]
theorem mN_172 : mN 172 = 2 := by rw [mN, mq_172]
theorem mL_172 : mL 172 = 2 := by rw [mL, mq_172]
theorem mR_172 : mR 172 = (some .boolean) := by rw [mR, mq_172]
theorem wid_172 : wid 172 = 1 := by unfold wid; rw [mC_172]; rfl
set_option maxRecDepth 20000 in
theorem mq_173 : mq 173 = (yX11_carries, cX11_carries, 4, (some .int), 11, false, 2, ins_173) := rfl
theorem mI_173 : mI 173 = ins_173 := by rw [mI, mq_173]
theorem mC_173 : mC 173 = 11 := by rw [mC, mq_173]
theorem mS_173 : mS 173 = false := by rw [mS, mq_173]
theorem mN_173 : mN 173 = 2 := by rw [mN, mq_173]
theorem mL_173 : mL 173 = 4 := by rw [mL, mq_173]
theorem mR_173 : mR 173 = (some .int) := by rw [mR, mq_173]
theorem wid_173 : wid 173 = 1 := by unfold wid; rw [mC_173]; rfl
set_option maxRecDepth 20000 in
theorem mq_174 : mq 174 = (yX11_countsOf, cX11_countsOf, 2, (some .int), 11, false, 2, ins_174) := rfl
theorem mI_174 : mI 174 = ins_174 := by rw [mI, mq_174]
theorem mC_174 : mC 174 = 11 := by rw [mC, mq_174]
theorem mS_174 : mS 174 = false := by rw [mS, mq_174]
theorem mN_174 : mN 174 = 2 := by rw [mN, mq_174]
theorem mL_174 : mL 174 = 2 := by rw [mL, mq_174]
theorem mR_174 : mR 174 = (some .int) := by rw [mR, mq_174]
theorem wid_174 : wid 174 = 1 := by unfold wid; rw [mC_174]; rfl
set_option maxRecDepth 20000 in
theorem mq_175 : mq 175 = (yX11_loadOn, cX11_loadOn, 4, (some .int), 11, false, 2, ins_175) := rfl
theorem mI_175 : mI 175 = ins_175 := by rw [mI, mq_175]
theorem mC_175 : mC 175 = 11 := by rw [mC, mq_175]
theorem mS_175 : mS 175 = false := by rw [mS, mq_175]
theorem mN_175 : mN 175 = 2 := by rw [mN, mq_175]
theorem mL_175 : mL 175 = 4 := by rw [mL, mq_175]
theorem mR_175 : mR 175 = (some .int) := by rw [mR, mq_175]
theorem wid_175 : wid 175 = 1 := by unfold wid; rw [mC_175]; rfl
set_option maxRecDepth 20000 in
theorem mq_176 : mq 176 = (yX11_isWell, cX11_isWell, 3, (some .boolean), 11, false, 1, ins_176) := rfl
theorem mI_176 : mI 176 = ins_176 := by rw [mI, mq_176]
theorem mC_176 : mC 176 = 11 := by rw [mC, mq_176]
theorem mS_176 : mS 176 = false := by rw [mS, mq_176]
theorem mN_176 : mN 176 = 1 := by rw [mN, mq_176]
theorem mL_176 : mL 176 = 3 := by rw [mL, mq_176]
theorem mR_176 : mR 176 = (some .boolean) := by rw [mR, mq_176]
theorem wid_176 : wid 176 = 1 := by unfold wid; rw [mC_176]; rfl
set_option maxRecDepth 20000 in
theorem mq_177 : mq 177 = (yX11_goalOf, cX11_goalOf, 2, (some .int), 11, false, 2, ins_177) := rfl
theorem mI_177 : mI 177 = ins_177 := by rw [mI, mq_177]
theorem mC_177 : mC 177 = 11 := by rw [mC, mq_177]
theorem mS_177 : mS 177 = false := by rw [mS, mq_177]
theorem mN_177 : mN 177 = 2 := by rw [mN, mq_177]
theorem mL_177 : mL 177 = 2 := by rw [mL, mq_177]
theorem mR_177 : mR 177 = (some .int) := by rw [mR, mq_177]
theorem wid_177 : wid 177 = 1 := by unfold wid; rw [mC_177]; rfl
set_option maxRecDepth 20000 in
theorem mq_178 : mq 178 = (yX11_isOver, cX11_isOver, 3, (some .boolean), 11, false, 1, ins_178) := rfl
theorem mI_178 : mI 178 = ins_178 := by rw [mI, mq_178]
theorem mC_178 : mC 178 = 11 := by rw [mC, mq_178]
theorem mS_178 : mS 178 = false := by rw [mS, mq_178]
theorem mN_178 : mN 178 = 1 := by rw [mN, mq_178]
theorem mL_178 : mL 178 = 3 := by rw [mL, mq_178]
theorem mR_178 : mR 178 = (some .boolean) := by rw [mR, mq_178]
theorem wid_178 : wid 178 = 1 := by unfold wid; rw [mC_178]; rfl
set_option maxRecDepth 20000 in
theorem mq_179 : mq 179 = (yX11_aheadBy, cX11_aheadBy, 1, (some .int), 11, true, 1, ins_179) := rfl
theorem mI_179 : mI 179 = ins_179 := by rw [mI, mq_179]
theorem mC_179 : mC 179 = 11 := by rw [mC, mq_179]
theorem mS_179 : mS 179 = true := by rw [mS, mq_179]
theorem mN_179 : mN 179 = 1 := by rw [mN, mq_179]
theorem mL_179 : mL 179 = 1 := by rw [mL, mq_179]
theorem mR_179 : mR 179 = (some .int) := by rw [mR, mq_179]
theorem wid_179 : wid 179 = 1 := by unfold wid; rw [mC_179]; rfl
set_option maxRecDepth 20000 in
theorem mq_180 : mq 180 = (yX11_isThere, cX11_isThere, 1, (some .boolean), 11, false, 1, ins_180) := rfl
theorem mI_180 : mI 180 = ins_180 := by rw [mI, mq_180]
theorem mC_180 : mC 180 = 11 := by rw [mC, mq_180]
theorem mS_180 : mS 180 = false := by rw [mS, mq_180]
theorem mN_180 : mN 180 = 1 := by rw [mN, mq_180]
theorem mL_180 : mL 180 = 1 := by rw [mL, mq_180]
theorem mR_180 : mR 180 = (some .boolean) := by rw [mR, mq_180]
theorem wid_180 : wid 180 = 1 := by unfold wid; rw [mC_180]; rfl
set_option maxRecDepth 20000 in
theorem mq_181 : mq 181 = (yX11_isOnBoard, cX11_isOnBoard, 4, (some .boolean), 11, false, 2, ins_181) := rfl
theorem mI_181 : mI 181 = ins_181 := by rw [mI, mq_181]
theorem mC_181 : mC 181 = 11 := by rw [mC, mq_181]
theorem mS_181 : mS 181 = false := by rw [mS, mq_181]
theorem mN_181 : mN 181 = 2 := by rw [mN, mq_181]
theorem mL_181 : mL 181 = 4 := by rw [mL, mq_181]
theorem mR_181 : mR 181 = (some .boolean) := by rw [mR, mq_181]
theorem wid_181 : wid 181 = 1 := by unfold wid; rw [mC_181]; rfl
set_option maxRecDepth 20000 in
theorem mq_182 : mq 182 = (yX11_anotherAt, cX11_anotherAt, 5, (some .boolean), 11, false, 3, ins_182) := rfl
theorem mI_182 : mI 182 = ins_182 := by rw [mI, mq_182]
theorem mC_182 : mC 182 = 11 := by rw [mC, mq_182]
theorem mS_182 : mS 182 = false := by rw [mS, mq_182]
theorem mN_182 : mN 182 = 3 := by rw [mN, mq_182]
theorem mL_182 : mL 182 = 5 := by rw [mL, mq_182]
theorem mR_182 : mR 182 = (some .boolean) := by rw [mR, mq_182]
theorem wid_182 : wid 182 = 1 := by unfold wid; rw [mC_182]; rfl
set_option maxRecDepth 20000 in
theorem mq_183 : mq 183 = (yX11_mayTake, cX11_mayTake, 7, (some .boolean), 11, false, 3, ins_183) := rfl
theorem mI_183 : mI 183 = ins_183 := by rw [mI, mq_183]
theorem mC_183 : mC 183 = 11 := by rw [mC, mq_183]
theorem mS_183 : mS 183 = false := by rw [mS, mq_183]
theorem mN_183 : mN 183 = 3 := by rw [mN, mq_183]
theorem mL_183 : mL 183 = 7 := by rw [mL, mq_183]
theorem mR_183 : mR 183 = (some .boolean) := by rw [mR, mq_183]
theorem wid_183 : wid 183 = 1 := by unfold wid; rw [mC_183]; rfl
set_option maxRecDepth 20000 in
theorem mq_184 : mq 184 = (yX11_layFrom, cX11_layFrom, 4, (some .int), 11, false, 4, ins_184) := rfl
theorem mI_184 : mI 184 = ins_184 := by rw [mI, mq_184]
theorem mC_184 : mC 184 = 11 := by rw [mC, mq_184]
theorem mS_184 : mS 184 = false := by rw [mS, mq_184]
theorem mN_184 : mN 184 = 4 := by rw [mN, mq_184]
theorem mL_184 : mL 184 = 4 := by rw [mL, mq_184]
theorem mR_184 : mR 184 = (some .int) := by rw [mR, mq_184]
theorem wid_184 : wid 184 = 1 := by unfold wid; rw [mC_184]; rfl
set_option maxRecDepth 20000 in
theorem mq_185 : mq 185 = (yX11_mayLay, cX11_mayLay, 7, (some .boolean), 11, false, 4, ins_185) := rfl
theorem mI_185 : mI 185 = ins_185 := by rw [mI, mq_185]
theorem mC_185 : mC 185 = 11 := by rw [mC, mq_185]
theorem mS_185 : mS 185 = false := by rw [mS, mq_185]
theorem mN_185 : mN 185 = 4 := by rw [mN, mq_185]
theorem mL_185 : mL 185 = 7 := by rw [mL, mq_185]
theorem mR_185 : mR 185 = (some .boolean) := by rw [mR, mq_185]
theorem wid_185 : wid 185 = 1 := by unfold wid; rw [mC_185]; rfl
set_option maxRecDepth 20000 in
theorem mq_186 : mq 186 = (yX11_mayHand, cX11_mayHand, 5, (some .boolean), 11, false, 4, ins_186) := rfl
theorem mI_186 : mI 186 = ins_186 := by rw [mI, mq_186]
theorem mC_186 : mC 186 = 11 := by rw [mC, mq_186]
theorem mS_186 : mS 186 = false := by rw [mS, mq_186]
theorem mN_186 : mN 186 = 4 := by rw [mN, mq_186]
theorem mL_186 : mL 186 = 5 := by rw [mL, mq_186]
theorem mR_186 : mR 186 = (some .boolean) := by rw [mR, mq_186]
theorem wid_186 : wid 186 = 1 := by unfold wid; rw [mC_186]; rfl
set_option maxRecDepth 20000 in
theorem mq_187 : mq 187 = (yX11_canBe, cX11_canBe, 3, (some .boolean), 11, false, 1, ins_187) := rfl
theorem mI_187 : mI 187 = ins_187 := by rw [mI, mq_187]
theorem mC_187 : mC 187 = 11 := by rw [mC, mq_187]
theorem mS_187 : mS 187 = false := by rw [mS, mq_187]
theorem mN_187 : mN 187 = 1 := by rw [mN, mq_187]
theorem mL_187 : mL 187 = 3 := by rw [mL, mq_187]
theorem mR_187 : mR 187 = (some .boolean) := by rw [mR, mq_187]
theorem wid_187 : wid 187 = 1 := by unfold wid; rw [mC_187]; rfl
set_option maxRecDepth 20000 in
theorem mq_188 : mq 188 = (yX11_doIt, cX11_doIt, 1, none, 11, false, 1, ins_188) := rfl
theorem mI_188 : mI 188 = ins_188 := by rw [mI, mq_188]
theorem mC_188 : mC 188 = 11 := by rw [mC, mq_188]
theorem mS_188 : mS 188 = false := by rw [mS, mq_188]
theorem mN_188 : mN 188 = 1 := by rw [mN, mq_188]
theorem mL_188 : mL 188 = 1 := by rw [mL, mq_188]
theorem mR_188 : mR 188 = none := by rw [mR, mq_188]
theorem wid_188 : wid 188 = 1 := by unfold wid; rw [mC_188]; rfl
set_option maxRecDepth 20000 in
theorem mq_189 : mq 189 = (yX11_split, cX11_split, 2, none, 11, false, 2, ins_189) := rfl
theorem mI_189 : mI 189 = ins_189 := by rw [mI, mq_189]
theorem mC_189 : mC 189 = 11 := by rw [mC, mq_189]
theorem mS_189 : mS 189 = false := by rw [mS, mq_189]
theorem mN_189 : mN 189 = 2 := by rw [mN, mq_189]
theorem mL_189 : mL 189 = 2 := by rw [mL, mq_189]
theorem mR_189 : mR 189 = none := by rw [mR, mq_189]
theorem wid_189 : wid 189 = 1 := by unfold wid; rw [mC_189]; rfl
set_option maxRecDepth 20000 in
theorem mq_190 : mq 190 = (yX11_remember, cX11_remember, 2, none, 11, false, 1, ins_190) := rfl
theorem mI_190 : mI 190 = ins_190 := by rw [mI, mq_190]
theorem mC_190 : mC 190 = 11 := by rw [mC, mq_190]
theorem mS_190 : mS 190 = false := by rw [mS, mq_190]
theorem mN_190 : mN 190 = 1 := by rw [mN, mq_190]
theorem mL_190 : mL 190 = 2 := by rw [mL, mq_190]
theorem mR_190 : mR 190 = none := by rw [mR, mq_190]
theorem wid_190 : wid 190 = 1 := by unfold wid; rw [mC_190]; rfl
set_option maxRecDepth 20000 in
theorem mq_191 : mq 191 = (yX11_goBack, cX11_goBack, 2, none, 11, false, 1, ins_191) := rfl
theorem mI_191 : mI 191 = ins_191 := by rw [mI, mq_191]
theorem mC_191 : mC 191 = 11 := by rw [mC, mq_191]
theorem mS_191 : mS 191 = false := by rw [mS, mq_191]
theorem mN_191 : mN 191 = 1 := by rw [mN, mq_191]
theorem mL_191 : mL 191 = 2 := by rw [mL, mq_191]
theorem mR_191 : mR 191 = none := by rw [mR, mq_191]
theorem wid_191 : wid 191 = 1 := by unfold wid; rw [mC_191]; rfl
set_option maxRecDepth 20000 in
theorem mq_192 : mq 192 = (yX11_tryAct, cX11_tryAct, 1, (some .int), 11, false, 1, ins_192) := rfl
theorem mI_192 : mI 192 = ins_192 := by rw [mI, mq_192]
theorem mC_192 : mC 192 = 11 := by rw [mC, mq_192]
theorem mS_192 : mS 192 = false := by rw [mS, mq_192]
theorem mN_192 : mN 192 = 1 := by rw [mN, mq_192]
theorem mL_192 : mL 192 = 1 := by rw [mL, mq_192]
theorem mR_192 : mR 192 = (some .int) := by rw [mR, mq_192]
theorem wid_192 : wid 192 = 1 := by unfold wid; rw [mC_192]; rfl
set_option maxRecDepth 20000 in
theorem mq_193 : mq 193 = (yX11_whyNow, cX11_whyNow, 2, (some .int), 11, false, 2, ins_193) := rfl
theorem mI_193 : mI 193 = ins_193 := by rw [mI, mq_193]
theorem mC_193 : mC 193 = 11 := by rw [mC, mq_193]
theorem mS_193 : mS 193 = false := by rw [mS, mq_193]
theorem mN_193 : mN 193 = 2 := by rw [mN, mq_193]
theorem mL_193 : mL 193 = 2 := by rw [mL, mq_193]
theorem mR_193 : mR 193 = (some .int) := by rw [mR, mq_193]
theorem wid_193 : wid 193 = 1 := by unfold wid; rw [mC_193]; rfl
set_option maxRecDepth 20000 in
theorem mq_194 : mq 194 = (yX11_why, cX11_why, 2, (some .int), 11, false, 2, ins_194) := rfl
theorem mI_194 : mI 194 = ins_194 := by rw [mI, mq_194]
theorem mC_194 : mC 194 = 11 := by rw [mC, mq_194]
theorem mS_194 : mS 194 = false := by rw [mS, mq_194]
theorem mN_194 : mN 194 = 2 := by rw [mN, mq_194]
theorem mL_194 : mL 194 = 2 := by rw [mL, mq_194]
theorem mR_194 : mR 194 = (some .int) := by rw [mR, mq_194]
theorem wid_194 : wid 194 = 1 := by unfold wid; rw [mC_194]; rfl
set_option maxRecDepth 20000 in
theorem mq_195 : mq 195 = (yX11_act, cX11_act, 4, (some .int), 11, false, 2, ins_195) := rfl
theorem mI_195 : mI 195 = ins_195 := by rw [mI, mq_195]
theorem mC_195 : mC 195 = 11 := by rw [mC, mq_195]
theorem mS_195 : mS 195 = false := by rw [mS, mq_195]
theorem mN_195 : mN 195 = 2 := by rw [mN, mq_195]
theorem mL_195 : mL 195 = 4 := by rw [mL, mq_195]
theorem mR_195 : mR 195 = (some .int) := by rw [mR, mq_195]
theorem wid_195 : wid 195 = 1 := by unfold wid; rw [mC_195]; rfl
set_option maxRecDepth 20000 in
theorem mq_196 : mq 196 = (yX11_undo, cX11_undo, 3, (some .int), 11, false, 1, ins_196) := rfl
theorem mI_196 : mI 196 = ins_196 := by rw [mI, mq_196]
theorem mC_196 : mC 196 = 11 := by rw [mC, mq_196]
theorem mS_196 : mS 196 = false := by rw [mS, mq_196]
theorem mN_196 : mN 196 = 1 := by rw [mN, mq_196]
theorem mL_196 : mL 196 = 3 := by rw [mL, mq_196]
theorem mR_196 : mR 196 = (some .int) := by rw [mR, mq_196]
theorem wid_196 : wid 196 = 1 := by unfold wid; rw [mC_196]; rfl
set_option maxRecDepth 20000 in
theorem mq_197 : mq 197 = (yX11_over, cX11_over, 1, (some .int), 11, false, 1, ins_197) := rfl
theorem mI_197 : mI 197 = ins_197 := by rw [mI, mq_197]
theorem mC_197 : mC 197 = 11 := by rw [mC, mq_197]
theorem mS_197 : mS 197 = false := by rw [mS, mq_197]
theorem mN_197 : mN 197 = 1 := by rw [mN, mq_197]
theorem mL_197 : mL 197 = 1 := by rw [mL, mq_197]
theorem mR_197 : mR 197 = (some .int) := by rw [mR, mq_197]
theorem wid_197 : wid 197 = 1 := by unfold wid; rw [mC_197]; rfl
set_option maxRecDepth 20000 in
theorem mq_198 : mq 198 = (yX11_wrong, cX11_wrong, 4, (some .int), 11, false, 2, ins_198) := rfl
theorem mI_198 : mI 198 = ins_198 := by rw [mI, mq_198]
theorem mC_198 : mC 198 = 11 := by rw [mC, mq_198]
theorem mS_198 : mS 198 = false := by rw [mS, mq_198]
theorem mN_198 : mN 198 = 2 := by rw [mN, mq_198]
theorem mL_198 : mL 198 = 4 := by rw [mL, mq_198]
theorem mR_198 : mR 198 = (some .int) := by rw [mR, mq_198]
theorem wid_198 : wid 198 = 1 := by unfold wid; rw [mC_198]; rfl
set_option maxRecDepth 20000 in
theorem mq_199 : mq 199 = (yX11_stateNow, cX11_stateNow, 3, (some .int), 11, false, 1, ins_199) := rfl
theorem mI_199 : mI 199 = ins_199 := by rw [mI, mq_199]
theorem mC_199 : mC 199 = 11 := by rw [mC, mq_199]
theorem mS_199 : mS 199 = false := by rw [mS, mq_199]
theorem mN_199 : mN 199 = 1 := by rw [mN, mq_199]
theorem mL_199 : mL 199 = 3 := by rw [mL, mq_199]
theorem mR_199 : mR 199 = (some .int) := by rw [mR, mq_199]
theorem wid_199 : wid 199 = 1 := by unfold wid; rw [mC_199]; rfl
set_option maxRecDepth 20000 in
theorem mq_200 : mq 200 = (yX11_takeState, cX11_takeState, 4, none, 11, false, 2, ins_200) := rfl
theorem mI_200 : mI 200 = ins_200 := by rw [mI, mq_200]
theorem mC_200 : mC 200 = 11 := by rw [mC, mq_200]
theorem mS_200 : mS 200 = false := by rw [mS, mq_200]
theorem mN_200 : mN 200 = 2 := by rw [mN, mq_200]
theorem mL_200 : mL 200 = 4 := by rw [mL, mq_200]
theorem mR_200 : mR 200 = none := by rw [mR, mq_200]
theorem wid_200 : wid 200 = 1 := by unfold wid; rw [mC_200]; rfl
set_option maxRecDepth 20000 in
theorem mq_201 : mq 201 = (yX11_nextAct, cX11_nextAct, 3, (some .int), 11, false, 2, ins_201) := rfl
theorem mI_201 : mI 201 = ins_201 := by rw [mI, mq_201]
theorem mC_201 : mC 201 = 11 := by rw [mC, mq_201]
theorem mS_201 : mS 201 = false := by rw [mS, mq_201]
theorem mN_201 : mN 201 = 2 := by rw [mN, mq_201]
theorem mL_201 : mL 201 = 3 := by rw [mL, mq_201]
theorem mR_201 : mR 201 = (some .int) := by rw [mR, mq_201]
theorem wid_201 : wid 201 = 1 := by unfold wid; rw [mC_201]; rfl
set_option maxRecDepth 20000 in
theorem mq_202 : mq 202 = (yX11_begin, cX11_begin, 3, none, 11, false, 2, ins_202) := rfl
theorem mI_202 : mI 202 = ins_202 := by rw [mI, mq_202]
theorem mC_202 : mC 202 = 11 := by rw [mC, mq_202]
theorem mS_202 : mS 202 = false := by rw [mS, mq_202]
theorem mN_202 : mN 202 = 2 := by rw [mN, mq_202]
theorem mL_202 : mL 202 = 3 := by rw [mL, mq_202]
theorem mR_202 : mR 202 = none := by rw [mR, mq_202]
theorem wid_202 : wid 202 = 1 := by unfold wid; rw [mC_202]; rfl
set_option maxRecDepth 20000 in
theorem mq_203 : mq 203 = (yX11_findFewest, cX11_findFewest, 5, (some .int), 11, false, 2, ins_203) := rfl
theorem mI_203 : mI 203 = ins_203 := by rw [mI, mq_203]
theorem mC_203 : mC 203 = 11 := by rw [mC, mq_203]
theorem mS_203 : mS 203 = false := by rw [mS, mq_203]
theorem mN_203 : mN 203 = 2 := by rw [mN, mq_203]
theorem mL_203 : mL 203 = 5 := by rw [mL, mq_203]
theorem mR_203 : mR 203 = (some .int) := by rw [mR, mq_203]
theorem wid_203 : wid 203 = 1 := by unfold wid; rw [mC_203]; rfl
set_option maxRecDepth 20000 in
theorem mq_204 : mq 204 = (yX11_come, cX11_come, 3, none, 11, false, 3, ins_204) := rfl
theorem mI_204 : mI 204 = ins_204 := by rw [mI, mq_204]
theorem mC_204 : mC 204 = 11 := by rw [mC, mq_204]
theorem mS_204 : mS 204 = false := by rw [mS, mq_204]
theorem mN_204 : mN 204 = 3 := by rw [mN, mq_204]
theorem mL_204 : mL 204 = 3 := by rw [mL, mq_204]
theorem mR_204 : mR 204 = none := by rw [mR, mq_204]
theorem wid_204 : wid 204 = 1 := by unfold wid; rw [mC_204]; rfl
set_option maxRecDepth 20000 in
theorem mq_205 : mq 205 = (yX11_startOf, cX11_startOf, 1, (some .int), 11, false, 1, ins_205) := rfl
theorem mI_205 : mI 205 = ins_205 := by rw [mI, mq_205]
theorem mC_205 : mC 205 = 11 := by rw [mC, mq_205]
theorem mS_205 : mS 205 = false := by rw [mS, mq_205]
theorem mN_205 : mN 205 = 1 := by rw [mN, mq_205]
theorem mL_205 : mL 205 = 1 := by rw [mL, mq_205]
theorem mR_205 : mR 205 = (some .int) := by rw [mR, mq_205]
theorem wid_205 : wid 205 = 1 := by unfold wid; rw [mC_205]; rfl
set_option maxRecDepth 20000 in
theorem mq_206 : mq 206 = (yX11_fewest, cX11_fewest, 1, (some .int), 11, false, 1, ins_206) := rfl
theorem mI_206 : mI 206 = ins_206 := by rw [mI, mq_206]
theorem mC_206 : mC 206 = 11 := by rw [mC, mq_206]
theorem mS_206 : mS 206 = false := by rw [mS, mq_206]
theorem mN_206 : mN 206 = 1 := by rw [mN, mq_206]
theorem mL_206 : mL 206 = 1 := by rw [mL, mq_206]
theorem mR_206 : mR 206 = (some .int) := by rw [mR, mq_206]
theorem wid_206 : wid 206 = 1 := by unfold wid; rw [mC_206]; rfl
set_option maxRecDepth 20000 in
theorem mq_207 : mq 207 = (yX11_findGood, cX11_findGood, 5, none, 11, false, 2, ins_207) := rfl
theorem mI_207 : mI 207 = ins_207 := by rw [mI, mq_207]
theorem mC_207 : mC 207 = 11 := by rw [mC, mq_207]
theorem mS_207 : mS 207 = false := by rw [mS, mq_207]
theorem mN_207 : mN 207 = 2 := by rw [mN, mq_207]
theorem mL_207 : mL 207 = 5 := by rw [mL, mq_207]
theorem mR_207 : mR 207 = none := by rw [mR, mq_207]
theorem wid_207 : wid 207 = 1 := by unfold wid; rw [mC_207]; rfl
set_option maxRecDepth 20000 in
theorem mq_208 : mq 208 = (yX11_leadsOn, cX11_leadsOn, 4, (some .boolean), 11, false, 3, ins_208) := rfl
theorem mI_208 : mI 208 = ins_208 := by rw [mI, mq_208]
theorem mC_208 : mC 208 = 11 := by rw [mC, mq_208]
theorem mS_208 : mS 208 = false := by rw [mS, mq_208]
theorem mN_208 : mN 208 = 3 := by rw [mN, mq_208]
theorem mL_208 : mL 208 = 4 := by rw [mL, mq_208]
theorem mR_208 : mR 208 = (some .boolean) := by rw [mR, mq_208]
theorem wid_208 : wid 208 = 1 := by unfold wid; rw [mC_208]; rfl
set_option maxRecDepth 20000 in
theorem mq_209 : mq 209 = (yX11_row, cX11_row, 6, (some .int), 11, false, 2, ins_209) := rfl
theorem mI_209 : mI 209 = ins_209 := by rw [mI, mq_209]
theorem mC_209 : mC 209 = 11 := by rw [mC, mq_209]
theorem mS_209 : mS 209 = false := by rw [mS, mq_209]
theorem mN_209 : mN 209 = 2 := by rw [mN, mq_209]
theorem mL_209 : mL 209 = 6 := by rw [mL, mq_209]
theorem mR_209 : mR 209 = (some .int) := by rw [mR, mq_209]
theorem wid_209 : wid 209 = 1 := by unfold wid; rw [mC_209]; rfl
set_option maxRecDepth 20000 in
theorem mq_210 : mq 210 = (yX11_takeWithout, cX11_takeWithout, 3, (some .boolean), 11, false, 2, ins_210) := rfl
theorem mI_210 : mI 210 = ins_210 := by rw [mI, mq_210]
theorem mC_210 : mC 210 = 11 := by rw [mC, mq_210]
theorem mS_210 : mS 210 = false := by rw [mS, mq_210]
theorem mN_210 : mN 210 = 2 := by rw [mN, mq_210]
theorem mL_210 : mL 210 = 3 := by rw [mL, mq_210]
theorem mR_210 : mR 210 = (some .boolean) := by rw [mR, mq_210]
theorem wid_210 : wid 210 = 1 := by unfold wid; rw [mC_210]; rfl
set_option maxRecDepth 20000 in
theorem mq_211 : mq 211 = (yX11_lost, cX11_lost, 2, (some .int), 11, false, 2, ins_211) := rfl
theorem mI_211 : mI 211 = ins_211 := by rw [mI, mq_211]
theorem mC_211 : mC 211 = 11 := by rw [mC, mq_211]
theorem mS_211 : mS 211 = false := by rw [mS, mq_211]
theorem mN_211 : mN 211 = 2 := by rw [mN, mq_211]
theorem mL_211 : mL 211 = 2 := by rw [mL, mq_211]
theorem mR_211 : mR 211 = (some .int) := by rw [mR, mq_211]
theorem wid_211 : wid 211 = 1 := by unfold wid; rw [mC_211]; rfl
set_option maxRecDepth 20000 in
theorem mq_212 : mq 212 = (yX11_leaps, cX11_leaps, 7, (some .int), 11, false, 2, ins_212) := rfl
theorem mI_212 : mI 212 = ins_212 := by rw [mI, mq_212]
theorem mC_212 : mC 212 = 11 := by rw [mC, mq_212]
theorem mS_212 : mS 212 = false := by rw [mS, mq_212]
theorem mN_212 : mN 212 = 2 := by rw [mN, mq_212]
theorem mL_212 : mL 212 = 7 := by rw [mL, mq_212]
theorem mR_212 : mR 212 = (some .int) := by rw [mR, mq_212]
theorem wid_212 : wid 212 = 1 := by unfold wid; rw [mC_212]; rfl
set_option maxRecDepth 20000 in
theorem mq_213 : mq 213 = (yX11_leapFrom, cX11_leapFrom, 5, none, 11, false, 3, ins_213) := rfl
theorem mI_213 : mI 213 = ins_213 := by rw [mI, mq_213]
theorem mC_213 : mC 213 = 11 := by rw [mC, mq_213]
theorem mS_213 : mS 213 = false := by rw [mS, mq_213]
theorem mN_213 : mN 213 = 3 := by rw [mN, mq_213]
theorem mL_213 : mL 213 = 5 := by rw [mL, mq_213]
theorem mR_213 : mR 213 = none := by rw [mR, mq_213]
theorem wid_213 : wid 213 = 1 := by unfold wid; rw [mC_213]; rfl
set_option maxRecDepth 20000 in
theorem mq_214 : mq 214 = (yX11_type, cX11_type, 5, (some .int), 11, false, 3, ins_214) := rfl
theorem mI_214 : mI 214 = ins_214 := by rw [mI, mq_214]
theorem mC_214 : mC 214 = 11 := by rw [mC, mq_214]
theorem mS_214 : mS 214 = false := by rw [mS, mq_214]
theorem mN_214 : mN 214 = 3 := by rw [mN, mq_214]
theorem mL_214 : mL 214 = 5 := by rw [mL, mq_214]
theorem mR_214 : mR 214 = (some .int) := by rw [mR, mq_214]
theorem wid_214 : wid 214 = 1 := by unfold wid; rw [mC_214]; rfl
set_option maxRecDepth 20000 in
theorem mq_215 : mq 215 = (yX11_clear, cX11_clear, 2, (some .int), 11, false, 1, ins_215) := rfl
theorem mI_215 : mI 215 = ins_215 := by rw [mI, mq_215]
theorem mC_215 : mC 215 = 11 := by rw [mC, mq_215]
theorem mS_215 : mS 215 = false := by rw [mS, mq_215]
theorem mN_215 : mN 215 = 1 := by rw [mN, mq_215]
theorem mL_215 : mL 215 = 2 := by rw [mL, mq_215]
theorem mR_215 : mR 215 = (some .int) := by rw [mR, mq_215]
theorem wid_215 : wid 215 = 1 := by unfold wid; rw [mC_215]; rfl
set_option maxRecDepth 20000 in
theorem mq_216 : mq 216 = (yX11_isSmall, cX11_isSmall, 1, (some .boolean), 11, true, 1, ins_216) := rfl
theorem mI_216 : mI 216 = ins_216 := by rw [mI, mq_216]
theorem mC_216 : mC 216 = 11 := by rw [mC, mq_216]
theorem mS_216 : mS 216 = true := by rw [mS, mq_216]
theorem mN_216 : mN 216 = 1 := by rw [mN, mq_216]
theorem mL_216 : mL 216 = 1 := by rw [mL, mq_216]
theorem mR_216 : mR 216 = (some .boolean) := by rw [mR, mq_216]
theorem wid_216 : wid 216 = 1 := by unfold wid; rw [mC_216]; rfl
set_option maxRecDepth 20000 in
theorem mq_217 : mq 217 = (yX11_isTen, cX11_isTen, 1, (some .boolean), 11, true, 1, ins_217) := rfl
theorem mI_217 : mI 217 = ins_217 := by rw [mI, mq_217]
theorem mC_217 : mC 217 = 11 := by rw [mC, mq_217]
theorem mS_217 : mS 217 = true := by rw [mS, mq_217]
theorem mN_217 : mN 217 = 1 := by rw [mN, mq_217]
theorem mL_217 : mL 217 = 1 := by rw [mL, mq_217]
theorem mR_217 : mR 217 = (some .boolean) := by rw [mR, mq_217]
theorem wid_217 : wid 217 = 1 := by unfold wid; rw [mC_217]; rfl
set_option maxRecDepth 20000 in
theorem mq_218 : mq 218 = (yX11_look, cX11_look, 5, none, 11, false, 2, ins_218) := rfl
theorem mI_218 : mI 218 = ins_218 := by rw [mI, mq_218]
theorem mC_218 : mC 218 = 11 := by rw [mC, mq_218]
theorem mS_218 : mS 218 = false := by rw [mS, mq_218]
theorem mN_218 : mN 218 = 2 := by rw [mN, mq_218]
theorem mL_218 : mL 218 = 5 := by rw [mL, mq_218]
theorem mR_218 : mR 218 = none := by rw [mR, mq_218]
theorem wid_218 : wid 218 = 1 := by unfold wid; rw [mC_218]; rfl
set_option maxRecDepth 20000 in
theorem mq_219 : mq 219 = (yX11_goOn, cX11_goOn, 1, none, 11, false, 1, ins_219) := rfl
theorem mI_219 : mI 219 = ins_219 := by rw [mI, mq_219]
theorem mC_219 : mC 219 = 11 := by rw [mC, mq_219]
theorem mS_219 : mS 219 = false := by rw [mS, mq_219]
theorem mN_219 : mN 219 = 1 := by rw [mN, mq_219]
theorem mL_219 : mL 219 = 1 := by rw [mL, mq_219]
theorem mR_219 : mR 219 = none := by rw [mR, mq_219]
theorem wid_219 : wid 219 = 1 := by unfold wid; rw [mC_219]; rfl
set_option maxRecDepth 20000 in
theorem mq_220 : mq 220 = (yX11_isWord, cX11_isWord, 10, (some .boolean), 11, false, 7, ins_220) := rfl
theorem mI_220 : mI 220 = ins_220 := by rw [mI, mq_220]
theorem mC_220 : mC 220 = 11 := by rw [mC, mq_220]
theorem mS_220 : mS 220 = false := by rw [mS, mq_220]
theorem mN_220 : mN 220 = 7 := by rw [mN, mq_220]
theorem mL_220 : mL 220 = 10 := by rw [mL, mq_220]
theorem mR_220 : mR 220 = (some .boolean) := by rw [mR, mq_220]
theorem wid_220 : wid 220 = 1 := by unfold wid; rw [mC_220]; rfl
set_option maxRecDepth 20000 in
theorem mq_221 : mq 221 = (yX11_takes, cX11_takes, 3, (some .boolean), 11, false, 3, ins_221) := rfl
theorem mI_221 : mI 221 = ins_221 := by rw [mI, mq_221]
theorem mC_221 : mC 221 = 11 := by rw [mC, mq_221]
theorem mS_221 : mS 221 = false := by rw [mS, mq_221]
theorem mN_221 : mN 221 = 3 := by rw [mN, mq_221]
theorem mL_221 : mL 221 = 3 := by rw [mL, mq_221]
theorem mR_221 : mR 221 = (some .boolean) := by rw [mR, mq_221]
theorem wid_221 : wid 221 = 1 := by unfold wid; rw [mC_221]; rfl
set_option maxRecDepth 20000 in
theorem mq_222 : mq 222 = (yX11_readLast, cX11_readLast, 2, (some .boolean), 11, false, 1, ins_222) := rfl
theorem mI_222 : mI 222 = ins_222 := by rw [mI, mq_222]
theorem mC_222 : mC 222 = 11 := by rw [mC, mq_222]
theorem mS_222 : mS 222 = false := by rw [mS, mq_222]
theorem mN_222 : mN 222 = 1 := by rw [mN, mq_222]
theorem mL_222 : mL 222 = 2 := by rw [mL, mq_222]
theorem mR_222 : mR 222 = (some .boolean) := by rw [mR, mq_222]
theorem wid_222 : wid 222 = 1 := by unfold wid; rw [mC_222]; rfl
set_option maxRecDepth 20000 in
theorem mq_223 : mq 223 = (yX11_readIsland, cX11_readIsland, 1, (some .boolean), 11, false, 1, ins_223) := rfl
theorem mI_223 : mI 223 = ins_223 := by rw [mI, mq_223]
theorem mC_223 : mC 223 = 11 := by rw [mC, mq_223]
theorem mS_223 : mS 223 = false := by rw [mS, mq_223]
theorem mN_223 : mN 223 = 1 := by rw [mN, mq_223]
theorem mL_223 : mL 223 = 1 := by rw [mL, mq_223]
theorem mR_223 : mR 223 = (some .boolean) := by rw [mR, mq_223]
theorem wid_223 : wid 223 = 1 := by unfold wid; rw [mC_223]; rfl
set_option maxRecDepth 20000 in
theorem mq_224 : mq 224 = (yX11_readWalker, cX11_readWalker, 3, (some .boolean), 11, false, 1, ins_224) := rfl
theorem mI_224 : mI 224 = ins_224 := by rw [mI, mq_224]
theorem mC_224 : mC 224 = 11 := by rw [mC, mq_224]
theorem mS_224 : mS 224 = false := by rw [mS, mq_224]
theorem mN_224 : mN 224 = 1 := by rw [mN, mq_224]
theorem mL_224 : mL 224 = 3 := by rw [mL, mq_224]
theorem mR_224 : mR 224 = (some .boolean) := by rw [mR, mq_224]
theorem wid_224 : wid 224 = 1 := by unfold wid; rw [mC_224]; rfl
set_option maxRecDepth 20000 in
theorem mq_225 : mq 225 = (yX11_readBoard, cX11_readBoard, 4, (some .boolean), 11, false, 1, ins_225) := rfl
theorem mI_225 : mI 225 = ins_225 := by rw [mI, mq_225]
theorem mC_225 : mC 225 = 11 := by rw [mC, mq_225]
theorem mS_225 : mS 225 = false := by rw [mS, mq_225]
theorem mN_225 : mN 225 = 1 := by rw [mN, mq_225]
theorem mL_225 : mL 225 = 4 := by rw [mL, mq_225]
theorem mR_225 : mR 225 = (some .boolean) := by rw [mR, mq_225]
theorem wid_225 : wid 225 = 1 := by unfold wid; rw [mC_225]; rfl
set_option maxRecDepth 20000 in
theorem mq_226 : mq 226 = (yX11_meetsBoard, cX11_meetsBoard, 5, (some .boolean), 11, false, 3, ins_226) := rfl
theorem mI_226 : mI 226 = ins_226 := by rw [mI, mq_226]
theorem mC_226 : mC 226 = 11 := by rw [mC, mq_226]
theorem mS_226 : mS 226 = false := by rw [mS, mq_226]
theorem mN_226 : mN 226 = 3 := by rw [mN, mq_226]
theorem mL_226 : mL 226 = 5 := by rw [mL, mq_226]
theorem mR_226 : mR 226 = (some .boolean) := by rw [mR, mq_226]
theorem wid_226 : wid 226 = 1 := by unfold wid; rw [mC_226]; rfl
set_option maxRecDepth 20000 in
theorem mq_227 : mq 227 = (yX11_readItem, cX11_readItem, 1, (some .boolean), 11, false, 1, ins_227) := rfl
theorem mI_227 : mI 227 = ins_227 := by rw [mI, mq_227]
theorem mC_227 : mC 227 = 11 := by rw [mC, mq_227]
theorem mS_227 : mS 227 = false := by rw [mS, mq_227]
theorem mN_227 : mN 227 = 1 := by rw [mN, mq_227]
theorem mL_227 : mL 227 = 1 := by rw [mL, mq_227]
theorem mR_227 : mR 227 = (some .boolean) := by rw [mR, mq_227]
theorem wid_227 : wid 227 = 1 := by unfold wid; rw [mC_227]; rfl
set_option maxRecDepth 20000 in
theorem mq_228 : mq 228 = (yX11_read, cX11_read, 3, (some .int), 11, false, 1, ins_228) := rfl
theorem mI_228 : mI 228 = ins_228 := by rw [mI, mq_228]
theorem mC_228 : mC 228 = 11 := by rw [mC, mq_228]
theorem mS_228 : mS 228 = false := by rw [mS, mq_228]
theorem mN_228 : mN 228 = 1 := by rw [mN, mq_228]
theorem mL_228 : mL 228 = 3 := by rw [mL, mq_228]
theorem mR_228 : mR 228 = (some .int) := by rw [mR, mq_228]
theorem wid_228 : wid 228 = 1 := by unfold wid; rw [mC_228]; rfl
set_option maxRecDepth 20000 in
theorem mq_229 : mq 229 = (yX11_putRead, cX11_putRead, 5, (some .boolean), 11, false, 1, ins_229) := rfl
theorem mI_229 : mI 229 = ins_229 := by rw [mI, mq_229]
theorem mC_229 : mC 229 = 11 := by rw [mC, mq_229]
theorem mS_229 : mS 229 = false := by rw [mS, mq_229]
theorem mN_229 : mN 229 = 1 := by rw [mN, mq_229]
theorem mL_229 : mL 229 = 5 := by rw [mL, mq_229]
theorem mR_229 : mR 229 = (some .boolean) := by rw [mR, mq_229]
theorem wid_229 : wid 229 = 1 := by unfold wid; rw [mC_229]; rfl
set_option maxRecDepth 20000 in
theorem mq_230 : mq 230 = (yX11_place, cX11_place, 2, (some .int), 11, false, 2, ins_230) := rfl
theorem mI_230 : mI 230 = ins_230 := by rw [mI, mq_230]
theorem mC_230 : mC 230 = 11 := by rw [mC, mq_230]
theorem mS_230 : mS 230 = false := by rw [mS, mq_230]
theorem mN_230 : mN 230 = 2 := by rw [mN, mq_230]
theorem mL_230 : mL 230 = 2 := by rw [mL, mq_230]
theorem mR_230 : mR 230 = (some .int) := by rw [mR, mq_230]
theorem wid_230 : wid 230 = 1 := by unfold wid; rw [mC_230]; rfl
set_option maxRecDepth 20000 in
theorem mq_231 : mq 231 = (yX11_firm, cX11_firm, 2, (some .int), 11, false, 2, ins_231) := rfl
theorem mI_231 : mI 231 = ins_231 := by rw [mI, mq_231]
theorem mC_231 : mC 231 = 11 := by rw [mC, mq_231]
theorem mS_231 : mS 231 = false := by rw [mS, mq_231]
theorem mN_231 : mN 231 = 2 := by rw [mN, mq_231]
theorem mL_231 : mL 231 = 2 := by rw [mL, mq_231]
theorem mR_231 : mR 231 = (some .int) := by rw [mR, mq_231]
theorem wid_231 : wid 231 = 1 := by unfold wid; rw [mC_231]; rfl
set_option maxRecDepth 20000 in
theorem mq_232 : mq 232 = (yX11_walker, cX11_walker, 3, (some .int), 11, false, 3, ins_232) := rfl
theorem mI_232 : mI 232 = ins_232 := by rw [mI, mq_232]
theorem mC_232 : mC 232 = 11 := by rw [mC, mq_232]
theorem mS_232 : mS 232 = false := by rw [mS, mq_232]
theorem mN_232 : mN 232 = 3 := by rw [mN, mq_232]
theorem mL_232 : mL 232 = 3 := by rw [mL, mq_232]
theorem mR_232 : mR 232 = (some .int) := by rw [mR, mq_232]
theorem wid_232 : wid 232 = 1 := by unfold wid; rw [mC_232]; rfl
set_option maxRecDepth 20000 in
theorem mq_233 : mq 233 = (yX11_board, cX11_board, 3, (some .int), 11, false, 3, ins_233) := rfl
theorem mI_233 : mI 233 = ins_233 := by rw [mI, mq_233]
theorem mC_233 : mC 233 = 11 := by rw [mC, mq_233]
theorem mS_233 : mS 233 = false := by rw [mS, mq_233]
theorem mN_233 : mN 233 = 3 := by rw [mN, mq_233]
theorem mL_233 : mL 233 = 3 := by rw [mL, mq_233]
theorem mR_233 : mR 233 = (some .int) := by rw [mR, mq_233]
theorem wid_233 : wid 233 = 1 := by unfold wid; rw [mC_233]; rfl
set_option maxRecDepth 20000 in
theorem mq_234 : mq 234 = (yX11_write, cX11_write, 2, (some .int), 11, false, 2, ins_234) := rfl
theorem mI_234 : mI 234 = ins_234 := by rw [mI, mq_234]
theorem mC_234 : mC 234 = 11 := by rw [mC, mq_234]
theorem mS_234 : mS 234 = false := by rw [mS, mq_234]
theorem mN_234 : mN 234 = 2 := by rw [mN, mq_234]
theorem mL_234 : mL 234 = 2 := by rw [mL, mq_234]
theorem mR_234 : mR 234 = (some .int) := by rw [mR, mq_234]
theorem wid_234 : wid 234 = 1 := by unfold wid; rw [mC_234]; rfl
set_option maxRecDepth 20000 in
theorem mq_235 : mq 235 = (yX11_erase, cX11_erase, 2, (some .int), 11, false, 1, ins_235) := rfl
theorem mI_235 : mI 235 = ins_235 := by rw [mI, mq_235]
theorem mC_235 : mC 235 = 11 := by rw [mC, mq_235]
theorem mS_235 : mS 235 = false := by rw [mS, mq_235]
theorem mN_235 : mN 235 = 1 := by rw [mN, mq_235]
theorem mL_235 : mL 235 = 2 := by rw [mL, mq_235]
theorem mR_235 : mR 235 = (some .int) := by rw [mR, mq_235]
theorem wid_235 : wid 235 = 1 := by unfold wid; rw [mC_235]; rfl
set_option maxRecDepth 20000 in
theorem mq_236 : mq 236 = (yX11_textLong, cX11_textLong, 1, (some .int), 11, false, 1, ins_236) := rfl
theorem mI_236 : mI 236 = ins_236 := by rw [mI, mq_236]
theorem mC_236 : mC 236 = 11 := by rw [mC, mq_236]
theorem mS_236 : mS 236 = false := by rw [mS, mq_236]
theorem mN_236 : mN 236 = 1 := by rw [mN, mq_236]
theorem mL_236 : mL 236 = 1 := by rw [mL, mq_236]
theorem mR_236 : mR 236 = (some .int) := by rw [mR, mq_236]
theorem wid_236 : wid 236 = 1 := by unfold wid; rw [mC_236]; rfl
set_option maxRecDepth 20000 in
theorem mq_237 : mq 237 = (yX11_charAt, cX11_charAt, 2, (some .int), 11, false, 2, ins_237) := rfl
theorem mI_237 : mI 237 = ins_237 := by rw [mI, mq_237]
theorem mC_237 : mC 237 = 11 := by rw [mC, mq_237]
theorem mS_237 : mS 237 = false := by rw [mS, mq_237]
theorem mN_237 : mN 237 = 2 := by rw [mN, mq_237]
theorem mL_237 : mL 237 = 2 := by rw [mL, mq_237]
theorem mR_237 : mR 237 = (some .int) := by rw [mR, mq_237]
theorem wid_237 : wid 237 = 1 := by unfold wid; rw [mC_237]; rfl
set_option maxRecDepth 20000 in
theorem mq_238 : mq 238 = (yX11_ahead, cX11_ahead, 1, (some .int), 11, false, 1, ins_238) := rfl
theorem mI_238 : mI 238 = ins_238 := by rw [mI, mq_238]
theorem mC_238 : mC 238 = 11 := by rw [mC, mq_238]
theorem mS_238 : mS 238 = false := by rw [mS, mq_238]
theorem mN_238 : mN 238 = 1 := by rw [mN, mq_238]
theorem mL_238 : mL 238 = 1 := by rw [mL, mq_238]
theorem mR_238 : mR 238 = (some .int) := by rw [mR, mq_238]
theorem wid_238 : wid 238 = 1 := by unfold wid; rw [mC_238]; rfl
set_option maxRecDepth 20000 in
theorem mq_239 : mq 239 = (yX11_rank, cX11_rank, 1, (some .int), 11, true, 1, ins_239) := rfl
theorem mI_239 : mI 239 = ins_239 := by rw [mI, mq_239]
theorem mC_239 : mC 239 = 11 := by rw [mC, mq_239]
theorem mS_239 : mS 239 = true := by rw [mS, mq_239]
theorem mN_239 : mN 239 = 1 := by rw [mN, mq_239]
theorem mL_239 : mL 239 = 1 := by rw [mL, mq_239]
theorem mR_239 : mR 239 = (some .int) := by rw [mR, mq_239]
theorem wid_239 : wid 239 = 1 := by unfold wid; rw [mC_239]; rfl
set_option maxRecDepth 20000 in
theorem mq_240 : mq 240 = (yX11_workOut, cX11_workOut, 7, none, 11, false, 1, ins_240) := rfl
theorem mI_240 : mI 240 = ins_240 := by rw [mI, mq_240]
theorem mC_240 : mC 240 = 11 := by rw [mC, mq_240]
theorem mS_240 : mS 240 = false := by rw [mS, mq_240]
theorem mN_240 : mN 240 = 1 := by rw [mN, mq_240]
theorem mL_240 : mL 240 = 7 := by rw [mL, mq_240]
theorem mR_240 : mR 240 = none := by rw [mR, mq_240]
theorem wid_240 : wid 240 = 1 := by unfold wid; rw [mC_240]; rfl
set_option maxRecDepth 20000 in
theorem mq_241 : mq 241 = (yX11_workDown, cX11_workDown, 2, none, 11, false, 2, ins_241) := rfl
theorem mI_241 : mI 241 = ins_241 := by rw [mI, mq_241]
theorem mC_241 : mC 241 = 11 := by rw [mC, mq_241]
theorem mS_241 : mS 241 = false := by rw [mS, mq_241]
theorem mN_241 : mN 241 = 2 := by rw [mN, mq_241]
theorem mL_241 : mL 241 = 2 := by rw [mL, mq_241]
theorem mR_241 : mR 241 = none := by rw [mR, mq_241]
theorem wid_241 : wid 241 = 1 := by unfold wid; rw [mC_241]; rfl
set_option maxRecDepth 20000 in
theorem mq_242 : mq 242 = (yX11_stands, cX11_stands, 5, none, 11, false, 2, ins_242) := rfl
theorem mI_242 : mI 242 = ins_242 := by rw [mI, mq_242]
theorem mC_242 : mC 242 = 11 := by rw [mC, mq_242]
theorem mS_242 : mS 242 = false := by rw [mS, mq_242]
theorem mN_242 : mN 242 = 2 := by rw [mN, mq_242]
theorem mL_242 : mL 242 = 5 := by rw [mL, mq_242]
theorem mR_242 : mR 242 = none := by rw [mR, mq_242]
theorem wid_242 : wid 242 = 1 := by unfold wid; rw [mC_242]; rfl
set_option maxRecDepth 20000 in
theorem mq_243 : mq 243 = (yX11_letterOf, cX11_letterOf, 1, (some .int), 11, true, 1, ins_243) := rfl
theorem mI_243 : mI 243 = ins_243 := by rw [mI, mq_243]
theorem mC_243 : mC 243 = 11 := by rw [mC, mq_243]
theorem mS_243 : mS 243 = true := by rw [mS, mq_243]
theorem mN_243 : mN 243 = 1 := by rw [mN, mq_243]
theorem mL_243 : mL 243 = 1 := by rw [mL, mq_243]
theorem mR_243 : mR 243 = (some .int) := by rw [mR, mq_243]
theorem wid_243 : wid 243 = 1 := by unfold wid; rw [mC_243]; rfl
set_option maxRecDepth 20000 in
theorem mq_244 : mq 244 = (yX11_isFigure, cX11_isFigure, 1, (some .boolean), 11, true, 1, ins_244) := rfl
theorem mI_244 : mI 244 = ins_244 := by rw [mI, mq_244]
theorem mC_244 : mC 244 = 11 := by rw [mC, mq_244]
theorem mS_244 : mS 244 = true := by rw [mS, mq_244]
theorem mN_244 : mN 244 = 1 := by rw [mN, mq_244]
theorem mL_244 : mL 244 = 1 := by rw [mL, mq_244]
theorem mR_244 : mR 244 = (some .boolean) := by rw [mR, mq_244]
theorem wid_244 : wid 244 = 1 := by unfold wid; rw [mC_244]; rfl
set_option maxRecDepth 20000 in
theorem mq_245 : mq 245 = (yX11_digits, cX11_digits, 4, (some .long), 11, false, 1, ins_245) := rfl
theorem mI_245 : mI 245 = ins_245 := by rw [mI, mq_245]
theorem mC_245 : mC 245 = 11 := by rw [mC, mq_245]
theorem mS_245 : mS 245 = false := by rw [mS, mq_245]
theorem mN_245 : mN 245 = 1 := by rw [mN, mq_245]
theorem mL_245 : mL 245 = 4 := by rw [mL, mq_245]
theorem mR_245 : mR 245 = (some .long) := by rw [mR, mq_245]
theorem wid_245 : wid 245 = 1 := by unfold wid; rw [mC_245]; rfl
set_option maxRecDepth 20000 in
theorem mq_246 : mq 246 = (yX11_reads, cX11_reads, 5, (some .boolean), 11, false, 1, ins_246) := rfl
theorem mI_246 : mI 246 = ins_246 := by rw [mI, mq_246]
theorem mC_246 : mC 246 = 11 := by rw [mC, mq_246]
theorem mS_246 : mS 246 = false := by rw [mS, mq_246]
theorem mN_246 : mN 246 = 1 := by rw [mN, mq_246]
theorem mL_246 : mL 246 = 5 := by rw [mL, mq_246]
theorem mR_246 : mR 246 = (some .boolean) := by rw [mR, mq_246]
theorem wid_246 : wid 246 = 1 := by unfold wid; rw [mC_246]; rfl
set_option maxRecDepth 20000 in
theorem mq_247 : mq 247 = (yX11_fault, cX11_fault, 2, (some .int), 11, false, 1, ins_247) := rfl
theorem mI_247 : mI 247 = ins_247 := by rw [mI, mq_247]
theorem mC_247 : mC 247 = 11 := by rw [mC, mq_247]
theorem mS_247 : mS 247 = false := by rw [mS, mq_247]
theorem mN_247 : mN 247 = 1 := by rw [mN, mq_247]
theorem mL_247 : mL 247 = 2 := by rw [mL, mq_247]
theorem mR_247 : mR 247 = (some .int) := by rw [mR, mq_247]
theorem wid_247 : wid 247 = 1 := by unfold wid; rw [mC_247]; rfl
set_option maxRecDepth 20000 in
theorem mq_248 : mq 248 = (yX11_boardBehind, cX11_boardBehind, 6, (some .int), 11, false, 3, ins_248) := rfl
theorem mI_248 : mI 248 = ins_248 := by rw [mI, mq_248]
theorem mC_248 : mC 248 = 11 := by rw [mC, mq_248]
theorem mS_248 : mS 248 = false := by rw [mS, mq_248]
theorem mN_248 : mN 248 = 3 := by rw [mN, mq_248]
theorem mL_248 : mL 248 = 6 := by rw [mL, mq_248]
theorem mR_248 : mR 248 = (some .int) := by rw [mR, mq_248]
theorem wid_248 : wid 248 = 1 := by unfold wid; rw [mC_248]; rfl
set_option maxRecDepth 20000 in
theorem mq_249 : mq 249 = (yX11_mayTakeOne, cX11_mayTakeOne, 7, (some .boolean), 11, false, 3, ins_249) := rfl
theorem mI_249 : mI 249 = ins_249 := by rw [mI, mq_249]
theorem mC_249 : mC 249 = 11 := by rw [mC, mq_249]
theorem mS_249 : mS 249 = false := by rw [mS, mq_249]
theorem mN_249 : mN 249 = 3 := by rw [mN, mq_249]
theorem mL_249 : mL 249 = 7 := by rw [mL, mq_249]
theorem mR_249 : mR 249 = (some .boolean) := by rw [mR, mq_249]
theorem wid_249 : wid 249 = 1 := by unfold wid; rw [mC_249]; rfl
set_option maxRecDepth 20000 in
theorem mq_250 : mq 250 = (yX11_setAct, cX11_setAct, 5, none, 11, false, 5, ins_250) := rfl
theorem mI_250 : mI 250 = ins_250 := by rw [mI, mq_250]
theorem mC_250 : mC 250 = 11 := by rw [mC, mq_250]
theorem mS_250 : mS 250 = false := by rw [mS, mq_250]
theorem mN_250 : mN 250 = 5 := by rw [mN, mq_250]
theorem mL_250 : mL 250 = 5 := by rw [mL, mq_250]
theorem mR_250 : mR 250 = none := by rw [mR, mq_250]
theorem wid_250 : wid 250 = 1 := by unfold wid; rw [mC_250]; rfl
set_option maxRecDepth 20000 in
theorem mq_251 : mq 251 = (yX11_layLetters, cX11_layLetters, 8, none, 11, false, 4, ins_251) := rfl
theorem mI_251 : mI 251 = ins_251 := by rw [mI, mq_251]
theorem mC_251 : mC 251 = 11 := by rw [mC, mq_251]
theorem mS_251 : mS 251 = false := by rw [mS, mq_251]
theorem mN_251 : mN 251 = 4 := by rw [mN, mq_251]
theorem mL_251 : mL 251 = 8 := by rw [mL, mq_251]
theorem mR_251 : mR 251 = none := by rw [mR, mq_251]
theorem wid_251 : wid 251 = 1 := by unfold wid; rw [mC_251]; rfl
set_option maxRecDepth 20000 in
theorem mq_252 : mq 252 = (yX11_goesLost, cX11_goesLost, 8, (some .boolean), 11, false, 3, ins_252) := rfl
theorem mI_252 : mI 252 = ins_252 := by rw [mI, mq_252]
theorem mC_252 : mC 252 = 11 := by rw [mC, mq_252]
theorem mS_252 : mS 252 = false := by rw [mS, mq_252]
theorem mN_252 : mN 252 = 3 := by rw [mN, mq_252]
theorem mL_252 : mL 252 = 8 := by rw [mL, mq_252]
theorem mR_252 : mR 252 = (some .boolean) := by rw [mR, mq_252]
theorem wid_252 : wid 252 = 1 := by unfold wid; rw [mC_252]; rfl
set_option maxRecDepth 20000 in
theorem mq_253 : mq 253 = (yX11_goMist, cX11_goMist, 3, none, 11, false, 2, ins_253) := rfl
theorem mI_253 : mI 253 = ins_253 := by rw [mI, mq_253]
theorem mC_253 : mC 253 = 11 := by rw [mC, mq_253]
theorem mS_253 : mS 253 = false := by rw [mS, mq_253]
theorem mN_253 : mN 253 = 2 := by rw [mN, mq_253]
theorem mL_253 : mL 253 = 3 := by rw [mL, mq_253]
theorem mR_253 : mR 253 = none := by rw [mR, mq_253]
theorem wid_253 : wid 253 = 1 := by unfold wid; rw [mC_253]; rfl
set_option maxRecDepth 20000 in
theorem mq_254 : mq 254 = (yX11_mist, cX11_mist, 5, (some .int), 11, false, 3, ins_254) := rfl
theorem mI_254 : mI 254 = ins_254 := by rw [mI, mq_254]
theorem mC_254 : mC 254 = 11 := by rw [mC, mq_254]
theorem mS_254 : mS 254 = false := by rw [mS, mq_254]
theorem mN_254 : mN 254 = 3 := by rw [mN, mq_254]
theorem mL_254 : mL 254 = 5 := by rw [mL, mq_254]
theorem mR_254 : mR 254 = (some .int) := by rw [mR, mq_254]
theorem wid_254 : wid 254 = 1 := by unfold wid; rw [mC_254]; rfl
set_option maxRecDepth 20000 in
theorem mq_255 : mq 255 = (yX11_years, cX11_years, 9, (some .int), 11, false, 4, ins_255) := rfl
theorem mI_255 : mI 255 = ins_255 := by rw [mI, mq_255]
theorem mC_255 : mC 255 = 11 := by rw [mC, mq_255]
theorem mS_255 : mS 255 = false := by rw [mS, mq_255]
theorem mN_255 : mN 255 = 4 := by rw [mN, mq_255]
theorem mL_255 : mL 255 = 9 := by rw [mL, mq_255]
theorem mR_255 : mR 255 = (some .int) := by rw [mR, mq_255]
theorem wid_255 : wid 255 = 1 := by unfold wid; rw [mC_255]; rfl
set_option maxRecDepth 20000 in
theorem mq_256 : mq 256 = (yX11_sign, cX11_sign, 2, (some .int), 11, false, 2, ins_256) := rfl
theorem mI_256 : mI 256 = ins_256 := by rw [mI, mq_256]
theorem mC_256 : mC 256 = 11 := by rw [mC, mq_256]
theorem mS_256 : mS 256 = false := by rw [mS, mq_256]
theorem mN_256 : mN 256 = 2 := by rw [mN, mq_256]
theorem mL_256 : mL 256 = 2 := by rw [mL, mq_256]
theorem mR_256 : mR 256 = (some .int) := by rw [mR, mq_256]
theorem wid_256 : wid 256 = 1 := by unfold wid; rw [mC_256]; rfl
set_option maxRecDepth 20000 in
theorem mq_257 : mq 257 = (yX11_limb, cX11_limb, 3, (some .int), 11, false, 3, ins_257) := rfl
theorem mI_257 : mI 257 = ins_257 := by rw [mI, mq_257]
theorem mC_257 : mC 257 = 11 := by rw [mC, mq_257]
theorem mS_257 : mS 257 = false := by rw [mS, mq_257]
theorem mN_257 : mN 257 = 3 := by rw [mN, mq_257]
theorem mL_257 : mL 257 = 3 := by rw [mL, mq_257]
theorem mR_257 : mR 257 = (some .int) := by rw [mR, mq_257]
theorem wid_257 : wid 257 = 1 := by unfold wid; rw [mC_257]; rfl
set_option maxRecDepth 20000 in
theorem mq_258 : mq 258 = (yX11_image, cX11_image, 3, (some .int), 11, false, 2, ins_258) := rfl
theorem mI_258 : mI 258 = ins_258 := by rw [mI, mq_258]
theorem mC_258 : mC 258 = 11 := by rw [mC, mq_258]
theorem mS_258 : mS 258 = false := by rw [mS, mq_258]
theorem mN_258 : mN 258 = 2 := by rw [mN, mq_258]
theorem mL_258 : mL 258 = 3 := by rw [mL, mq_258]
theorem mR_258 : mR 258 = (some .int) := by rw [mR, mq_258]
theorem wid_258 : wid 258 = 1 := by unfold wid; rw [mC_258]; rfl
set_option maxRecDepth 20000 in
theorem mq_259 : mq 259 = (yX11_from, cX11_from, 3, (some .int), 11, false, 2, ins_259) := rfl
theorem mI_259 : mI 259 = ins_259 := by rw [mI, mq_259]
theorem mC_259 : mC 259 = 11 := by rw [mC, mq_259]
theorem mS_259 : mS 259 = false := by rw [mS, mq_259]
theorem mN_259 : mN 259 = 2 := by rw [mN, mq_259]
theorem mL_259 : mL 259 = 3 := by rw [mL, mq_259]
theorem mR_259 : mR 259 = (some .int) := by rw [mR, mq_259]
theorem wid_259 : wid 259 = 1 := by unfold wid; rw [mC_259]; rfl
set_option maxRecDepth 20000 in
theorem mq_260 : mq 260 = (yX11_status, cX11_status, 2, (some .int), 11, false, 2, ins_260) := rfl
theorem mI_260 : mI 260 = ins_260 := by rw [mI, mq_260]
theorem mC_260 : mC 260 = 11 := by rw [mC, mq_260]
theorem mS_260 : mS 260 = false := by rw [mS, mq_260]
theorem mN_260 : mN 260 = 2 := by rw [mN, mq_260]
theorem mL_260 : mL 260 = 2 := by rw [mL, mq_260]
theorem mR_260 : mR 260 = (some .int) := by rw [mR, mq_260]
theorem wid_260 : wid 260 = 1 := by unfold wid; rw [mC_260]; rfl
set_option maxRecDepth 20000 in
theorem mq_261 : mq 261 = (yX11_counted, cX11_counted, 2, (some .int), 11, false, 2, ins_261) := rfl
theorem mI_261 : mI 261 = ins_261 := by rw [mI, mq_261]
theorem mC_261 : mC 261 = 11 := by rw [mC, mq_261]
theorem mS_261 : mS 261 = false := by rw [mS, mq_261]
theorem mN_261 : mN 261 = 2 := by rw [mN, mq_261]
theorem mL_261 : mL 261 = 2 := by rw [mL, mq_261]
theorem mR_261 : mR 261 = (some .int) := by rw [mR, mq_261]
theorem wid_261 : wid 261 = 1 := by unfold wid; rw [mC_261]; rfl
set_option maxRecDepth 20000 in
theorem mq_262 : mq 262 = (yX11_count, cX11_count, 2, (some .int), 11, false, 2, ins_262) := rfl
theorem mI_262 : mI 262 = ins_262 := by rw [mI, mq_262]
theorem mC_262 : mC 262 = 11 := by rw [mC, mq_262]
theorem mS_262 : mS 262 = false := by rw [mS, mq_262]
theorem mN_262 : mN 262 = 2 := by rw [mN, mq_262]
theorem mL_262 : mL 262 = 2 := by rw [mL, mq_262]
theorem mR_262 : mR 262 = (some .int) := by rw [mR, mq_262]
theorem wid_262 : wid 262 = 1 := by unfold wid; rw [mC_262]; rfl
set_option maxRecDepth 20000 in
theorem mq_263 : mq 263 = (yX11_sums, cX11_sums, 8, (some .long), 11, false, 4, ins_263) := rfl
theorem mI_263 : mI 263 = ins_263 := by rw [mI, mq_263]
theorem mC_263 : mC 263 = 11 := by rw [mC, mq_263]
theorem mS_263 : mS 263 = false := by rw [mS, mq_263]
theorem mN_263 : mN 263 = 4 := by rw [mN, mq_263]
theorem mL_263 : mL 263 = 8 := by rw [mL, mq_263]
theorem mR_263 : mR 263 = (some .long) := by rw [mR, mq_263]
theorem wid_263 : wid 263 = 1 := by unfold wid; rw [mC_263]; rfl
set_option maxRecDepth 20000 in
theorem mq_264 : mq 264 = (yX11_digest, cX11_digest, 5, (some .long), 11, false, 1, ins_264) := rfl
theorem mI_264 : mI 264 = ins_264 := by rw [mI, mq_264]
theorem mC_264 : mC 264 = 11 := by rw [mC, mq_264]
theorem mS_264 : mS 264 = false := by rw [mS, mq_264]
theorem mN_264 : mN 264 = 1 := by rw [mN, mq_264]
theorem mL_264 : mL 264 = 5 := by rw [mL, mq_264]
theorem mR_264 : mR 264 = (some .long) := by rw [mR, mq_264]
theorem wid_264 : wid 264 = 1 := by unfold wid; rw [mC_264]; rfl
set_option maxRecDepth 20000 in
theorem mq_265 : mq 265 = (yJ9_floorMod_f86c9, cJ9_floorMod_f86c9, 6, (some .long), 16, true, 2, ins_265) := rfl
theorem mI_265 : mI 265 = ins_265 := by rw [mI, mq_265]
theorem mC_265 : mC 265 = 16 := by rw [mC, mq_265]
theorem mS_265 : mS 265 = true := by rw [mS, mq_265]
theorem mN_265 : mN 265 = 2 := by rw [mN, mq_265]
theorem mL_265 : mL 265 = 6 := by rw [mL, mq_265]
theorem mR_265 : mR 265 = (some .long) := by rw [mR, mq_265]
theorem wid_265 : wid 265 = 0 := by unfold wid; rw [mC_265]; rfl
set_option maxRecDepth 20000 in
theorem mq_266 : mq 266 = (yJ0_length_8abf5, cJ0_length_8abf5, 1, (some .int), 12, false, 1, ins_266) := rfl
theorem mI_266 : mI 266 = ins_266 := by rw [mI, mq_266]
theorem mC_266 : mC 266 = 12 := by rw [mC, mq_266]
theorem mS_266 : mS 266 = false := by rw [mS, mq_266]
theorem mN_266 : mN 266 = 1 := by rw [mN, mq_266]
theorem mL_266 : mL 266 = 1 := by rw [mL, mq_266]
theorem mR_266 : mR 266 = (some .int) := by rw [mR, mq_266]
theorem wid_266 : wid 266 = 0 := by unfold wid; rw [mC_266]; rfl
set_option maxRecDepth 20000 in
theorem mq_267 : mq 267 = (yJ0_charAt_5068e, cJ0_charAt_5068e, 2, (some .char), 12, false, 2, ins_267) := rfl
theorem mI_267 : mI 267 = ins_267 := by rw [mI, mq_267]
theorem mC_267 : mC 267 = 12 := by rw [mC, mq_267]
theorem mS_267 : mS 267 = false := by rw [mS, mq_267]
theorem mN_267 : mN 267 = 2 := by rw [mN, mq_267]
theorem mL_267 : mL 267 = 2 := by rw [mL, mq_267]
theorem mR_267 : mR 267 = (some .char) := by rw [mR, mq_267]
theorem wid_267 : wid 267 = 0 := by unfold wid; rw [mC_267]; rfl
set_option maxRecDepth 20000 in
theorem mq_268 : mq 268 = (yJ0_coder_7d493, cJ0_coder_7d493, 1, (some .byte), 12, false, 1, ins_268) := rfl
theorem mI_268 : mI 268 = ins_268 := by rw [mI, mq_268]
theorem mC_268 : mC 268 = 12 := by rw [mC, mq_268]
theorem mS_268 : mS 268 = false := by rw [mS, mq_268]
theorem mN_268 : mN 268 = 1 := by rw [mN, mq_268]
theorem mL_268 : mL 268 = 1 := by rw [mL, mq_268]
theorem mR_268 : mR 268 = (some .byte) := by rw [mR, mq_268]
theorem wid_268 : wid 268 = 0 := by unfold wid; rw [mC_268]; rfl
set_option maxRecDepth 20000 in
theorem mq_269 : mq 269 = (yJ0_isLatin1_aae02, cJ0_isLatin1_aae02, 1, (some .boolean), 12, false, 1, ins_269) := rfl
theorem mI_269 : mI 269 = ins_269 := by rw [mI, mq_269]
theorem mC_269 : mC 269 = 12 := by rw [mC, mq_269]
theorem mS_269 : mS 269 = false := by rw [mS, mq_269]
theorem mN_269 : mN 269 = 1 := by rw [mN, mq_269]
theorem mL_269 : mL 269 = 1 := by rw [mL, mq_269]
theorem mR_269 : mR 269 = (some .boolean) := by rw [mR, mq_269]
theorem wid_269 : wid 269 = 0 := by unfold wid; rw [mC_269]; rfl
set_option maxRecDepth 20000 in
theorem mq_270 : mq 270 = (yJ0_checkIndex_df160, cJ0_checkIndex_df160, 2, none, 12, true, 2, ins_270) := rfl
theorem mI_270 : mI 270 = ins_270 := by rw [mI, mq_270]
theorem mC_270 : mC 270 = 12 := by rw [mC, mq_270]
theorem mS_270 : mS 270 = true := by rw [mS, mq_270]
theorem mN_270 : mN 270 = 2 := by rw [mN, mq_270]
theorem mL_270 : mL 270 = 2 := by rw [mL, mq_270]
theorem mR_270 : mR 270 = none := by rw [mR, mq_270]
theorem wid_270 : wid 270 = 0 := by unfold wid; rw [mC_270]; rfl
set_option maxRecDepth 20000 in
theorem mq_271 : mq 271 = (yJ1_charAt_3b067, cJ1_charAt_3b067, 2, (some .char), 13, true, 2, ins_271) := rfl
theorem mI_271 : mI 271 = ins_271 := by rw [mI, mq_271]
theorem mC_271 : mC 271 = 13 := by rw [mC, mq_271]
theorem mS_271 : mS 271 = true := by rw [mS, mq_271]
theorem mN_271 : mN 271 = 2 := by rw [mN, mq_271]
theorem mL_271 : mL 271 = 2 := by rw [mL, mq_271]
theorem mR_271 : mR 271 = (some .char) := by rw [mR, mq_271]
theorem wid_271 : wid 271 = 0 := by unfold wid; rw [mC_271]; rfl
set_option maxRecDepth 20000 in
theorem mq_272 : mq 272 = (yJ3_checkIndex_8e157, cJ3_checkIndex_8e157, 3, (some .int), 15, true, 3, ins_272) := rfl
theorem mI_272 : mI 272 = ins_272 := by rw [mI, mq_272]
theorem mC_272 : mC 272 = 15 := by rw [mC, mq_272]
theorem mS_272 : mS 272 = true := by rw [mS, mq_272]
theorem mN_272 : mN 272 = 3 := by rw [mN, mq_272]
theorem mL_272 : mL 272 = 3 := by rw [mL, mq_272]
theorem mR_272 : mR 272 = (some .int) := by rw [mR, mq_272]
theorem wid_272 : wid 272 = 0 := by unfold wid; rw [mC_272]; rfl
theorem mq_273 : mq 273 = (yL_law, cL_law, 4, some .boolean, 18, true, 1, ins_273) := mq_L (Nat.le_refl _)
theorem mI_273 : mI 273 = ins_273 := by rw [mI, mq_273]
theorem mC_273 : mC 273 = 18 := by rw [mC, mq_273]
theorem mS_273 : mS 273 = true := by rw [mS, mq_273]
theorem mN_273 : mN 273 = 1 := by rw [mN, mq_273]
theorem mL_273 : mL 273 = 4 := by rw [mL, mq_273]
theorem mR_273 : mR 273 = some .boolean := by rw [mR, mq_273]
theorem wid_273 : wid 273 = 2 := by unfold wid; rw [mC_273]; rfl
theorem cT_1 : cT 1 = (0, 10) := rfl
theorem cT_2 : cT 2 = (0, 0) := rfl
theorem cT_3 : cT 3 = (1, 3) := rfl
theorem cT_4 : cT 4 = (1, 3) := rfl
theorem cT_5 : cT 5 = (1, 2) := rfl
theorem cT_6 : cT 6 = (1, 2) := rfl
theorem cT_7 : cT 7 = (1, 2) := rfl
theorem cT_8 : cT 8 = (1, 2) := rfl
theorem cT_9 : cT 9 = (1, 2) := rfl
theorem cT_10 : cT 10 = (0, 0) := rfl
theorem cT_11 : cT 11 = (1, 3) := rfl
theorem cT_12 : cT 12 = (1, 3) := rfl
theorem cT_13 : cT 13 = (1, 2) := rfl
theorem cT_14 : cT 14 = (1, 2) := rfl
theorem cT_15 : cT 15 = (1, 2) := rfl
theorem cT_16 : cT 16 = (1, 2) := rfl
theorem cT_17 : cT 17 = (1, 2) := rfl
theorem cT_18 : cT 18 = (0, 8) := rfl
theorem cT_19 : cT 19 = (1, 200) := rfl
theorem cT_20 : cT 20 = (0, 9) := rfl
theorem cT_21 : cT 21 = (0, 5) := rfl
theorem cT_22 : cT 22 = (1, 40) := rfl
theorem cT_23 : cT 23 = (1, 40) := rfl
theorem cT_24 : cT 24 = (2, 40) := rfl
theorem cT_25 : cT 25 = (0, 4) := rfl
theorem cT_26 : cT 26 = (1, 8) := rfl
theorem cT_27 : cT 27 = (0, 6) := rfl
theorem cT_28 : cT 28 = (1, 131072) := rfl
theorem cT_29 : cT 29 = (1, 131072) := rfl
theorem cT_30 : cT 30 = (1, 131072) := rfl
theorem cT_31 : cT 31 = (1, 64) := rfl
theorem cT_32 : cT 32 = (1, 2) := rfl
theorem cT_33 : cT 33 = (1, 3) := rfl
theorem cT_34 : cT 34 = (0, 3) := rfl
theorem cT_35 : cT 35 = (0, 7) := rfl
theorem cT_36 : cT 36 = (0, 1) := rfl
theorem cT_37 : cT 37 = (2, 4) := rfl
theorem cT_38 : cT 38 = (2, 4) := rfl
theorem cT_39 : cT 39 = (2, 4) := rfl
theorem cT_40 : cT 40 = (0, 2) := rfl
theorem cT_41 : cT 41 = (0, 0) := rfl
theorem cT_42 : cT 42 = (1, 3) := rfl
theorem cT_43 : cT 43 = (1, 3) := rfl
theorem cT_44 : cT 44 = (1, 2) := rfl
theorem cT_45 : cT 45 = (1, 2) := rfl
theorem cT_46 : cT 46 = (1, 2) := rfl
theorem cT_47 : cT 47 = (1, 2) := rfl
theorem cT_48 : cT 48 = (1, 2) := rfl
theorem cT_49 : cT 49 = (0, 5) := rfl
theorem cT_50 : cT 50 = (1, 40) := rfl
theorem cT_51 : cT 51 = (1, 40) := rfl
theorem cT_52 : cT 52 = (2, 40) := rfl
theorem cT_53 : cT 53 = (0, 4) := rfl
theorem cT_54 : cT 54 = (1, 8) := rfl
theorem cT_55 : cT 55 = (0, 2) := rfl
theorem cT_56 : cT 56 = (0, 0) := rfl
theorem cT_57 : cT 57 = (1, 3) := rfl
theorem cT_58 : cT 58 = (1, 3) := rfl
theorem cT_59 : cT 59 = (1, 2) := rfl
theorem cT_60 : cT 60 = (1, 2) := rfl
theorem cT_61 : cT 61 = (1, 2) := rfl
theorem cT_62 : cT 62 = (1, 2) := rfl
theorem cT_63 : cT 63 = (1, 2) := rfl
theorem cT_64 : cT 64 = (0, 5) := rfl
theorem cT_65 : cT 65 = (1, 40) := rfl
theorem cT_66 : cT 66 = (1, 40) := rfl
theorem cT_67 : cT 67 = (2, 40) := rfl
theorem cT_68 : cT 68 = (0, 4) := rfl
theorem cT_69 : cT 69 = (1, 8) := rfl
theorem cT_70 : cT 70 = (0, 11) := rfl
theorem cT_71 : cT 71 = (1, 110) := rfl
theorem cT_72 : cT 72 = (1, 220) := rfl
theorem cT_73 : cT 73 = (3, 2) := rfl
theorem cT_74 : cT 74 = (1, 3) := rfl
theorem cT_75 : cT 75 = (2, 512) := rfl
theorem cT_76 : cT 76 = (1, 8) := rfl
theorem cT_77 : cT 77 = (1, 3) := rfl
theorem cT_78 : cT 78 = (1, 2) := rfl
theorem cT_79 : cT 79 = (1, 3) := rfl
theorem cT_80 : cT 80 = (1, 2) := rfl
theorem cT_81 : cT 81 = (1, 73728) := rfl
theorem cT_82 : cT 82 = (1, 73728) := rfl
theorem cT_83 : cT 83 = (3, 73728) := rfl
theorem cT_84 : cT 84 = (1, 200) := rfl
theorem cT_85 : cT 85 = (1, 26) := rfl
theorem cT_86 : cT 86 = (2, 64) := rfl
theorem cT_87 : cT 87 = (1, 128) := rfl
theorem cT_88 : cT 88 = (2, 6) := rfl
theorem cT_89 : cT 89 = (5, 0) := rfl
theorem cT_90 : cT 90 = (5, 1) := rfl
theorem cT_91 : cT 91 = (5, 2) := rfl
theorem cT_92 : cT 92 = (5, 3) := rfl
theorem cT_93 : cT 93 = (6, 0) := rfl
theorem cT_94 : cT 94 = (6, 1) := rfl
theorem cT_95 : cT 95 = (6, 2) := rfl
theorem cT_96 : cT 96 = (6, 3) := rfl
theorem cT_97 : cT 97 = (4, 0) := rfl
theorem cT_98 : cT 98 = (4, 1) := rfl
theorem cT_99 : cT 99 = (7, 0) := rfl
theorem cT_100 : cT 100 = (8, 0) := rfl
theorem wd_1 : (WdN 0).contains 1 = true := by decide +kernel
theorem wd_2 : (WdN 0).contains 2 = true := by decide +kernel
theorem wd_3 : (WdN 0).contains 3 = true := by decide +kernel
theorem wd_4 : (WdN 0).contains 4 = true := by decide +kernel
theorem wd_5 : (WdN 0).contains 5 = true := by decide +kernel
theorem wd_6 : (WdN 0).contains 6 = true := by decide +kernel
theorem wd_7 : (WdN 0).contains 7 = true := by decide +kernel
theorem wd_8 : (WdN 0).contains 8 = true := by decide +kernel
theorem wd_9 : (WdN 0).contains 9 = true := by decide +kernel
theorem wd_10 : (WdN 0).contains 10 = true := by decide +kernel
theorem wd_11 : (WdN 0).contains 11 = true := by decide +kernel
theorem wd_12 : (WdN 0).contains 12 = true := by decide +kernel
theorem wd_13 : (WdN 0).contains 13 = true := by decide +kernel
theorem wd_14 : (WdN 0).contains 14 = true := by decide +kernel
theorem wd_15 : (WdN 0).contains 15 = true := by decide +kernel
theorem wd_16 : (WdN 0).contains 16 = true := by decide +kernel
theorem wd_17 : (WdN 0).contains 17 = true := by decide +kernel
theorem wd_18 : (WdN 0).contains 18 = true := by decide +kernel
theorem wd_19 : (WdN 0).contains 19 = true := by decide +kernel
theorem wd_20 : (WdN 0).contains 20 = true := by decide +kernel
theorem wd_21 : (WdN 0).contains 21 = true := by decide +kernel
theorem wd_22 : (WdN 0).contains 22 = true := by decide +kernel
theorem wd_23 : (WdN 0).contains 23 = true := by decide +kernel
theorem wd_24 : (WdN 0).contains 24 = true := by decide +kernel
theorem wd_25 : (WdN 0).contains 25 = true := by decide +kernel
theorem wd_26 : (WdN 0).contains 26 = true := by decide +kernel
theorem wd_27 : (WdN 0).contains 27 = true := by decide +kernel
theorem wd_28 : (WdN 0).contains 28 = true := by decide +kernel
theorem wd_29 : (WdN 0).contains 29 = true := by decide +kernel
theorem wd_30 : (WdN 0).contains 30 = true := by decide +kernel
theorem wd_31 : (WdN 0).contains 31 = true := by decide +kernel
theorem wd_32 : (WdN 0).contains 32 = true := by decide +kernel
theorem wd_33 : (WdN 0).contains 33 = true := by decide +kernel
theorem wd_34 : (WdN 0).contains 34 = true := by decide +kernel
theorem wd_35 : (WdN 0).contains 35 = true := by decide +kernel
theorem wd_36 : (WdN 0).contains 36 = true := by decide +kernel
theorem wd_37 : (WdN 0).contains 37 = true := by decide +kernel
theorem wd_38 : (WdN 0).contains 38 = true := by decide +kernel
theorem wd_39 : (WdN 0).contains 39 = true := by decide +kernel
theorem wd_40 : (WdN 0).contains 40 = true := by decide +kernel
theorem wd_41 : (WdN 0).contains 41 = true := by decide +kernel
theorem wd_42 : (WdN 0).contains 42 = true := by decide +kernel
theorem wd_43 : (WdN 0).contains 43 = true := by decide +kernel
theorem wd_44 : (WdN 0).contains 44 = true := by decide +kernel
theorem wd_45 : (WdN 0).contains 45 = true := by decide +kernel
theorem wd_46 : (WdN 0).contains 46 = true := by decide +kernel
theorem wd_47 : (WdN 0).contains 47 = true := by decide +kernel
theorem wd_48 : (WdN 0).contains 48 = true := by decide +kernel
theorem wd_49 : (WdN 0).contains 49 = true := by decide +kernel
theorem wd_50 : (WdN 0).contains 50 = true := by decide +kernel
theorem wd_51 : (WdN 0).contains 51 = true := by decide +kernel
theorem wd_52 : (WdN 0).contains 52 = true := by decide +kernel
theorem wd_53 : (WdN 0).contains 53 = true := by decide +kernel
theorem wd_54 : (WdN 0).contains 54 = true := by decide +kernel
theorem wd_55 : (WdN 0).contains 55 = true := by decide +kernel
theorem wd_56 : (WdN 0).contains 56 = true := by decide +kernel
theorem wd_57 : (WdN 0).contains 57 = true := by decide +kernel
theorem wd_58 : (WdN 0).contains 58 = true := by decide +kernel
theorem wd_59 : (WdN 0).contains 59 = true := by decide +kernel
theorem wd_60 : (WdN 0).contains 60 = true := by decide +kernel
theorem wd_61 : (WdN 0).contains 61 = true := by decide +kernel
theorem wd_62 : (WdN 0).contains 62 = true := by decide +kernel
theorem wd_63 : (WdN 0).contains 63 = true := by decide +kernel
theorem wd_64 : (WdN 0).contains 64 = true := by decide +kernel
theorem wd_65 : (WdN 0).contains 65 = true := by decide +kernel
theorem wd_66 : (WdN 0).contains 66 = true := by decide +kernel
theorem wd_67 : (WdN 0).contains 67 = true := by decide +kernel
theorem wd_68 : (WdN 0).contains 68 = true := by decide +kernel
theorem wd_69 : (WdN 0).contains 69 = true := by decide +kernel
theorem wd_70 : (WdN 1).contains 70 = true := by decide +kernel
theorem wd_71 : (WdN 1).contains 71 = true := by decide +kernel
theorem wd_72 : (WdN 1).contains 72 = true := by decide +kernel
theorem wd_73 : (WdN 1).contains 73 = true := by decide +kernel
theorem wd_74 : (WdN 1).contains 74 = true := by decide +kernel
theorem wd_75 : (WdN 1).contains 75 = true := by decide +kernel
theorem wd_76 : (WdN 1).contains 76 = true := by decide +kernel
theorem wd_77 : (WdN 1).contains 77 = true := by decide +kernel
theorem wd_78 : (WdN 1).contains 78 = true := by decide +kernel
theorem wd_79 : (WdN 1).contains 79 = true := by decide +kernel
theorem wd_80 : (WdN 1).contains 80 = true := by decide +kernel
theorem wd_81 : (WdN 1).contains 81 = true := by decide +kernel
theorem wd_82 : (WdN 1).contains 82 = true := by decide +kernel
theorem wd_83 : (WdN 1).contains 83 = true := by decide +kernel
theorem wd_84 : (WdN 1).contains 84 = true := by decide +kernel
theorem wd_85 : (WdN 1).contains 85 = true := by decide +kernel
theorem wd_86 : (WdN 1).contains 86 = true := by decide +kernel
theorem wd_87 : (WdN 1).contains 87 = true := by decide +kernel
theorem wd_88 : (WdN 1).contains 88 = true := by decide +kernel
theorem fr_0_11 : fres 0 11 = some (0, 0) := by decide +kernel
theorem fr_9_61 : fres 9 61 = some (0, 0) := by decide +kernel
theorem fr_10_276 : fres 10 276 = some (0, 0) := by decide +kernel
theorem fr_0_37 : fres 0 37 = some (0, 1) := by decide +kernel
theorem fr_9_58 : fres 9 58 = some (0, 1) := by decide +kernel
theorem fr_0_40 : fres 0 40 = some (0, 2) := by decide +kernel
theorem fr_3_39 : fres 3 39 = some (0, 2) := by decide +kernel
theorem fr_9_65 : fres 9 65 = some (0, 2) := by decide +kernel
theorem fr_10_125 : fres 10 125 = some (0, 2) := by decide +kernel
theorem fr_0_43 : fres 0 43 = some (0, 3) := by decide +kernel
theorem fr_9_74 : fres 9 74 = some (0, 3) := by decide +kernel
theorem fr_10_273 : fres 10 273 = some (0, 3) := by decide +kernel
theorem fr_3_22 : fres 3 22 = some (0, 4) := by decide +kernel
theorem fr_0_46 : fres 0 46 = some (0, 4) := by decide +kernel
theorem fr_6_41 : fres 6 41 = some (0, 4) := by decide +kernel
theorem fr_10_99 : fres 10 99 = some (0, 4) := by decide +kernel
theorem fr_0_15 : fres 0 15 = some (0, 5) := by decide +kernel
theorem fr_0_19 : fres 0 19 = some (0, 6) := by decide +kernel
theorem fr_3_77 : fres 3 77 = some (0, 6) := by decide +kernel
theorem fr_0_22 : fres 0 22 = some (0, 7) := by decide +kernel
theorem fr_0_25 : fres 0 25 = some (0, 8) := by decide +kernel
theorem fr_0_28 : fres 0 28 = some (0, 9) := by decide +kernel
theorem fr_0_31 : fres 0 31 = some (0, 10) := by decide +kernel
theorem fr_10_152 : fres 10 152 = some (0, 10) := by decide +kernel
theorem fr_0_34 : fres 0 34 = some (0, 11) := by decide +kernel
theorem fr_10_156 : fres 10 156 = some (0, 11) := by decide +kernel
theorem fr_8_11 : fres 8 11 = some (8, 0) := by decide +kernel
theorem fr_8_15 : fres 8 15 = some (8, 1) := by decide +kernel
theorem fr_10_84 : fres 10 84 = some (8, 1) := by decide +kernel
theorem fr_9_91 : fres 9 91 = some (8, 1) := by decide +kernel
theorem fr_9_9 : fres 9 9 = some (9, 0) := by decide +kernel
theorem fr_9_15 : fres 9 15 = some (9, 1) := by decide +kernel
theorem fr_9_33 : fres 9 33 = some (9, 2) := by decide +kernel
theorem fr_9_88 : fres 9 88 = some (9, 3) := by decide +kernel
theorem fr_9_85 : fres 9 85 = some (9, 4) := by decide +kernel
theorem fr_9_19 : fres 9 19 = some (9, 5) := by decide +kernel
theorem fr_10_96 : fres 10 96 = some (9, 5) := by decide +kernel
theorem fr_5_11 : fres 5 11 = some (5, 0) := by decide +kernel
theorem fr_5_22 : fres 5 22 = some (5, 1) := by decide +kernel
theorem fr_10_194 : fres 10 194 = some (5, 1) := by decide +kernel
theorem fr_5_15 : fres 5 15 = some (5, 2) := by decide +kernel
theorem fr_5_39 : fres 5 39 = some (5, 3) := by decide +kernel
theorem fr_5_18 : fres 5 18 = some (5, 4) := by decide +kernel
theorem fr_5_94 : fres 5 94 = some (5, 5) := by decide +kernel
theorem fr_5_26 : fres 5 26 = some (5, 6) := by decide +kernel
theorem fr_5_36 : fres 5 36 = some (5, 7) := by decide +kernel
theorem fr_5_42 : fres 5 42 = some (5, 8) := by decide +kernel
theorem fr_4_9 : fres 4 9 = some (4, 0) := by decide +kernel
theorem fr_4_13 : fres 4 13 = some (4, 1) := by decide +kernel
theorem fr_10_110 : fres 10 110 = some (4, 1) := by decide +kernel
theorem fr_6_12 : fres 6 12 = some (6, 0) := by decide +kernel
theorem fr_6_18 : fres 6 18 = some (6, 1) := by decide +kernel
theorem fr_6_21 : fres 6 21 = some (6, 2) := by decide +kernel
theorem fr_6_24 : fres 6 24 = some (6, 3) := by decide +kernel
theorem fr_6_94 : fres 6 94 = some (6, 4) := by decide +kernel
theorem fr_6_88 : fres 6 88 = some (6, 5) := by decide +kernel
theorem fr_6_81 : fres 6 81 = some (6, 6) := by decide +kernel
theorem fr_6_37 : fres 6 37 = some (6, 7) := by decide +kernel
theorem fr_6_48 : fres 6 48 = some (6, 8) := by decide +kernel
theorem fr_6_51 : fres 6 51 = some (6, 9) := by decide +kernel
theorem fr_6_27 : fres 6 27 = some (6, 10) := by decide +kernel
theorem fr_6_31 : fres 6 31 = some (6, 11) := by decide +kernel
theorem fr_6_34 : fres 6 34 = some (6, 12) := by decide +kernel
theorem fr_7_7 : fres 7 7 = some (7, 0) := by decide +kernel
theorem fr_3_84 : fres 3 84 = some (7, 0) := by decide +kernel
theorem fr_7_13 : fres 7 13 = some (7, 1) := by decide +kernel
theorem fr_3_90 : fres 3 90 = some (7, 1) := by decide +kernel
theorem fr_7_16 : fres 7 16 = some (7, 2) := by decide +kernel
theorem fr_3_96 : fres 3 96 = some (7, 2) := by decide +kernel
theorem fr_7_19 : fres 7 19 = some (7, 3) := by decide +kernel
theorem fr_3_99 : fres 3 99 = some (7, 3) := by decide +kernel
theorem fr_7_22 : fres 7 22 = some (7, 4) := by decide +kernel
theorem fr_3_102 : fres 3 102 = some (7, 4) := by decide +kernel
theorem fr_7_25 : fres 7 25 = some (7, 5) := by decide +kernel
theorem fr_3_105 : fres 3 105 = some (7, 5) := by decide +kernel
theorem fr_3_12 : fres 3 12 = some (3, 0) := by decide +kernel
theorem fr_3_27 : fres 3 27 = some (3, 1) := by decide +kernel
theorem fr_10_209 : fres 10 209 = some (3, 1) := by decide +kernel
theorem fr_3_18 : fres 3 18 = some (3, 2) := by decide +kernel
theorem fr_10_206 : fres 10 206 = some (3, 2) := by decide +kernel
theorem fr_3_30 : fres 3 30 = some (3, 3) := by decide +kernel
theorem fr_10_215 : fres 10 215 = some (3, 3) := by decide +kernel
theorem fr_1_11 : fres 1 11 = some (1, 0) := by decide +kernel
theorem fr_1_15 : fres 1 15 = some (1, 1) := by decide +kernel
theorem fr_1_18 : fres 1 18 = some (1, 2) := by decide +kernel
theorem fr_1_49 : fres 1 49 = some (1, 3) := by decide +kernel
theorem fr_10_222 : fres 10 222 = some (1, 3) := by decide +kernel
theorem fr_1_21 : fres 1 21 = some (1, 4) := by decide +kernel
theorem fr_10_225 : fres 10 225 = some (1, 4) := by decide +kernel
theorem fr_10_247 : fres 10 247 = some (2, 0) := by decide +kernel
theorem fr_2_10 : fres 2 10 = some (2, 1) := by decide +kernel
theorem fr_10_238 : fres 10 238 = some (2, 1) := by decide +kernel
theorem fr_2_19 : fres 2 19 = some (2, 2) := by decide +kernel
theorem fr_10_239 : fres 10 239 = some (2, 2) := by decide +kernel
theorem fr_2_26 : fres 2 26 = some (2, 3) := by decide +kernel
theorem fr_10_243 : fres 10 243 = some (2, 3) := by decide +kernel
theorem fr_10_10 : fres 10 10 = some (10, 0) := by decide +kernel
theorem fr_10_16 : fres 10 16 = some (10, 1) := by decide +kernel
theorem fr_10_22 : fres 10 22 = some (10, 2) := by decide +kernel
theorem fr_10_31 : fres 10 31 = some (10, 3) := by decide +kernel
theorem fr_10_38 : fres 10 38 = some (10, 4) := by decide +kernel
theorem fr_10_45 : fres 10 45 = some (10, 5) := by decide +kernel
theorem fr_10_52 : fres 10 52 = some (10, 6) := by decide +kernel
theorem fr_10_59 : fres 10 59 = some (10, 7) := by decide +kernel
theorem fr_10_66 : fres 10 66 = some (10, 8) := by decide +kernel
theorem fr_10_73 : fres 10 73 = some (10, 9) := by decide +kernel
theorem fr_10_77 : fres 10 77 = some (10, 10) := by decide +kernel
theorem fr_10_251 : fres 10 251 = some (10, 11) := by decide +kernel
theorem fr_10_254 : fres 10 254 = some (10, 12) := by decide +kernel
theorem fr_10_257 : fres 10 257 = some (10, 13) := by decide +kernel
theorem fr_11_7 : fres 11 7 = some (11, 0) := by decide +kernel
theorem fr_11_13 : fres 11 13 = some (11, 1) := by decide +kernel
theorem fr_11_16 : fres 11 16 = some (11, 2) := by decide +kernel
theorem fr_11_20 : fres 11 20 = some (11, 3) := by decide +kernel
theorem fr_11_23 : fres 11 23 = some (11, 4) := by decide +kernel
theorem fr_11_27 : fres 11 27 = some (11, 5) := by decide +kernel
theorem fr_11_103 : fres 11 103 = some (11, 6) := by decide +kernel
theorem fr_11_30 : fres 11 30 = some (11, 7) := by decide +kernel
theorem fr_11_33 : fres 11 33 = some (11, 8) := by decide +kernel
theorem fr_11_172 : fres 11 172 = some (11, 9) := by decide +kernel
theorem fr_11_166 : fres 11 166 = some (11, 10) := by decide +kernel
theorem fr_11_175 : fres 11 175 = some (11, 11) := by decide +kernel
theorem fr_11_178 : fres 11 178 = some (11, 12) := by decide +kernel
theorem fr_11_36 : fres 11 36 = some (11, 13) := by decide +kernel
theorem fr_11_39 : fres 11 39 = some (11, 14) := by decide +kernel
theorem fr_11_43 : fres 11 43 = some (11, 15) := by decide +kernel
theorem fr_11_46 : fres 11 46 = some (11, 16) := by decide +kernel
theorem fr_11_49 : fres 11 49 = some (11, 17) := by decide +kernel
theorem fr_11_254 : fres 11 254 = some (11, 18) := by decide +kernel
theorem fr_11_52 : fres 11 52 = some (11, 19) := by decide +kernel
theorem fr_11_292 : fres 11 292 = some (11, 20) := by decide +kernel
theorem fr_11_308 : fres 11 308 = some (11, 21) := by decide +kernel
theorem fr_11_311 : fres 11 311 = some (11, 22) := by decide +kernel
theorem fr_11_314 : fres 11 314 = some (11, 23) := by decide +kernel
theorem fr_11_317 : fres 11 317 = some (11, 24) := by decide +kernel
theorem fr_11_55 : fres 11 55 = some (11, 25) := by decide +kernel
theorem fr_11_342 : fres 11 342 = some (11, 26) := by decide +kernel
theorem fr_11_345 : fres 11 345 = some (11, 27) := by decide +kernel
theorem fr_11_329 : fres 11 329 = some (11, 28) := by decide +kernel
theorem fr_11_373 : fres 11 373 = some (11, 29) := by decide +kernel
theorem fr_11_397 : fres 11 397 = some (11, 30) := by decide +kernel
theorem fr_11_58 : fres 11 58 = some (11, 31) := by decide +kernel
theorem fr_11_385 : fres 11 385 = some (11, 32) := by decide +kernel
theorem fr_11_61 : fres 11 61 = some (11, 33) := by decide +kernel
theorem fr_11_382 : fres 11 382 = some (11, 34) := by decide +kernel
theorem fr_11_64 : fres 11 64 = some (11, 35) := by decide +kernel
theorem fr_11_418 : fres 11 418 = some (11, 36) := by decide +kernel
theorem fr_11_441 : fres 11 441 = some (11, 37) := by decide +kernel
theorem fr_11_444 : fres 11 444 = some (11, 38) := by decide +kernel
theorem mr_18_15 : mres 18 15 = some 109 := by decide +kernel
theorem mr_10_80 : mres 10 80 = some 138 := by decide +kernel
theorem mr_10_88 : mres 10 88 = some 96 := by decide +kernel
theorem mr_18_20 : mres 18 20 = some 110 := by decide +kernel
theorem mr_18_25 : mres 18 25 = some 111 := by decide +kernel
theorem mr_10_92 : mres 10 92 = some 98 := by decide +kernel
theorem mr_9_24 : mres 9 24 = some 0 := by decide +kernel
theorem mr_9_30 : mres 9 30 = some 104 := by decide +kernel
theorem mr_9_94 : mres 9 94 = some 97 := by decide +kernel
theorem mr_9_98 : mres 9 98 = some 107 := by decide +kernel
theorem mr_9_102 : mres 9 102 = some 108 := by decide +kernel
theorem mr_9_105 : mres 9 105 = some 105 := by decide +kernel
theorem mr_9_36 : mres 9 36 = some 99 := by decide +kernel
theorem mr_9_45 : mres 9 45 = some 106 := by decide +kernel
theorem mr_9_108 : mres 9 108 = some 266 := by decide +kernel
theorem mr_12_335 : mres 12 335 = some 268 := by decide +kernel
theorem mr_9_114 : mres 9 114 = some 267 := by decide +kernel
theorem mr_12_492 : mres 12 492 = some 269 := by decide +kernel
theorem mr_12_495 : mres 12 495 = some 271 := by decide +kernel
theorem mr_13_9 : mres 13 9 = some 270 := by decide +kernel
theorem mr_12_1059 : mres 12 1059 = some 272 := by decide +kernel
theorem mr_14_414 : mres 14 414 = some 270 := by decide +kernel
theorem mr_9_49 : mres 9 49 = some 103 := by decide +kernel
theorem mr_9_52 : mres 9 52 = some 101 := by decide +kernel
theorem mr_9_68 : mres 9 68 = some 2 := by decide +kernel
theorem mr_0_55 : mres 0 55 = some 10 := by decide +kernel
theorem mr_9_77 : mres 9 77 = some 100 := by decide +kernel
theorem mr_9_81 : mres 9 81 = some 3 := by decide +kernel
theorem mr_0_62 : mres 0 62 = some 19 := by decide +kernel
theorem mr_0_66 : mres 0 66 = some 21 := by decide +kernel
theorem mr_0_92 : mres 0 92 = some 20 := by decide +kernel
theorem mr_0_76 : mres 0 76 = some 8 := by decide +kernel
theorem mr_0_73 : mres 0 73 = some 11 := by decide +kernel
theorem mr_9_40 : mres 9 40 = some 102 := by decide +kernel
theorem mr_10_102 : mres 10 102 = some 30 := by decide +kernel
theorem mr_0_99 : mres 0 99 = some 23 := by decide +kernel
theorem mr_0_106 : mres 0 106 = some 17 := by decide +kernel
theorem mr_0_109 : mres 0 109 = some 29 := by decide +kernel
theorem mr_0_79 : mres 0 79 = some 7 := by decide +kernel
theorem mr_0_112 : mres 0 112 = some 18 := by decide +kernel
theorem mr_0_115 : mres 0 115 = some 24 := by decide +kernel
theorem mr_10_106 : mres 10 106 = some 1 := by decide +kernel
theorem mr_0_49 : mres 0 49 = some 9999 := by decide +kernel
theorem mr_10_111 : mres 10 111 = some 83 := by decide +kernel
theorem mr_18_29 : mres 18 29 = some 112 := by decide +kernel
theorem mr_10_114 : mres 10 114 = some 4 := by decide +kernel
theorem mr_10_117 : mres 10 117 = some 6 := by decide +kernel
theorem mr_18_34 : mres 18 34 = some 113 := by decide +kernel
theorem mr_10_121 : mres 10 121 = some 25 := by decide +kernel
theorem mr_0_103 : mres 0 103 = some 22 := by decide +kernel
theorem mr_0_95 : mres 0 95 = some 4 := by decide +kernel
theorem mr_18_38 : mres 18 38 = some 114 := by decide +kernel
theorem mr_10_128 : mres 10 128 = some 7 := by decide +kernel
theorem mr_10_131 : mres 10 131 = some 12 := by decide +kernel
theorem mr_10_134 : mres 10 134 = some 16 := by decide +kernel
theorem mr_10_137 : mres 10 137 = some 17 := by decide +kernel
theorem mr_10_140 : mres 10 140 = some 18 := by decide +kernel
theorem mr_18_43 : mres 18 43 = some 115 := by decide +kernel
theorem mr_10_143 : mres 10 143 = some 5 := by decide +kernel
theorem mr_10_146 : mres 10 146 = some 9 := by decide +kernel
theorem mr_10_149 : mres 10 149 = some 8 := by decide +kernel
theorem mr_10_159 : mres 10 159 = some 28 := by decide +kernel
theorem mr_18_47 : mres 18 47 = some 116 := by decide +kernel
theorem mr_10_162 : mres 10 162 = some 139 := by decide +kernel
theorem mr_10_191 : mres 10 191 = some 32 := by decide +kernel
theorem mr_0_118 : mres 0 118 = some 31 := by decide +kernel
theorem mr_0_121 : mres 0 121 = some 33 := by decide +kernel
theorem mr_0_125 : mres 0 125 = some 35 := by decide +kernel
theorem mr_0_129 : mres 0 129 = some 36 := by decide +kernel
theorem mr_0_141 : mres 0 141 = some 9 := by decide +kernel
theorem mr_0_144 : mres 0 144 = some 27 := by decide +kernel
theorem mr_0_147 : mres 0 147 = some 16 := by decide +kernel
theorem mr_0_132 : mres 0 132 = some 37 := by decide +kernel
theorem mr_0_135 : mres 0 135 = some 34 := by decide +kernel
theorem mr_0_138 : mres 0 138 = some 30 := by decide +kernel
theorem mr_18_51 : mres 18 51 = some 117 := by decide +kernel
theorem mr_10_165 : mres 10 165 = some 56 := by decide +kernel
theorem mr_4_17 : mres 4 17 = some 9999 := by decide +kernel
theorem mr_10_168 : mres 10 168 = some 140 := by decide +kernel
theorem mr_18_55 : mres 18 55 = some 118 := by decide +kernel
theorem mr_10_171 : mres 10 171 = some 57 := by decide +kernel
theorem mr_18_59 : mres 18 59 = some 119 := by decide +kernel
theorem mr_10_175 : mres 10 175 = some 15 := by decide +kernel
theorem mr_0_89 : mres 0 89 = some 14 := by decide +kernel
theorem mr_0_85 : mres 0 85 = some 13 := by decide +kernel
theorem mr_0_82 : mres 0 82 = some 12 := by decide +kernel
theorem mr_18_63 : mres 18 63 = some 120 := by decide +kernel
theorem mr_10_178 : mres 10 178 = some 84 := by decide +kernel
theorem mr_6_44 : mres 6 44 = some 89 := by decide +kernel
theorem mr_6_69 : mres 6 69 = some 91 := by decide +kernel
theorem mr_6_91 : mres 6 91 = some 94 := by decide +kernel
theorem mr_6_73 : mres 6 73 = some 15 := by decide +kernel
theorem mr_6_77 : mres 6 77 = some 92 := by decide +kernel
theorem mr_6_97 : mres 6 97 = some 31 := by decide +kernel
theorem mr_6_84 : mres 6 84 = some 93 := by decide +kernel
theorem mr_6_100 : mres 6 100 = some 32 := by decide +kernel
theorem mr_18_67 : mres 18 67 = some 121 := by decide +kernel
theorem mr_10_181 : mres 10 181 = some 85 := by decide +kernel
theorem mr_6_54 : mres 6 54 = some 86 := by decide +kernel
theorem mr_18_71 : mres 18 71 = some 122 := by decide +kernel
theorem mr_10_184 : mres 10 184 = some 87 := by decide +kernel
theorem mr_6_58 : mres 6 58 = some 28 := by decide +kernel
theorem mr_6_62 : mres 6 62 = some 11 := by decide +kernel
theorem mr_18_75 : mres 18 75 = some 123 := by decide +kernel
theorem mr_10_188 : mres 10 188 = some 88 := by decide +kernel
theorem mr_6_66 : mres 6 66 = some 90 := by decide +kernel
theorem mr_18_79 : mres 18 79 = some 124 := by decide +kernel
theorem mr_18_83 : mres 18 83 = some 125 := by decide +kernel
theorem mr_10_195 : mres 10 195 = some 59 := by decide +kernel
theorem mr_18_87 : mres 18 87 = some 126 := by decide +kernel
theorem mr_10_196 : mres 10 196 = some 60 := by decide +kernel
theorem mr_18_91 : mres 18 91 = some 127 := by decide +kernel
theorem mr_10_199 : mres 10 199 = some 62 := by decide +kernel
theorem mr_5_45 : mres 5 45 = some 63 := by decide +kernel
theorem mr_5_56 : mres 5 56 = some 64 := by decide +kernel
theorem mr_5_66 : mres 5 66 = some 65 := by decide +kernel
theorem mr_5_69 : mres 5 69 = some 66 := by decide +kernel
theorem mr_5_72 : mres 5 72 = some 67 := by decide +kernel
theorem mr_5_75 : mres 5 75 = some 68 := by decide +kernel
theorem mr_5_59 : mres 5 59 = some 73 := by decide +kernel
theorem mr_5_49 : mres 5 49 = some 72 := by decide +kernel
theorem mr_5_81 : mres 5 81 = some 71 := by decide +kernel
theorem mr_5_78 : mres 5 78 = some 69 := by decide +kernel
theorem mr_5_85 : mres 5 85 = some 76 := by decide +kernel
theorem mr_5_88 : mres 5 88 = some 70 := by decide +kernel
theorem mr_5_53 : mres 5 53 = some 74 := by decide +kernel
theorem mr_5_63 : mres 5 63 = some 75 := by decide +kernel
theorem mr_5_91 : mres 5 91 = some 77 := by decide +kernel
theorem mr_18_95 : mres 18 95 = some 128 := by decide +kernel
theorem mr_10_202 : mres 10 202 = some 52 := by decide +kernel
theorem mr_3_33 : mres 3 33 = some 62 := by decide +kernel
theorem mr_3_42 : mres 3 42 = some 53 := by decide +kernel
theorem mr_3_46 : mres 3 46 = some 13 := by decide +kernel
theorem mr_3_50 : mres 3 50 = some 54 := by decide +kernel
theorem mr_3_74 : mres 3 74 = some 7 := by decide +kernel
theorem mr_3_81 : mres 3 81 = some 25 := by decide +kernel
theorem mr_3_87 : mres 3 87 = some 27 := by decide +kernel
theorem mr_3_93 : mres 3 93 = some 16 := by decide +kernel
theorem mr_3_66 : mres 3 66 = some 55 := by decide +kernel
theorem mr_3_108 : mres 3 108 = some 26 := by decide +kernel
theorem mr_3_70 : mres 3 70 = some 32 := by decide +kernel
theorem mr_3_54 : mres 3 54 = some 78 := by decide +kernel
theorem mr_5_97 : mres 5 97 = some 79 := by decide +kernel
theorem mr_5_101 : mres 5 101 = some 95 := by decide +kernel
theorem mr_5_106 : mres 5 106 = some 80 := by decide +kernel
theorem mr_5_110 : mres 5 110 = some 81 := by decide +kernel
theorem mr_3_60 : mres 3 60 = some 265 := by decide +kernel
theorem mr_10_212 : mres 10 212 = some 14 := by decide +kernel
theorem mr_18_99 : mres 18 99 = some 129 := by decide +kernel
theorem mr_10_218 : mres 10 218 = some 39 := by decide +kernel
theorem mr_1_25 : mres 1 25 = some 40 := by decide +kernel
theorem mr_1_31 : mres 1 31 = some 41 := by decide +kernel
theorem mr_1_34 : mres 1 34 = some 42 := by decide +kernel
theorem mr_1_38 : mres 1 38 = some 43 := by decide +kernel
theorem mr_1_41 : mres 1 41 = some 44 := by decide +kernel
theorem mr_1_45 : mres 1 45 = some 48 := by decide +kernel
theorem mr_1_54 : mres 1 54 = some 45 := by decide +kernel
theorem mr_1_57 : mres 1 57 = some 46 := by decide +kernel
theorem mr_1_61 : mres 1 61 = some 47 := by decide +kernel
theorem mr_18_104 : mres 18 104 = some 130 := by decide +kernel
theorem mr_18_108 : mres 18 108 = some 131 := by decide +kernel
theorem mr_10_228 : mres 10 228 = some 49 := by decide +kernel
theorem mr_10_231 : mres 10 231 = some 50 := by decide +kernel
theorem mr_18_112 : mres 18 112 = some 132 := by decide +kernel
theorem mr_10_234 : mres 10 234 = some 141 := by decide +kernel
theorem mr_10_240 : mres 10 240 = some 61 := by decide +kernel
theorem mr_5_30 : mres 5 30 = some 9999 := by decide +kernel
theorem mr_10_244 : mres 10 244 = some 58 := by decide +kernel
theorem mr_18_116 : mres 18 116 = some 133 := by decide +kernel
theorem mr_18_120 : mres 18 120 = some 134 := by decide +kernel
theorem mr_18_124 : mres 18 124 = some 135 := by decide +kernel
theorem mr_10_260 : mres 10 260 = some 137 := by decide +kernel
theorem mr_18_128 : mres 18 128 = some 136 := by decide +kernel
theorem mr_10_267 : mres 10 267 = some 38 := by decide +kernel
theorem mr_0_152 : mres 0 152 = some 6 := by decide +kernel
theorem mr_10_271 : mres 10 271 = some 82 := by decide +kernel
theorem mr_10_272 : mres 10 272 = some 51 := by decide +kernel
theorem mr_1_67 : mres 1 67 = some 49 := by decide +kernel
theorem mr_1_71 : mres 1 71 = some 50 := by decide +kernel
theorem mr_11_67 : mres 11 67 = some 146 := by decide +kernel
theorem mr_18_50 : mres 18 50 = some 194 := by decide +kernel
theorem mr_11_239 : mres 11 239 = some 193 := by decide +kernel
theorem mr_11_121 : mres 11 121 = some 142 := by decide +kernel
theorem mr_11_230 : mres 11 230 = some 164 := by decide +kernel
theorem mr_11_233 : mres 11 233 = some 189 := by decide +kernel
theorem mr_11_236 : mres 11 236 = some 192 := by decide +kernel
theorem mr_11_209 : mres 11 209 = some 180 := by decide +kernel
theorem mr_11_169 : mres 11 169 = some 161 := by decide +kernel
theorem mr_11_117 : mres 11 117 = some 159 := by decide +kernel
theorem mr_11_181 : mres 11 181 = some 162 := by decide +kernel
theorem mr_11_125 : mres 11 125 = some 160 := by decide +kernel
theorem mr_11_213 : mres 11 213 = some 187 := by decide +kernel
theorem mr_11_196 : mres 11 196 = some 179 := by decide +kernel
theorem mr_11_154 : mres 11 154 = some 172 := by decide +kernel
theorem mr_11_142 : mres 11 142 = some 163 := by decide +kernel
theorem mr_11_145 : mres 11 145 = some 171 := by decide +kernel
theorem mr_11_138 : mres 11 138 = some 170 := by decide +kernel
theorem mr_11_131 : mres 11 131 = some 169 := by decide +kernel
theorem mr_11_134 : mres 11 134 = some 167 := by decide +kernel
theorem mr_11_128 : mres 11 128 = some 166 := by decide +kernel
theorem mr_11_199 : mres 11 199 = some 185 := by decide +kernel
theorem mr_11_148 : mres 11 148 = some 173 := by decide +kernel
theorem mr_11_190 : mres 11 190 = some 184 := by decide +kernel
theorem mr_11_203 : mres 11 203 = some 183 := by decide +kernel
theorem mr_11_184 : mres 11 184 = some 181 := by decide +kernel
theorem mr_11_187 : mres 11 187 = some 182 := by decide +kernel
theorem mr_11_206 : mres 11 206 = some 186 := by decide +kernel
theorem mr_11_216 : mres 11 216 = some 190 := by decide +kernel
theorem mr_11_219 : mres 11 219 = some 188 := by decide +kernel
theorem mr_11_222 : mres 11 222 = some 176 := by decide +kernel
theorem mr_11_157 : mres 11 157 = some 175 := by decide +kernel
theorem mr_11_151 : mres 11 151 = some 174 := by decide +kernel
theorem mr_11_160 : mres 11 160 = some 168 := by decide +kernel
theorem mr_11_225 : mres 11 225 = some 191 := by decide +kernel
theorem mr_18_54 : mres 18 54 = some 195 := by decide +kernel
theorem mr_11_242 : mres 11 242 = some 144 := by decide +kernel
theorem mr_11_245 : mres 11 245 = some 165 := by decide +kernel
theorem mr_18_58 : mres 18 58 = some 196 := by decide +kernel
theorem mr_18_62 : mres 18 62 = some 197 := by decide +kernel
theorem mr_11_248 : mres 11 248 = some 178 := by decide +kernel
theorem mr_11_163 : mres 11 163 = some 177 := by decide +kernel
theorem mr_18_82 : mres 18 82 = some 198 := by decide +kernel
theorem mr_11_251 : mres 11 251 = some 143 := by decide +kernel
theorem mr_18_66 : mres 18 66 = some 206 := by decide +kernel
theorem mr_11_272 : mres 11 272 = some 205 := by decide +kernel
theorem mr_11_266 : mres 11 266 = some 199 := by decide +kernel
theorem mr_11_275 : mres 11 275 = some 203 := by decide +kernel
theorem mr_11_257 : mres 11 257 = some 202 := by decide +kernel
theorem mr_11_260 : mres 11 260 = some 200 := by decide +kernel
theorem mr_11_263 : mres 11 263 = some 201 := by decide +kernel
theorem mr_11_269 : mres 11 269 = some 204 := by decide +kernel
theorem mr_18_70 : mres 18 70 = some 209 := by decide +kernel
theorem mr_11_281 : mres 11 281 = some 207 := by decide +kernel
theorem mr_11_278 : mres 11 278 = some 208 := by decide +kernel
theorem mr_18_74 : mres 18 74 = some 211 := by decide +kernel
theorem mr_11_284 : mres 11 284 = some 210 := by decide +kernel
theorem mr_18_78 : mres 18 78 = some 212 := by decide +kernel
theorem mr_11_287 : mres 11 287 = some 213 := by decide +kernel
theorem mr_18_19 : mres 18 19 = some 214 := by decide +kernel
theorem mr_11_295 : mres 11 295 = some 145 := by decide +kernel
theorem mr_18_24 : mres 18 24 = some 215 := by decide +kernel
theorem mr_18_28 : mres 18 28 = some 228 := by decide +kernel
theorem mr_11_326 : mres 11 326 = some 218 := by decide +kernel
theorem mr_11_320 : mres 11 320 = some 216 := by decide +kernel
theorem mr_11_323 : mres 11 323 = some 217 := by decide +kernel
theorem mr_11_360 : mres 11 360 = some 222 := by decide +kernel
theorem mr_11_335 : mres 11 335 = some 220 := by decide +kernel
theorem mr_11_332 : mres 11 332 = some 219 := by decide +kernel
theorem mr_11_339 : mres 11 339 = some 221 := by decide +kernel
theorem mr_11_363 : mres 11 363 = some 227 := by decide +kernel
theorem mr_11_351 : mres 11 351 = some 223 := by decide +kernel
theorem mr_11_354 : mres 11 354 = some 224 := by decide +kernel
theorem mr_11_357 : mres 11 357 = some 225 := by decide +kernel
theorem mr_11_348 : mres 11 348 = some 226 := by decide +kernel
theorem mr_11_366 : mres 11 366 = some 229 := by decide +kernel
theorem mr_18_33 : mres 18 33 = some 230 := by decide +kernel
theorem mr_18_37 : mres 18 37 = some 231 := by decide +kernel
theorem mr_18_42 : mres 18 42 = some 232 := by decide +kernel
theorem mr_18_46 : mres 18 46 = some 233 := by decide +kernel
theorem mr_18_86 : mres 18 86 = some 234 := by decide +kernel
theorem mr_18_90 : mres 18 90 = some 235 := by decide +kernel
theorem mr_18_94 : mres 18 94 = some 247 := by decide +kernel
theorem mr_11_422 : mres 11 422 = some 246 := by decide +kernel
theorem mr_11_402 : mres 11 402 = some 238 := by decide +kernel
theorem mr_11_376 : mres 11 376 = some 236 := by decide +kernel
theorem mr_11_379 : mres 11 379 = some 237 := by decide +kernel
theorem mr_11_394 : mres 11 394 = some 244 := by decide +kernel
theorem mr_11_405 : mres 11 405 = some 245 := by decide +kernel
theorem mr_11_409 : mres 11 409 = some 242 := by decide +kernel
theorem mr_11_412 : mres 11 412 = some 243 := by decide +kernel
theorem mr_11_415 : mres 11 415 = some 241 := by decide +kernel
theorem mr_11_388 : mres 11 388 = some 239 := by decide +kernel
theorem mr_11_391 : mres 11 391 = some 240 := by decide +kernel
theorem mr_18_98 : mres 18 98 = some 254 := by decide +kernel
theorem mr_11_452 : mres 11 452 = some 253 := by decide +kernel
theorem mr_11_447 : mres 11 447 = some 252 := by decide +kernel
theorem mr_11_432 : mres 11 432 = some 251 := by decide +kernel
theorem mr_11_429 : mres 11 429 = some 249 := by decide +kernel
theorem mr_11_425 : mres 11 425 = some 250 := by decide +kernel
theorem mr_11_438 : mres 11 438 = some 248 := by decide +kernel
theorem mr_18_103 : mres 18 103 = some 255 := by decide +kernel
theorem mr_11_97 : mres 11 97 = some 149 := by decide +kernel
theorem mr_11_73 : mres 11 73 = some 148 := by decide +kernel
theorem mr_11_457 : mres 11 457 = some 151 := by decide +kernel
theorem mr_11_113 : mres 11 113 = some 158 := by decide +kernel
theorem mr_11_107 : mres 11 107 = some 155 := by decide +kernel
theorem mr_11_79 : mres 11 79 = some 147 := by decide +kernel
theorem mr_11_83 : mres 11 83 = some 154 := by decide +kernel
theorem mr_11_87 : mres 11 87 = some 153 := by decide +kernel
theorem mr_11_90 : mres 11 90 = some 150 := by decide +kernel
theorem mr_11_94 : mres 11 94 = some 152 := by decide +kernel
theorem mr_11_110 : mres 11 110 = some 156 := by decide +kernel
theorem mr_11_100 : mres 11 100 = some 157 := by decide +kernel
theorem mr_18_107 : mres 18 107 = some 256 := by decide +kernel
theorem mr_18_111 : mres 18 111 = some 257 := by decide +kernel
theorem mr_18_115 : mres 18 115 = some 258 := by decide +kernel
theorem mr_18_119 : mres 18 119 = some 259 := by decide +kernel
theorem mr_18_123 : mres 18 123 = some 260 := by decide +kernel
theorem mr_18_127 : mres 18 127 = some 262 := by decide +kernel
theorem mr_11_462 : mres 11 462 = some 261 := by decide +kernel
theorem mr_18_132 : mres 18 132 = some 264 := by decide +kernel
theorem mr_11_469 : mres 11 469 = some 263 := by decide +kernel
