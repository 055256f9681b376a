/-! fields of the own classes: words, types, places; printed by gen10.py -/
set_option maxRecDepth 100000 in
theorem ulay_0 : ∀ k, k < 12 → u_lay (clsN 0) (clsT 0) k ∈ TBL := fun k hk => match k, hk with
  | 0, _ => tb_1 (i := 59) rfl rfl
  | 1, _ => tb_1 (i := 61) rfl rfl
  | 2, _ => tb_1 (i := 63) rfl rfl
  | 3, _ => tb_1 (i := 65) rfl rfl
  | 4, _ => tb_1 (i := 67) rfl rfl
  | 5, _ => tb_1 (i := 69) rfl rfl
  | 6, _ => tb_1 (i := 71) rfl rfl
  | 7, _ => tb_1 (i := 73) rfl rfl
  | 8, _ => tb_1 (i := 75) rfl rfl
  | 9, _ => tb_1 (i := 77) rfl rfl
  | 10, _ => tb_1 (i := 79) rfl rfl
  | 11, _ => tb_1 (i := 81) rfl rfl
  | _ + 12, h => absurd h (by omega)
set_option maxRecDepth 100000 in
theorem ulay_1 : ∀ k, k < 5 → u_lay (clsN 1) (clsT 1) k ∈ TBL := fun k hk => match k, hk with
  | 0, _ => tb_2 (i := 49) rfl rfl
  | 1, _ => tb_2 (i := 51) rfl rfl
  | 2, _ => tb_2 (i := 53) rfl rfl
  | 3, _ => tb_2 (i := 55) rfl rfl
  | 4, _ => tb_2 (i := 57) rfl rfl
  | _ + 5, h => absurd h (by omega)
set_option maxRecDepth 100000 in
theorem ulay_2 : ∀ k, k < 4 → u_lay (clsN 2) (clsT 2) k ∈ TBL := fun k hk => match k, hk with
  | 0, _ => tb_2 (i := 79) rfl rfl
  | 1, _ => tb_2 (i := 81) rfl rfl
  | 2, _ => tb_2 (i := 83) rfl rfl
  | 3, _ => tb_2 (i := 85) rfl rfl
  | _ + 4, h => absurd h (by omega)
set_option maxRecDepth 100000 in
theorem ulay_3 : ∀ k, k < 4 → u_lay (clsN 3) (clsT 3) k ∈ TBL := fun k hk => match k, hk with
  | 0, _ => tb_2 (i := 27) rfl rfl
  | 1, _ => tb_2 (i := 29) rfl rfl
  | 2, _ => tb_2 (i := 31) rfl rfl
  | 3, _ => tb_2 (i := 33) rfl rfl
  | _ + 4, h => absurd h (by omega)
set_option maxRecDepth 100000 in
theorem ulay_4 : ∀ k, k < 2 → u_lay (clsN 4) (clsT 4) k ∈ TBL := fun k hk => match k, hk with
  | 0, _ => tb_1 (i := 171) rfl rfl
  | 1, _ => tb_1 (i := 173) rfl rfl
  | _ + 2, h => absurd h (by omega)
set_option maxRecDepth 100000 in
theorem ulay_5 : ∀ k, k < 9 → u_lay (clsN 5) (clsT 5) k ∈ TBL := fun k hk => match k, hk with
  | 0, _ => tb_1 (i := 142) rfl rfl
  | 1, _ => tb_1 (i := 144) rfl rfl
  | 2, _ => tb_1 (i := 146) rfl rfl
  | 3, _ => tb_1 (i := 148) rfl rfl
  | 4, _ => tb_1 (i := 150) rfl rfl
  | 5, _ => tb_1 (i := 152) rfl rfl
  | 6, _ => tb_1 (i := 154) rfl rfl
  | 7, _ => tb_1 (i := 156) rfl rfl
  | 8, _ => tb_1 (i := 158) rfl rfl
  | _ + 9, h => absurd h (by omega)
set_option maxRecDepth 100000 in
theorem ulay_6 : ∀ k, k < 13 → u_lay (clsN 6) (clsT 6) k ∈ TBL := fun k hk => match k, hk with
  | 0, _ => tb_1 (i := 196) rfl rfl
  | 1, _ => tb_1 (i := 198) rfl rfl
  | 2, _ => tb_1 (i := 200) rfl rfl
  | 3, _ => tb_1 (i := 202) rfl rfl
  | 4, _ => tb_1 (i := 204) rfl rfl
  | 5, _ => tb_1 (i := 206) rfl rfl
  | 6, _ => tb_1 (i := 208) rfl rfl
  | 7, _ => tb_1 (i := 210) rfl rfl
  | 8, _ => tb_1 (i := 212) rfl rfl
  | 9, _ => tb_1 (i := 214) rfl rfl
  | 10, _ => tb_1 (i := 216) rfl rfl
  | 11, _ => tb_1 (i := 218) rfl rfl
  | 12, _ => tb_1 (i := 220) rfl rfl
  | _ + 13, h => absurd h (by omega)
set_option maxRecDepth 100000 in
theorem ulay_7 : ∀ k, k < 6 → u_lay (clsN 7) (clsT 7) k ∈ TBL := fun k hk => match k, hk with
  | 0, _ => tb_2 (i := 7) rfl rfl
  | 1, _ => tb_2 (i := 9) rfl rfl
  | 2, _ => tb_2 (i := 11) rfl rfl
  | 3, _ => tb_2 (i := 13) rfl rfl
  | 4, _ => tb_2 (i := 15) rfl rfl
  | 5, _ => tb_2 (i := 17) rfl rfl
  | _ + 6, h => absurd h (by omega)
set_option maxRecDepth 100000 in
theorem ulay_8 : ∀ k, k < 2 → u_lay (clsN 8) (clsT 8) k ∈ TBL := fun k hk => match k, hk with
  | 0, _ => tb_1 (i := 95) rfl rfl
  | 1, _ => tb_1 (i := 97) rfl rfl
  | _ + 2, h => absurd h (by omega)
set_option maxRecDepth 100000 in
theorem ulay_9 : ∀ k, k < 6 → u_lay (clsN 9) (clsT 9) k ∈ TBL := fun k hk => match k, hk with
  | 0, _ => tb_1 (i := 113) rfl rfl
  | 1, _ => tb_1 (i := 115) rfl rfl
  | 2, _ => tb_1 (i := 117) rfl rfl
  | 3, _ => tb_1 (i := 119) rfl rfl
  | 4, _ => tb_1 (i := 121) rfl rfl
  | 5, _ => tb_1 (i := 123) rfl rfl
  | _ + 6, h => absurd h (by omega)
set_option maxRecDepth 100000 in
theorem ulay_10 : ∀ k, k < 14 → u_lay (clsN 10) (clsT 10) k ∈ TBL := fun k hk => match k, hk with
  | 0, _ => tb_2 (i := 102) rfl rfl
  | 1, _ => tb_2 (i := 104) rfl rfl
  | 2, _ => tb_2 (i := 106) rfl rfl
  | 3, _ => tb_2 (i := 108) rfl rfl
  | 4, _ => tb_2 (i := 110) rfl rfl
  | 5, _ => tb_2 (i := 112) rfl rfl
  | 6, _ => tb_2 (i := 114) rfl rfl
  | 7, _ => tb_2 (i := 116) rfl rfl
  | 8, _ => tb_2 (i := 118) rfl rfl
  | 9, _ => tb_2 (i := 120) rfl rfl
  | 10, _ => tb_2 (i := 122) rfl rfl
  | 11, _ => tb_2 (i := 124) rfl rfl
  | 12, _ => tb_2 (i := 126) rfl rfl
  | 13, _ => tb_2 (i := 128) rfl rfl
  | _ + 14, h => absurd h (by omega)
set_option maxRecDepth 100000 in
theorem ulay_11 : ∀ k, k < 39 → u_lay (clsN 11) (clsT 11) k ∈ TBL := fun k hk => match k, hk with
  | 0, _ => tb_5 (i := 128) rfl rfl
  | 1, _ => tb_5 (i := 130) rfl rfl
  | 2, _ => tb_5 (i := 132) rfl rfl
  | 3, _ => tb_5 (i := 134) rfl rfl
  | 4, _ => tb_5 (i := 136) rfl rfl
  | 5, _ => tb_5 (i := 138) rfl rfl
  | 6, _ => tb_5 (i := 140) rfl rfl
  | 7, _ => tb_5 (i := 142) rfl rfl
  | 8, _ => tb_5 (i := 144) rfl rfl
  | 9, _ => tb_5 (i := 146) rfl rfl
  | 10, _ => tb_5 (i := 148) rfl rfl
  | 11, _ => tb_5 (i := 150) rfl rfl
  | 12, _ => tb_5 (i := 152) rfl rfl
  | 13, _ => tb_5 (i := 154) rfl rfl
  | 14, _ => tb_5 (i := 156) rfl rfl
  | 15, _ => tb_5 (i := 158) rfl rfl
  | 16, _ => tb_5 (i := 160) rfl rfl
  | 17, _ => tb_5 (i := 162) rfl rfl
  | 18, _ => tb_5 (i := 164) rfl rfl
  | 19, _ => tb_5 (i := 166) rfl rfl
  | 20, _ => tb_5 (i := 168) rfl rfl
  | 21, _ => tb_5 (i := 170) rfl rfl
  | 22, _ => tb_5 (i := 172) rfl rfl
  | 23, _ => tb_5 (i := 174) rfl rfl
  | 24, _ => tb_5 (i := 176) rfl rfl
  | 25, _ => tb_5 (i := 178) rfl rfl
  | 26, _ => tb_5 (i := 180) rfl rfl
  | 27, _ => tb_5 (i := 182) rfl rfl
  | 28, _ => tb_5 (i := 184) rfl rfl
  | 29, _ => tb_5 (i := 186) rfl rfl
  | 30, _ => tb_5 (i := 188) rfl rfl
  | 31, _ => tb_5 (i := 190) rfl rfl
  | 32, _ => tb_5 (i := 192) rfl rfl
  | 33, _ => tb_5 (i := 194) rfl rfl
  | 34, _ => tb_5 (i := 196) rfl rfl
  | 35, _ => tb_5 (i := 198) rfl rfl
  | 36, _ => tb_5 (i := 200) rfl rfl
  | 37, _ => tb_5 (i := 202) rfl rfl
  | 38, _ => tb_5 (i := 204) rfl rfl
  | _ + 39, h => absurd h (by omega)
theorem ulay_ok (c : Nat) (hc : c < 12) : ∀ k, k < clsK c → u_lay (clsN c) (clsT c) k ∈ TBL := match c, hc with
  | 0, _ => ulay_0
  | 1, _ => ulay_1
  | 2, _ => ulay_2
  | 3, _ => ulay_3
  | 4, _ => ulay_4
  | 5, _ => ulay_5
  | 6, _ => ulay_6
  | 7, _ => ulay_7
  | 8, _ => ulay_8
  | 9, _ => ulay_9
  | 10, _ => ulay_10
  | 11, _ => ulay_11
  | _ + 12, h => absurd h (by omega)
theorem uws_ok {c : Nat} (hc : c < 12) : ∀ w ∈ u_ws (clsN c) (clsT c) (clsK c), w ∈ TBL := by
  intro w hw
  obtain ⟨k, hk, rfl⟩ := List.mem_map.mp hw
  exact ulay_ok c hc k (List.mem_range.mp hk)
theorem cty_ok (c : Nat) (hc : c < 12) : ∀ k, k < clsK c → parseFieldDescriptor (clsT c k).2.2.1 = some (clsTy c k) := match c, hc with
  | 0, _ => tyX0_ok
  | 1, _ => tyX1_ok
  | 2, _ => tyX2_ok
  | 3, _ => tyX3_ok
  | 4, _ => tyX4_ok
  | 5, _ => tyX5_ok
  | 6, _ => tyX6_ok
  | 7, _ => tyX7_ok
  | 8, _ => tyX8_ok
  | 9, _ => tyX9_ok
  | 10, _ => tyX10_ok
  | 11, _ => tyX11_ok
  | _ + 12, h => absurd h (by omega)
theorem cnm_ok (c : Nat) (hc : c < 12) : ∀ a, a < clsK c → ∀ b, b < clsK c → a ≠ b → (clsT c a).2.1 ≠ (clsT c b).2.1 := match c, hc with
  | 0, _ => nmX0
  | 1, _ => nmX1
  | 2, _ => nmX2
  | 3, _ => nmX3
  | 4, _ => nmX4
  | 5, _ => nmX5
  | 6, _ => nmX6
  | 7, _ => nmX7
  | 8, _ => nmX8
  | 9, _ => nmX9
  | 10, _ => nmX10
  | 11, _ => nmX11
  | _ + 12, h => absurd h (by omega)
theorem ccl_ok (c : Nat) (hc : c < 12) : vwCl[c]? = some (clsN c, clsT c, clsK c) := match c, hc with
  | 0, _ => rfl
  | 1, _ => rfl
  | 2, _ => rfl
  | 3, _ => rfl
  | 4, _ => rfl
  | 5, _ => rfl
  | 6, _ => rfl
  | 7, _ => rfl
  | 8, _ => rfl
  | 9, _ => rfl
  | 10, _ => rfl
  | 11, _ => rfl
  | _ + 12, h => absurd h (by omega)
theorem cfk_ok : ∀ c, c < 12 → ∀ k, k < clsK c → (fk c k ≠ 3 → (clsT c k).2.2.2 = false) ∧ (fk c k = 0 → clsTy c k = .int) ∧ (fk c k = 1 → clsTy c k = .long) ∧ (fk c k = 2 → clsTy c k = .boolean) := by decide +kernel
