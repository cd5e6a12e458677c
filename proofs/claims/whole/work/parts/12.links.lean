/-! the words that the methods use, each by its place in the tables (printed by wip/whole/gen.py) -/
theorem fh_at {w : Cond} (i : Nat) (h : tables_1[i]? = some w) (q : goodWord w = true) : w ∈ fh_U := fh_inU (List.mem_append_right _ (List.mem_of_getElem? h)) q
theorem fh_atp {y : MethodName} {n : Nat} (i : Nat) (h : lw_privs[i]? = some (y, n)) : Cond.selects y.cls y y ∈ fh_U := fh_inU (List.mem_append_left _ (List.mem_map.mpr ⟨(y, n), List.mem_of_getElem? h, rfl⟩)) rfl
theorem fh_ats {ws : List Cond} (ps : List Nat) (hp : ws = ps.filterMap (fun i => tables_1[i]?)) (h : ws.all goodWord = true) : ∀ w ∈ ws, w ∈ fh_U := by
  intro w hw
  have h1 := List.all_eq_true.mp h w hw
  rw [hp] at hw
  obtain ⟨i, -, hi⟩ := List.mem_filterMap.mp hw
  exact fh_at i hi h1
theorem ix_0 : ∀ w ∈ u_ws RX0 TX0 4, w ∈ fh_U := fh_ats [170, 172, 174, 176] (by decide +kernel) (by decide +kernel)
theorem ix_1 : ∀ w ∈ u_ws RX1 TX1 4, w ∈ fh_U := fh_ats [141, 143, 145, 147] (by decide +kernel) (by decide +kernel)
theorem ix_2 : ∀ w ∈ u_ws RX2 TX2 5, w ∈ fh_U := fh_ats [250, 252, 254, 256, 258] (by decide +kernel) (by decide +kernel)
theorem ix_3 : ∀ w ∈ u_ws RX3 TX3 9, w ∈ fh_U := fh_ats [65, 67, 69, 71, 73, 75, 77, 79, 81] (by decide +kernel) (by decide +kernel)
theorem ix_4 : ∀ w ∈ u_ws RX4 TX4 3, w ∈ fh_U := fh_ats [328, 330, 332] (by decide +kernel) (by decide +kernel)
theorem ix_5 : ∀ w ∈ u_ws RX5 TX5 11, w ∈ fh_U := fh_ats [190, 192, 194, 196, 198, 200, 202, 204, 206, 208, 210] (by decide +kernel) (by decide +kernel)
theorem ix_6 : ∀ w ∈ u_ws RX6 TX6 9, w ∈ fh_U := fh_ats [107, 109, 111, 113, 115, 117, 119, 121, 123] (by decide +kernel) (by decide +kernel)
theorem ix_7 : ∀ w ∈ u_ws RX7 TX7 4, w ∈ fh_U := fh_ats [310, 312, 314, 316] (by decide +kernel) (by decide +kernel)
theorem ix_8 : ∀ w ∈ u_ws RX8 TX8 2, w ∈ fh_U := fh_ats [344, 346] (by decide +kernel) (by decide +kernel)
theorem ix_9 : ∀ w ∈ u_ws RX9 TX9 4, w ∈ fh_U := fh_ats [225, 227, 229, 231] (by decide +kernel) (by decide +kernel)
theorem ix_10 : ∀ w ∈ u_ws RX10 TX10 9, w ∈ fh_U := fh_ats [280, 282, 284, 286, 288, 290, 292, 294, 296] (by decide +kernel) (by decide +kernel)
theorem ix_11 : ∀ w ∈ u_ws RX11 TX11 10, w ∈ fh_U := fh_ats [359, 361, 363, 365, 367, 369, 371, 373, 375, 377] (by decide +kernel) (by decide +kernel)
theorem ix_12 : ∀ w ∈ u_ws RX12 TX12 49, w ∈ fh_U := fh_ats [1339, 1341, 1343, 1345, 1347, 1349, 1351, 1353, 1355, 1357, 1359, 1361, 1363, 1365, 1367, 1369, 1371, 1373, 1375, 1377, 1379, 1381, 1383, 1385, 1387, 1389, 1391, 1393, 1395, 1397, 1399, 1401, 1403, 1405, 1407, 1409, 1411, 1413, 1415, 1417, 1419, 1421, 1423, 1425, 1427, 1429, 1431, 1433, 1435] (by decide +kernel) (by decide +kernel)
theorem Fg_RX11_11 : fh_F RX11 11 11 0 := ⟨RX11, TX11, 10, rfl, by decide, fh_at 349 (by decide +kernel) rfl, ix_11, rfl, by decide⟩
theorem Fg_RX11_18 : fh_F RX11 18 11 1 := ⟨RX11, TX11, 10, rfl, by decide, fh_at 350 (by decide +kernel) rfl, ix_11, rfl, by decide⟩
theorem Fg_RX11_25 : fh_F RX11 25 11 2 := ⟨RX11, TX11, 10, rfl, by decide, fh_at 351 (by decide +kernel) rfl, ix_11, rfl, by decide⟩
theorem Fg_RX11_32 : fh_F RX11 32 11 3 := ⟨RX11, TX11, 10, rfl, by decide, fh_at 352 (by decide +kernel) rfl, ix_11, rfl, by decide⟩
theorem Fg_RX11_39 : fh_F RX11 39 11 4 := ⟨RX11, TX11, 10, rfl, by decide, fh_at 353 (by decide +kernel) rfl, ix_11, rfl, by decide⟩
theorem Fg_RX11_46 : fh_F RX11 46 11 5 := ⟨RX11, TX11, 10, rfl, by decide, fh_at 354 (by decide +kernel) rfl, ix_11, rfl, by decide⟩
theorem Fg_RX11_53 : fh_F RX11 53 11 6 := ⟨RX11, TX11, 10, rfl, by decide, fh_at 355 (by decide +kernel) rfl, ix_11, rfl, by decide⟩
theorem Fg_RX11_62 : fh_F RX11 62 11 7 := ⟨RX11, TX11, 10, rfl, by decide, fh_at 356 (by decide +kernel) rfl, ix_11, rfl, by decide⟩
theorem Fg_RX11_69 : fh_F RX11 69 11 8 := ⟨RX11, TX11, 10, rfl, by decide, fh_at 357 (by decide +kernel) rfl, ix_11, rfl, by decide⟩
theorem Fg_RX11_76 : fh_F RX11 76 11 9 := ⟨RX11, TX11, 10, rfl, by decide, fh_at 358 (by decide +kernel) rfl, ix_11, rfl, by decide⟩
theorem Fg_RX11_80 : fh_F RX11 80 10 6 := ⟨RX10, TX10, 9, rfl, by decide, fh_at 273 (by decide +kernel) rfl, ix_10, rfl, by decide⟩
theorem Fp_RX11_80 : fh_Fw RX11 80 10 6 (.int) := ⟨RX10, TX10, 9, tyX10, rfl, by decide, fh_at 273 (by decide +kernel) rfl, ix_10, rfl, by decide, tyX10_ok, nmX10, rfl, by decide +kernel⟩
theorem Fg_RX11_107 : fh_F RX11 107 10 7 := ⟨RX10, TX10, 9, rfl, by decide, fh_at 276 (by decide +kernel) rfl, ix_10, rfl, by decide⟩
theorem Fp_RX11_107 : fh_Fw RX11 107 10 7 (.int) := ⟨RX10, TX10, 9, tyX10, rfl, by decide, fh_at 276 (by decide +kernel) rfl, ix_10, rfl, by decide, tyX10_ok, nmX10, rfl, by decide +kernel⟩
theorem Fg_RX11_124 : fh_F RX11 124 7 3 := ⟨RX7, TX7, 4, rfl, by decide, fh_at 309 (by decide +kernel) rfl, ix_7, rfl, by decide⟩
theorem Fp_RX11_124 : fh_Fw RX11 124 7 3 (.int) := ⟨RX7, TX7, 4, tyX7, rfl, by decide, fh_at 309 (by decide +kernel) rfl, ix_7, rfl, by decide, tyX7_ok, nmX7, rfl, by decide +kernel⟩
theorem Fg_RX11_134 : fh_F RX11 134 10 8 := ⟨RX10, TX10, 9, rfl, by decide, fh_at 279 (by decide +kernel) rfl, ix_10, rfl, by decide⟩
theorem Fp_RX11_134 : fh_Fw RX11 134 10 8 (.int) := ⟨RX10, TX10, 9, tyX10, rfl, by decide, fh_at 279 (by decide +kernel) rfl, ix_10, rfl, by decide, tyX10_ok, nmX10, rfl, by decide +kernel⟩
theorem Fg_RX11_153 : fh_F RX11 153 1 3 := ⟨RX1, TX1, 4, rfl, by decide, fh_at 140 (by decide +kernel) rfl, ix_1, rfl, by decide⟩
theorem Fp_RX11_153 : fh_Fw RX11 153 1 3 (.int) := ⟨RX1, TX1, 4, tyX1, rfl, by decide, fh_at 140 (by decide +kernel) rfl, ix_1, rfl, by decide, tyX1_ok, nmX1, rfl, by decide +kernel⟩
theorem Fg_RX11_168 : fh_F RX11 168 6 4 := ⟨RX6, TX6, 9, rfl, by decide, fh_at 92 (by decide +kernel) rfl, ix_6, rfl, by decide⟩
theorem Fp_RX11_168 : fh_Fw RX11 168 6 4 (.object "TermRows$Made") := ⟨RX6, TX6, 9, tyX6, rfl, by decide, fh_at 92 (by decide +kernel) rfl, ix_6, rfl, by decide, tyX6_ok, nmX6, rfl, by decide +kernel⟩
theorem Fg_RX11_172 : fh_F RX11 172 3 0 := ⟨RX3, TX3, 9, rfl, by decide, fh_at 47 (by decide +kernel) rfl, ix_3, rfl, by decide⟩
theorem Fp_RX11_172 : fh_Fw RX11 172 3 0 (.int) := ⟨RX3, TX3, 9, tyX3, rfl, by decide, fh_at 47 (by decide +kernel) rfl, ix_3, rfl, by decide, tyX3_ok, nmX3, rfl, by decide +kernel⟩
theorem Fg_RX11_175 : fh_F RX11 175 6 6 := ⟨RX6, TX6, 9, rfl, by decide, fh_at 99 (by decide +kernel) rfl, ix_6, rfl, by decide⟩
theorem Fp_RX11_175 : fh_Fw RX11 175 6 6 (.int) := ⟨RX6, TX6, 9, tyX6, rfl, by decide, fh_at 99 (by decide +kernel) rfl, ix_6, rfl, by decide, tyX6_ok, nmX6, rfl, by decide +kernel⟩
theorem Fg_RX11_178 : fh_F RX11 178 6 7 := ⟨RX6, TX6, 9, rfl, by decide, fh_at 103 (by decide +kernel) rfl, ix_6, rfl, by decide⟩
theorem Fp_RX11_178 : fh_Fw RX11 178 6 7 (.int) := ⟨RX6, TX6, 9, tyX6, rfl, by decide, fh_at 103 (by decide +kernel) rfl, ix_6, rfl, by decide, tyX6_ok, nmX6, rfl, by decide +kernel⟩
theorem Fg_RX11_181 : fh_F RX11 181 6 8 := ⟨RX6, TX6, 9, rfl, by decide, fh_at 106 (by decide +kernel) rfl, ix_6, rfl, by decide⟩
theorem Fp_RX11_181 : fh_Fw RX11 181 6 8 (.int) := ⟨RX6, TX6, 9, tyX6, rfl, by decide, fh_at 106 (by decide +kernel) rfl, ix_6, rfl, by decide, tyX6_ok, nmX6, rfl, by decide +kernel⟩
theorem Fg_RX11_214 : fh_F RX11 214 2 4 := ⟨RX2, TX2, 5, rfl, by decide, fh_at 249 (by decide +kernel) rfl, ix_2, rfl, by decide⟩
theorem Fp_RX11_214 : fh_Fw RX11 214 2 4 (.boolean) := ⟨RX2, TX2, 5, tyX2, rfl, by decide, fh_at 249 (by decide +kernel) rfl, ix_2, rfl, by decide, tyX2_ok, nmX2, rfl, by decide +kernel⟩
theorem Fg_RX11_220 : fh_F RX11 220 2 1 := ⟨RX2, TX2, 5, rfl, by decide, fh_at 243 (by decide +kernel) rfl, ix_2, rfl, by decide⟩
theorem Fp_RX11_220 : fh_Fw RX11 220 2 1 (.long) := ⟨RX2, TX2, 5, tyX2, rfl, by decide, fh_at 243 (by decide +kernel) rfl, ix_2, rfl, by decide, tyX2_ok, nmX2, rfl, by decide +kernel⟩
theorem Fg_RX11_224 : fh_F RX11 224 2 0 := ⟨RX2, TX2, 5, rfl, by decide, fh_at 241 (by decide +kernel) rfl, ix_2, rfl, by decide⟩
theorem Fp_RX11_224 : fh_Fw RX11 224 2 0 (.long) := ⟨RX2, TX2, 5, tyX2, rfl, by decide, fh_at 241 (by decide +kernel) rfl, ix_2, rfl, by decide, tyX2_ok, nmX2, rfl, by decide +kernel⟩
theorem Fg_RX11_237 : fh_F RX11 237 2 2 := ⟨RX2, TX2, 5, rfl, by decide, fh_at 245 (by decide +kernel) rfl, ix_2, rfl, by decide⟩
theorem Fp_RX11_237 : fh_Fw RX11 237 2 2 (.long) := ⟨RX2, TX2, 5, tyX2, rfl, by decide, fh_at 245 (by decide +kernel) rfl, ix_2, rfl, by decide, tyX2_ok, nmX2, rfl, by decide +kernel⟩
theorem Fg_RX11_244 : fh_F RX11 244 2 3 := ⟨RX2, TX2, 5, rfl, by decide, fh_at 247 (by decide +kernel) rfl, ix_2, rfl, by decide⟩
theorem Fp_RX11_244 : fh_Fw RX11 244 2 3 (.long) := ⟨RX2, TX2, 5, tyX2, rfl, by decide, fh_at 247 (by decide +kernel) rfl, ix_2, rfl, by decide, tyX2_ok, nmX2, rfl, by decide +kernel⟩
theorem Fg_RX11_287 : fh_F RX11 287 3 4 := ⟨RX3, TX3, 9, rfl, by decide, fh_at 55 (by decide +kernel) rfl, ix_3, rfl, by decide⟩
theorem Fp_RX11_287 : fh_Fw RX11 287 3 4 (.int) := ⟨RX3, TX3, 9, tyX3, rfl, by decide, fh_at 55 (by decide +kernel) rfl, ix_3, rfl, by decide, tyX3_ok, nmX3, rfl, by decide +kernel⟩
theorem Fg_RX11_298 : fh_F RX11 298 3 3 := ⟨RX3, TX3, 9, rfl, by decide, fh_at 53 (by decide +kernel) rfl, ix_3, rfl, by decide⟩
theorem Fp_RX11_298 : fh_Fw RX11 298 3 3 (.int) := ⟨RX3, TX3, 9, tyX3, rfl, by decide, fh_at 53 (by decide +kernel) rfl, ix_3, rfl, by decide, tyX3_ok, nmX3, rfl, by decide +kernel⟩
theorem Fg_RX11_301 : fh_F RX11 301 3 5 := ⟨RX3, TX3, 9, rfl, by decide, fh_at 57 (by decide +kernel) rfl, ix_3, rfl, by decide⟩
theorem Fp_RX11_301 : fh_Fw RX11 301 3 5 (.int) := ⟨RX3, TX3, 9, tyX3, rfl, by decide, fh_at 57 (by decide +kernel) rfl, ix_3, rfl, by decide, tyX3_ok, nmX3, rfl, by decide +kernel⟩
theorem Fg_RX11_315 : fh_F RX11 315 9 0 := ⟨RX9, TX9, 4, rfl, by decide, fh_at 220 (by decide +kernel) rfl, ix_9, rfl, by decide⟩
theorem Fp_RX11_315 : fh_Fw RX11 315 9 0 (.long) := ⟨RX9, TX9, 4, tyX9, rfl, by decide, fh_at 220 (by decide +kernel) rfl, ix_9, rfl, by decide, tyX9_ok, nmX9, rfl, by decide +kernel⟩
theorem Fg_RX11_318 : fh_F RX11 318 9 2 := ⟨RX9, TX9, 4, rfl, by decide, fh_at 223 (by decide +kernel) rfl, ix_9, rfl, by decide⟩
theorem Fp_RX11_318 : fh_Fw RX11 318 9 2 (.long) := ⟨RX9, TX9, 4, tyX9, rfl, by decide, fh_at 223 (by decide +kernel) rfl, ix_9, rfl, by decide, tyX9_ok, nmX9, rfl, by decide +kernel⟩
theorem Fg_RX11_336 : fh_F RX11 336 8 1 := ⟨RX8, TX8, 2, rfl, by decide, fh_at 343 (by decide +kernel) rfl, ix_8, rfl, by decide⟩
theorem Fp_RX11_336 : fh_Fw RX11 336 8 1 (.int) := ⟨RX8, TX8, 2, tyX8, rfl, by decide, fh_at 343 (by decide +kernel) rfl, ix_8, rfl, by decide, tyX8_ok, nmX8, rfl, by decide +kernel⟩
theorem Fg_RX11_356 : fh_F RX11 356 6 5 := ⟨RX6, TX6, 9, rfl, by decide, fh_at 94 (by decide +kernel) rfl, ix_6, rfl, by decide⟩
theorem Fp_RX11_356 : fh_Fw RX11 356 6 5 (.boolean) := ⟨RX6, TX6, 9, tyX6, rfl, by decide, fh_at 94 (by decide +kernel) rfl, ix_6, rfl, by decide, tyX6_ok, nmX6, rfl, by decide +kernel⟩
theorem Fg_RX11_377 : fh_F RX11 377 3 1 := ⟨RX3, TX3, 9, rfl, by decide, fh_at 49 (by decide +kernel) rfl, ix_3, rfl, by decide⟩
theorem Fp_RX11_377 : fh_Fw RX11 377 3 1 (.int) := ⟨RX3, TX3, 9, tyX3, rfl, by decide, fh_at 49 (by decide +kernel) rfl, ix_3, rfl, by decide, tyX3_ok, nmX3, rfl, by decide +kernel⟩
theorem Fg_RX11_380 : fh_F RX11 380 3 6 := ⟨RX3, TX3, 9, rfl, by decide, fh_at 59 (by decide +kernel) rfl, ix_3, rfl, by decide⟩
theorem Fp_RX11_380 : fh_Fw RX11 380 3 6 (.int) := ⟨RX3, TX3, 9, tyX3, rfl, by decide, fh_at 59 (by decide +kernel) rfl, ix_3, rfl, by decide, tyX3_ok, nmX3, rfl, by decide +kernel⟩
theorem Fg_RX11_386 : fh_F RX11 386 3 2 := ⟨RX3, TX3, 9, rfl, by decide, fh_at 51 (by decide +kernel) rfl, ix_3, rfl, by decide⟩
theorem Fp_RX11_386 : fh_Fw RX11 386 3 2 (.int) := ⟨RX3, TX3, 9, tyX3, rfl, by decide, fh_at 51 (by decide +kernel) rfl, ix_3, rfl, by decide, tyX3_ok, nmX3, rfl, by decide +kernel⟩
theorem Fg_RX11_401 : fh_F RX11 401 6 0 := ⟨RX6, TX6, 9, rfl, by decide, fh_at 86 (by decide +kernel) rfl, ix_6, rfl, by decide⟩
theorem Fg_RX0_9 : fh_F RX0 9 0 0 := ⟨RX0, TX0, 4, rfl, by decide, fh_at 162 (by decide +kernel) rfl, ix_0, rfl, by decide⟩
theorem Fp_RX0_9 : fh_Fw RX0 9 0 0 (.long) := ⟨RX0, TX0, 4, tyX0, rfl, by decide, fh_at 162 (by decide +kernel) rfl, ix_0, rfl, by decide, tyX0_ok, nmX0, rfl, by decide +kernel⟩
theorem Fg_RX0_15 : fh_F RX0 15 0 1 := ⟨RX0, TX0, 4, rfl, by decide, fh_at 164 (by decide +kernel) rfl, ix_0, rfl, by decide⟩
theorem Fp_RX0_15 : fh_Fw RX0 15 0 1 (.long) := ⟨RX0, TX0, 4, tyX0, rfl, by decide, fh_at 164 (by decide +kernel) rfl, ix_0, rfl, by decide, tyX0_ok, nmX0, rfl, by decide +kernel⟩
theorem Fg_RX0_18 : fh_F RX0 18 0 2 := ⟨RX0, TX0, 4, rfl, by decide, fh_at 166 (by decide +kernel) rfl, ix_0, rfl, by decide⟩
theorem Fp_RX0_18 : fh_Fw RX0 18 0 2 (.long) := ⟨RX0, TX0, 4, tyX0, rfl, by decide, fh_at 166 (by decide +kernel) rfl, ix_0, rfl, by decide, tyX0_ok, nmX0, rfl, by decide +kernel⟩
theorem Fg_RX0_21 : fh_F RX0 21 0 3 := ⟨RX0, TX0, 4, rfl, by decide, fh_at 168 (by decide +kernel) rfl, ix_0, rfl, by decide⟩
theorem Fp_RX0_21 : fh_Fw RX0 21 0 3 (.long) := ⟨RX0, TX0, 4, tyX0, rfl, by decide, fh_at 168 (by decide +kernel) rfl, ix_0, rfl, by decide, tyX0_ok, nmX0, rfl, by decide +kernel⟩
theorem Fg_RX1_11 : fh_F RX1 11 1 0 := ⟨RX1, TX1, 4, rfl, by decide, fh_at 136 (by decide +kernel) rfl, ix_1, rfl, by decide⟩
theorem Fg_RX1_19 : fh_F RX1 19 1 1 := ⟨RX1, TX1, 4, rfl, by decide, fh_at 137 (by decide +kernel) rfl, ix_1, rfl, by decide⟩
theorem Fg_RX1_24 : fh_F RX1 24 1 2 := ⟨RX1, TX1, 4, rfl, by decide, fh_at 138 (by decide +kernel) rfl, ix_1, rfl, by decide⟩
theorem Fp_RX1_24 : fh_Fw RX1 24 1 2 (.int) := ⟨RX1, TX1, 4, tyX1, rfl, by decide, fh_at 138 (by decide +kernel) rfl, ix_1, rfl, by decide, tyX1_ok, nmX1, rfl, by decide +kernel⟩
theorem Fg_RX1_28 : fh_F RX1 28 1 3 := ⟨RX1, TX1, 4, rfl, by decide, fh_at 139 (by decide +kernel) rfl, ix_1, rfl, by decide⟩
theorem Fp_RX1_28 : fh_Fw RX1 28 1 3 (.int) := ⟨RX1, TX1, 4, tyX1, rfl, by decide, fh_at 139 (by decide +kernel) rfl, ix_1, rfl, by decide, tyX1_ok, nmX1, rfl, by decide +kernel⟩
theorem Fg_RX1_35 : fh_F RX1 35 6 4 := ⟨RX6, TX6, 9, rfl, by decide, fh_at 91 (by decide +kernel) rfl, ix_6, rfl, by decide⟩
theorem Fp_RX1_35 : fh_Fw RX1 35 6 4 (.object "TermRows$Made") := ⟨RX6, TX6, 9, tyX6, rfl, by decide, fh_at 91 (by decide +kernel) rfl, ix_6, rfl, by decide, tyX6_ok, nmX6, rfl, by decide +kernel⟩
theorem Fg_RX2_9 : fh_F RX2 9 2 0 := ⟨RX2, TX2, 5, rfl, by decide, fh_at 240 (by decide +kernel) rfl, ix_2, rfl, by decide⟩
theorem Fp_RX2_9 : fh_Fw RX2 9 2 0 (.long) := ⟨RX2, TX2, 5, tyX2, rfl, by decide, fh_at 240 (by decide +kernel) rfl, ix_2, rfl, by decide, tyX2_ok, nmX2, rfl, by decide +kernel⟩
theorem Fg_RX2_15 : fh_F RX2 15 2 1 := ⟨RX2, TX2, 5, rfl, by decide, fh_at 242 (by decide +kernel) rfl, ix_2, rfl, by decide⟩
theorem Fp_RX2_15 : fh_Fw RX2 15 2 1 (.long) := ⟨RX2, TX2, 5, tyX2, rfl, by decide, fh_at 242 (by decide +kernel) rfl, ix_2, rfl, by decide, tyX2_ok, nmX2, rfl, by decide +kernel⟩
theorem Fg_RX2_18 : fh_F RX2 18 2 2 := ⟨RX2, TX2, 5, rfl, by decide, fh_at 244 (by decide +kernel) rfl, ix_2, rfl, by decide⟩
theorem Fp_RX2_18 : fh_Fw RX2 18 2 2 (.long) := ⟨RX2, TX2, 5, tyX2, rfl, by decide, fh_at 244 (by decide +kernel) rfl, ix_2, rfl, by decide, tyX2_ok, nmX2, rfl, by decide +kernel⟩
theorem Fg_RX2_21 : fh_F RX2 21 2 3 := ⟨RX2, TX2, 5, rfl, by decide, fh_at 246 (by decide +kernel) rfl, ix_2, rfl, by decide⟩
theorem Fp_RX2_21 : fh_Fw RX2 21 2 3 (.long) := ⟨RX2, TX2, 5, tyX2, rfl, by decide, fh_at 246 (by decide +kernel) rfl, ix_2, rfl, by decide, tyX2_ok, nmX2, rfl, by decide +kernel⟩
theorem Fg_RX2_24 : fh_F RX2 24 2 4 := ⟨RX2, TX2, 5, rfl, by decide, fh_at 248 (by decide +kernel) rfl, ix_2, rfl, by decide⟩
theorem Fp_RX2_24 : fh_Fw RX2 24 2 4 (.boolean) := ⟨RX2, TX2, 5, tyX2, rfl, by decide, fh_at 248 (by decide +kernel) rfl, ix_2, rfl, by decide, tyX2_ok, nmX2, rfl, by decide +kernel⟩
theorem Fg_RX3_9 : fh_F RX3 9 3 0 := ⟨RX3, TX3, 9, rfl, by decide, fh_at 46 (by decide +kernel) rfl, ix_3, rfl, by decide⟩
theorem Fp_RX3_9 : fh_Fw RX3 9 3 0 (.int) := ⟨RX3, TX3, 9, tyX3, rfl, by decide, fh_at 46 (by decide +kernel) rfl, ix_3, rfl, by decide, tyX3_ok, nmX3, rfl, by decide +kernel⟩
theorem Fg_RX3_15 : fh_F RX3 15 3 4 := ⟨RX3, TX3, 9, rfl, by decide, fh_at 54 (by decide +kernel) rfl, ix_3, rfl, by decide⟩
theorem Fp_RX3_15 : fh_Fw RX3 15 3 4 (.int) := ⟨RX3, TX3, 9, tyX3, rfl, by decide, fh_at 54 (by decide +kernel) rfl, ix_3, rfl, by decide, tyX3_ok, nmX3, rfl, by decide +kernel⟩
theorem Fg_RX3_18 : fh_F RX3 18 3 8 := ⟨RX3, TX3, 9, rfl, by decide, fh_at 62 (by decide +kernel) rfl, ix_3, rfl, by decide⟩
theorem Fg_RX3_22 : fh_F RX3 22 3 1 := ⟨RX3, TX3, 9, rfl, by decide, fh_at 48 (by decide +kernel) rfl, ix_3, rfl, by decide⟩
theorem Fp_RX3_22 : fh_Fw RX3 22 3 1 (.int) := ⟨RX3, TX3, 9, tyX3, rfl, by decide, fh_at 48 (by decide +kernel) rfl, ix_3, rfl, by decide, tyX3_ok, nmX3, rfl, by decide +kernel⟩
theorem Fg_RX3_25 : fh_F RX3 25 3 2 := ⟨RX3, TX3, 9, rfl, by decide, fh_at 50 (by decide +kernel) rfl, ix_3, rfl, by decide⟩
theorem Fp_RX3_25 : fh_Fw RX3 25 3 2 (.int) := ⟨RX3, TX3, 9, tyX3, rfl, by decide, fh_at 50 (by decide +kernel) rfl, ix_3, rfl, by decide, tyX3_ok, nmX3, rfl, by decide +kernel⟩
theorem Fg_RX3_28 : fh_F RX3 28 3 3 := ⟨RX3, TX3, 9, rfl, by decide, fh_at 52 (by decide +kernel) rfl, ix_3, rfl, by decide⟩
theorem Fp_RX3_28 : fh_Fw RX3 28 3 3 (.int) := ⟨RX3, TX3, 9, tyX3, rfl, by decide, fh_at 52 (by decide +kernel) rfl, ix_3, rfl, by decide, tyX3_ok, nmX3, rfl, by decide +kernel⟩
theorem Fg_RX3_31 : fh_F RX3 31 3 5 := ⟨RX3, TX3, 9, rfl, by decide, fh_at 56 (by decide +kernel) rfl, ix_3, rfl, by decide⟩
theorem Fp_RX3_31 : fh_Fw RX3 31 3 5 (.int) := ⟨RX3, TX3, 9, tyX3, rfl, by decide, fh_at 56 (by decide +kernel) rfl, ix_3, rfl, by decide, tyX3_ok, nmX3, rfl, by decide +kernel⟩
theorem Fg_RX3_34 : fh_F RX3 34 3 6 := ⟨RX3, TX3, 9, rfl, by decide, fh_at 58 (by decide +kernel) rfl, ix_3, rfl, by decide⟩
theorem Fp_RX3_34 : fh_Fw RX3 34 3 6 (.int) := ⟨RX3, TX3, 9, tyX3, rfl, by decide, fh_at 58 (by decide +kernel) rfl, ix_3, rfl, by decide, tyX3_ok, nmX3, rfl, by decide +kernel⟩
theorem Fg_RX4_9 : fh_F RX4 9 4 0 := ⟨RX4, TX4, 3, rfl, by decide, fh_at 325 (by decide +kernel) rfl, ix_4, rfl, by decide⟩
theorem Fg_RX4_15 : fh_F RX4 15 4 1 := ⟨RX4, TX4, 3, rfl, by decide, fh_at 326 (by decide +kernel) rfl, ix_4, rfl, by decide⟩
theorem Fp_RX4_15 : fh_Fw RX4 15 4 1 (.object "TermRows$Row") := ⟨RX4, TX4, 3, tyX4, rfl, by decide, fh_at 326 (by decide +kernel) rfl, ix_4, rfl, by decide, tyX4_ok, nmX4, rfl, by decide +kernel⟩
theorem Fg_RX4_19 : fh_F RX4 19 6 6 := ⟨RX6, TX6, 9, rfl, by decide, fh_at 96 (by decide +kernel) rfl, ix_6, rfl, by decide⟩
theorem Fp_RX4_19 : fh_Fw RX4 19 6 6 (.int) := ⟨RX6, TX6, 9, tyX6, rfl, by decide, fh_at 96 (by decide +kernel) rfl, ix_6, rfl, by decide, tyX6_ok, nmX6, rfl, by decide +kernel⟩
theorem Fg_RX4_31 : fh_F RX4 31 4 2 := ⟨RX4, TX4, 3, rfl, by decide, fh_at 327 (by decide +kernel) rfl, ix_4, rfl, by decide⟩
theorem Fp_RX4_31 : fh_Fw RX4 31 4 2 (.long) := ⟨RX4, TX4, 3, tyX4, rfl, by decide, fh_at 327 (by decide +kernel) rfl, ix_4, rfl, by decide, tyX4_ok, nmX4, rfl, by decide +kernel⟩
theorem Fg_RX4_49 : fh_F RX4 49 10 7 := ⟨RX10, TX10, 9, rfl, by decide, fh_at 275 (by decide +kernel) rfl, ix_10, rfl, by decide⟩
theorem Fp_RX4_49 : fh_Fw RX4 49 10 7 (.int) := ⟨RX10, TX10, 9, tyX10, rfl, by decide, fh_at 275 (by decide +kernel) rfl, ix_10, rfl, by decide, tyX10_ok, nmX10, rfl, by decide +kernel⟩
theorem Fg_RX5_12 : fh_F RX5 12 5 0 := ⟨RX5, TX5, 11, rfl, by decide, fh_at 179 (by decide +kernel) rfl, ix_5, rfl, by decide⟩
theorem Fp_RX5_12 : fh_Fw RX5 12 5 0 (.object "TermRows$Half") := ⟨RX5, TX5, 11, tyX5, rfl, by decide, fh_at 179 (by decide +kernel) rfl, ix_5, rfl, by decide, tyX5_ok, nmX5, rfl, by decide +kernel⟩
theorem Fg_RX5_18 : fh_F RX5 18 5 1 := ⟨RX5, TX5, 11, rfl, by decide, fh_at 180 (by decide +kernel) rfl, ix_5, rfl, by decide⟩
theorem Fp_RX5_18 : fh_Fw RX5 18 5 1 (.object "TermRows$Half") := ⟨RX5, TX5, 11, tyX5, rfl, by decide, fh_at 180 (by decide +kernel) rfl, ix_5, rfl, by decide, tyX5_ok, nmX5, rfl, by decide +kernel⟩
theorem Fg_RX5_31 : fh_F RX5 31 5 2 := ⟨RX5, TX5, 11, rfl, by decide, fh_at 181 (by decide +kernel) rfl, ix_5, rfl, by decide⟩
theorem Fp_RX5_31 : fh_Fw RX5 31 5 2 (.object "TermRows$Row") := ⟨RX5, TX5, 11, tyX5, rfl, by decide, fh_at 181 (by decide +kernel) rfl, ix_5, rfl, by decide, tyX5_ok, nmX5, rfl, by decide +kernel⟩
theorem Fg_RX5_35 : fh_F RX5 35 5 3 := ⟨RX5, TX5, 11, rfl, by decide, fh_at 182 (by decide +kernel) rfl, ix_5, rfl, by decide⟩
theorem Fp_RX5_35 : fh_Fw RX5 35 5 3 (.object "TermRows$Row") := ⟨RX5, TX5, 11, tyX5, rfl, by decide, fh_at 182 (by decide +kernel) rfl, ix_5, rfl, by decide, tyX5_ok, nmX5, rfl, by decide +kernel⟩
theorem Fg_RX5_38 : fh_F RX5 38 5 4 := ⟨RX5, TX5, 11, rfl, by decide, fh_at 183 (by decide +kernel) rfl, ix_5, rfl, by decide⟩
theorem Fp_RX5_38 : fh_Fw RX5 38 5 4 (.int) := ⟨RX5, TX5, 11, tyX5, rfl, by decide, fh_at 183 (by decide +kernel) rfl, ix_5, rfl, by decide, tyX5_ok, nmX5, rfl, by decide +kernel⟩
theorem Fg_RX5_42 : fh_F RX5 42 5 5 := ⟨RX5, TX5, 11, rfl, by decide, fh_at 184 (by decide +kernel) rfl, ix_5, rfl, by decide⟩
theorem Fp_RX5_42 : fh_Fw RX5 42 5 5 (.int) := ⟨RX5, TX5, 11, tyX5, rfl, by decide, fh_at 184 (by decide +kernel) rfl, ix_5, rfl, by decide, tyX5_ok, nmX5, rfl, by decide +kernel⟩
theorem Fg_RX5_45 : fh_F RX5 45 5 6 := ⟨RX5, TX5, 11, rfl, by decide, fh_at 185 (by decide +kernel) rfl, ix_5, rfl, by decide⟩
theorem Fp_RX5_45 : fh_Fw RX5 45 5 6 (.int) := ⟨RX5, TX5, 11, tyX5, rfl, by decide, fh_at 185 (by decide +kernel) rfl, ix_5, rfl, by decide, tyX5_ok, nmX5, rfl, by decide +kernel⟩
theorem Fg_RX5_48 : fh_F RX5 48 5 7 := ⟨RX5, TX5, 11, rfl, by decide, fh_at 186 (by decide +kernel) rfl, ix_5, rfl, by decide⟩
theorem Fp_RX5_48 : fh_Fw RX5 48 5 7 (.boolean) := ⟨RX5, TX5, 11, tyX5, rfl, by decide, fh_at 186 (by decide +kernel) rfl, ix_5, rfl, by decide, tyX5_ok, nmX5, rfl, by decide +kernel⟩
theorem Fg_RX5_52 : fh_F RX5 52 5 8 := ⟨RX5, TX5, 11, rfl, by decide, fh_at 187 (by decide +kernel) rfl, ix_5, rfl, by decide⟩
theorem Fp_RX5_52 : fh_Fw RX5 52 5 8 (.boolean) := ⟨RX5, TX5, 11, tyX5, rfl, by decide, fh_at 187 (by decide +kernel) rfl, ix_5, rfl, by decide, tyX5_ok, nmX5, rfl, by decide +kernel⟩
theorem Fg_RX5_55 : fh_F RX5 55 5 9 := ⟨RX5, TX5, 11, rfl, by decide, fh_at 188 (by decide +kernel) rfl, ix_5, rfl, by decide⟩
theorem Fp_RX5_55 : fh_Fw RX5 55 5 9 (.boolean) := ⟨RX5, TX5, 11, tyX5, rfl, by decide, fh_at 188 (by decide +kernel) rfl, ix_5, rfl, by decide, tyX5_ok, nmX5, rfl, by decide +kernel⟩
theorem Fg_RX5_58 : fh_F RX5 58 6 6 := ⟨RX6, TX6, 9, rfl, by decide, fh_at 98 (by decide +kernel) rfl, ix_6, rfl, by decide⟩
theorem Fp_RX5_58 : fh_Fw RX5 58 6 6 (.int) := ⟨RX6, TX6, 9, tyX6, rfl, by decide, fh_at 98 (by decide +kernel) rfl, ix_6, rfl, by decide, tyX6_ok, nmX6, rfl, by decide +kernel⟩
theorem Fg_RX5_63 : fh_F RX5 63 0 0 := ⟨RX0, TX0, 4, rfl, by decide, fh_at 163 (by decide +kernel) rfl, ix_0, rfl, by decide⟩
theorem Fp_RX5_63 : fh_Fw RX5 63 0 0 (.long) := ⟨RX0, TX0, 4, tyX0, rfl, by decide, fh_at 163 (by decide +kernel) rfl, ix_0, rfl, by decide, tyX0_ok, nmX0, rfl, by decide +kernel⟩
theorem Fg_RX5_82 : fh_F RX5 82 6 7 := ⟨RX6, TX6, 9, rfl, by decide, fh_at 102 (by decide +kernel) rfl, ix_6, rfl, by decide⟩
theorem Fp_RX5_82 : fh_Fw RX5 82 6 7 (.int) := ⟨RX6, TX6, 9, tyX6, rfl, by decide, fh_at 102 (by decide +kernel) rfl, ix_6, rfl, by decide, tyX6_ok, nmX6, rfl, by decide +kernel⟩
theorem Fg_RX5_85 : fh_F RX5 85 6 8 := ⟨RX6, TX6, 9, rfl, by decide, fh_at 105 (by decide +kernel) rfl, ix_6, rfl, by decide⟩
theorem Fp_RX5_85 : fh_Fw RX5 85 6 8 (.int) := ⟨RX6, TX6, 9, tyX6, rfl, by decide, fh_at 105 (by decide +kernel) rfl, ix_6, rfl, by decide, tyX6_ok, nmX6, rfl, by decide +kernel⟩
theorem Fg_RX5_88 : fh_F RX5 88 0 1 := ⟨RX0, TX0, 4, rfl, by decide, fh_at 165 (by decide +kernel) rfl, ix_0, rfl, by decide⟩
theorem Fp_RX5_88 : fh_Fw RX5 88 0 1 (.long) := ⟨RX0, TX0, 4, tyX0, rfl, by decide, fh_at 165 (by decide +kernel) rfl, ix_0, rfl, by decide, tyX0_ok, nmX0, rfl, by decide +kernel⟩
theorem Fg_RX5_91 : fh_F RX5 91 0 2 := ⟨RX0, TX0, 4, rfl, by decide, fh_at 167 (by decide +kernel) rfl, ix_0, rfl, by decide⟩
theorem Fp_RX5_91 : fh_Fw RX5 91 0 2 (.long) := ⟨RX0, TX0, 4, tyX0, rfl, by decide, fh_at 167 (by decide +kernel) rfl, ix_0, rfl, by decide, tyX0_ok, nmX0, rfl, by decide +kernel⟩
theorem Fg_RX5_94 : fh_F RX5 94 0 3 := ⟨RX0, TX0, 4, rfl, by decide, fh_at 169 (by decide +kernel) rfl, ix_0, rfl, by decide⟩
theorem Fp_RX5_94 : fh_Fw RX5 94 0 3 (.long) := ⟨RX0, TX0, 4, tyX0, rfl, by decide, fh_at 169 (by decide +kernel) rfl, ix_0, rfl, by decide, tyX0_ok, nmX0, rfl, by decide +kernel⟩
theorem Fg_RX5_103 : fh_F RX5 103 5 10 := ⟨RX5, TX5, 11, rfl, by decide, fh_at 189 (by decide +kernel) rfl, ix_5, rfl, by decide⟩
theorem Fp_RX5_103 : fh_Fw RX5 103 5 10 (.long) := ⟨RX5, TX5, 11, tyX5, rfl, by decide, fh_at 189 (by decide +kernel) rfl, ix_5, rfl, by decide, tyX5_ok, nmX5, rfl, by decide +kernel⟩
theorem Fg_RX6_9 : fh_F RX6 9 6 1 := ⟨RX6, TX6, 9, rfl, by decide, fh_at 87 (by decide +kernel) rfl, ix_6, rfl, by decide⟩
theorem Fg_RX6_15 : fh_F RX6 15 6 2 := ⟨RX6, TX6, 9, rfl, by decide, fh_at 88 (by decide +kernel) rfl, ix_6, rfl, by decide⟩
theorem Fg_RX6_18 : fh_F RX6 18 6 3 := ⟨RX6, TX6, 9, rfl, by decide, fh_at 89 (by decide +kernel) rfl, ix_6, rfl, by decide⟩
theorem Fg_RX6_24 : fh_F RX6 24 6 4 := ⟨RX6, TX6, 9, rfl, by decide, fh_at 90 (by decide +kernel) rfl, ix_6, rfl, by decide⟩
theorem Fp_RX6_24 : fh_Fw RX6 24 6 4 (.object "TermRows$Made") := ⟨RX6, TX6, 9, tyX6, rfl, by decide, fh_at 90 (by decide +kernel) rfl, ix_6, rfl, by decide, tyX6_ok, nmX6, rfl, by decide +kernel⟩
theorem Fg_RX6_28 : fh_F RX6 28 6 5 := ⟨RX6, TX6, 9, rfl, by decide, fh_at 93 (by decide +kernel) rfl, ix_6, rfl, by decide⟩
theorem Fp_RX6_28 : fh_Fw RX6 28 6 5 (.boolean) := ⟨RX6, TX6, 9, tyX6, rfl, by decide, fh_at 93 (by decide +kernel) rfl, ix_6, rfl, by decide, tyX6_ok, nmX6, rfl, by decide +kernel⟩
theorem Fg_RX6_32 : fh_F RX6 32 6 0 := ⟨RX6, TX6, 9, rfl, by decide, fh_at 85 (by decide +kernel) rfl, ix_6, rfl, by decide⟩
theorem Fg_RX6_36 : fh_F RX6 36 6 6 := ⟨RX6, TX6, 9, rfl, by decide, fh_at 95 (by decide +kernel) rfl, ix_6, rfl, by decide⟩
theorem Fp_RX6_36 : fh_Fw RX6 36 6 6 (.int) := ⟨RX6, TX6, 9, tyX6, rfl, by decide, fh_at 95 (by decide +kernel) rfl, ix_6, rfl, by decide, tyX6_ok, nmX6, rfl, by decide +kernel⟩
theorem Fg_RX6_39 : fh_F RX6 39 6 7 := ⟨RX6, TX6, 9, rfl, by decide, fh_at 100 (by decide +kernel) rfl, ix_6, rfl, by decide⟩
theorem Fp_RX6_39 : fh_Fw RX6 39 6 7 (.int) := ⟨RX6, TX6, 9, tyX6, rfl, by decide, fh_at 100 (by decide +kernel) rfl, ix_6, rfl, by decide, tyX6_ok, nmX6, rfl, by decide +kernel⟩
theorem Fg_RX6_42 : fh_F RX6 42 6 8 := ⟨RX6, TX6, 9, rfl, by decide, fh_at 104 (by decide +kernel) rfl, ix_6, rfl, by decide⟩
theorem Fp_RX6_42 : fh_Fw RX6 42 6 8 (.int) := ⟨RX6, TX6, 9, tyX6, rfl, by decide, fh_at 104 (by decide +kernel) rfl, ix_6, rfl, by decide, tyX6_ok, nmX6, rfl, by decide +kernel⟩
theorem Fg_RX6_59 : fh_F RX6 59 3 7 := ⟨RX3, TX3, 9, rfl, by decide, fh_at 61 (by decide +kernel) rfl, ix_3, rfl, by decide⟩
theorem Fp_RX6_59 : fh_Fw RX6 59 3 7 (.int) := ⟨RX3, TX3, 9, tyX3, rfl, by decide, fh_at 61 (by decide +kernel) rfl, ix_3, rfl, by decide, tyX3_ok, nmX3, rfl, by decide +kernel⟩
theorem Fg_RX6_62 : fh_F RX6 62 3 8 := ⟨RX3, TX3, 9, rfl, by decide, fh_at 64 (by decide +kernel) rfl, ix_3, rfl, by decide⟩
theorem Fg_RX7_9 : fh_F RX7 9 7 1 := ⟨RX7, TX7, 4, rfl, by decide, fh_at 306 (by decide +kernel) rfl, ix_7, rfl, by decide⟩
theorem Fg_RX7_15 : fh_F RX7 15 7 0 := ⟨RX7, TX7, 4, rfl, by decide, fh_at 305 (by decide +kernel) rfl, ix_7, rfl, by decide⟩
theorem Fg_RX7_19 : fh_F RX7 19 7 3 := ⟨RX7, TX7, 4, rfl, by decide, fh_at 308 (by decide +kernel) rfl, ix_7, rfl, by decide⟩
theorem Fp_RX7_19 : fh_Fw RX7 19 7 3 (.int) := ⟨RX7, TX7, 4, tyX7, rfl, by decide, fh_at 308 (by decide +kernel) rfl, ix_7, rfl, by decide, tyX7_ok, nmX7, rfl, by decide +kernel⟩
theorem Fg_RX7_23 : fh_F RX7 23 7 2 := ⟨RX7, TX7, 4, rfl, by decide, fh_at 307 (by decide +kernel) rfl, ix_7, rfl, by decide⟩
theorem Fp_RX7_23 : fh_Fw RX7 23 7 2 (.int) := ⟨RX7, TX7, 4, tyX7, rfl, by decide, fh_at 307 (by decide +kernel) rfl, ix_7, rfl, by decide, tyX7_ok, nmX7, rfl, by decide +kernel⟩
theorem Fg_RX7_56 : fh_F RX7 56 3 8 := ⟨RX3, TX3, 9, rfl, by decide, fh_at 63 (by decide +kernel) rfl, ix_3, rfl, by decide⟩
theorem Fg_RX7_64 : fh_F RX7 64 3 7 := ⟨RX3, TX3, 9, rfl, by decide, fh_at 60 (by decide +kernel) rfl, ix_3, rfl, by decide⟩
theorem Fp_RX7_64 : fh_Fw RX7 64 3 7 (.int) := ⟨RX3, TX3, 9, tyX3, rfl, by decide, fh_at 60 (by decide +kernel) rfl, ix_3, rfl, by decide, tyX3_ok, nmX3, rfl, by decide +kernel⟩
theorem Fg_RX8_9 : fh_F RX8 9 8 0 := ⟨RX8, TX8, 2, rfl, by decide, fh_at 341 (by decide +kernel) rfl, ix_8, rfl, by decide⟩
theorem Fg_RX8_15 : fh_F RX8 15 8 1 := ⟨RX8, TX8, 2, rfl, by decide, fh_at 342 (by decide +kernel) rfl, ix_8, rfl, by decide⟩
theorem Fp_RX8_15 : fh_Fw RX8 15 8 1 (.int) := ⟨RX8, TX8, 2, tyX8, rfl, by decide, fh_at 342 (by decide +kernel) rfl, ix_8, rfl, by decide, tyX8_ok, nmX8, rfl, by decide +kernel⟩
theorem Fg_RX8_19 : fh_F RX8 19 6 6 := ⟨RX6, TX6, 9, rfl, by decide, fh_at 97 (by decide +kernel) rfl, ix_6, rfl, by decide⟩
theorem Fp_RX8_19 : fh_Fw RX8 19 6 6 (.int) := ⟨RX6, TX6, 9, tyX6, rfl, by decide, fh_at 97 (by decide +kernel) rfl, ix_6, rfl, by decide, tyX6_ok, nmX6, rfl, by decide +kernel⟩
theorem Fg_RX8_38 : fh_F RX8 38 6 7 := ⟨RX6, TX6, 9, rfl, by decide, fh_at 101 (by decide +kernel) rfl, ix_6, rfl, by decide⟩
theorem Fp_RX8_38 : fh_Fw RX8 38 6 7 (.int) := ⟨RX6, TX6, 9, tyX6, rfl, by decide, fh_at 101 (by decide +kernel) rfl, ix_6, rfl, by decide, tyX6_ok, nmX6, rfl, by decide +kernel⟩
theorem Fg_RX9_7 : fh_F RX9 7 9 0 := ⟨RX9, TX9, 4, rfl, by decide, fh_at 219 (by decide +kernel) rfl, ix_9, rfl, by decide⟩
theorem Fp_RX9_7 : fh_Fw RX9 7 9 0 (.long) := ⟨RX9, TX9, 4, tyX9, rfl, by decide, fh_at 219 (by decide +kernel) rfl, ix_9, rfl, by decide, tyX9_ok, nmX9, rfl, by decide +kernel⟩
theorem Fg_RX9_13 : fh_F RX9 13 9 1 := ⟨RX9, TX9, 4, rfl, by decide, fh_at 221 (by decide +kernel) rfl, ix_9, rfl, by decide⟩
theorem Fp_RX9_13 : fh_Fw RX9 13 9 1 (.long) := ⟨RX9, TX9, 4, tyX9, rfl, by decide, fh_at 221 (by decide +kernel) rfl, ix_9, rfl, by decide, tyX9_ok, nmX9, rfl, by decide +kernel⟩
theorem Fg_RX9_16 : fh_F RX9 16 9 2 := ⟨RX9, TX9, 4, rfl, by decide, fh_at 222 (by decide +kernel) rfl, ix_9, rfl, by decide⟩
theorem Fp_RX9_16 : fh_Fw RX9 16 9 2 (.long) := ⟨RX9, TX9, 4, tyX9, rfl, by decide, fh_at 222 (by decide +kernel) rfl, ix_9, rfl, by decide, tyX9_ok, nmX9, rfl, by decide +kernel⟩
theorem Fg_RX9_30 : fh_F RX9 30 9 3 := ⟨RX9, TX9, 4, rfl, by decide, fh_at 224 (by decide +kernel) rfl, ix_9, rfl, by decide⟩
theorem Fp_RX9_30 : fh_Fw RX9 30 9 3 (.long) := ⟨RX9, TX9, 4, tyX9, rfl, by decide, fh_at 224 (by decide +kernel) rfl, ix_9, rfl, by decide, tyX9_ok, nmX9, rfl, by decide +kernel⟩
theorem Fg_RX10_9 : fh_F RX10 9 10 0 := ⟨RX10, TX10, 9, rfl, by decide, fh_at 267 (by decide +kernel) rfl, ix_10, rfl, by decide⟩
theorem Fg_RX10_15 : fh_F RX10 15 10 1 := ⟨RX10, TX10, 9, rfl, by decide, fh_at 268 (by decide +kernel) rfl, ix_10, rfl, by decide⟩
theorem Fg_RX10_18 : fh_F RX10 18 10 2 := ⟨RX10, TX10, 9, rfl, by decide, fh_at 269 (by decide +kernel) rfl, ix_10, rfl, by decide⟩
theorem Fg_RX10_21 : fh_F RX10 21 10 3 := ⟨RX10, TX10, 9, rfl, by decide, fh_at 270 (by decide +kernel) rfl, ix_10, rfl, by decide⟩
theorem Fg_RX10_24 : fh_F RX10 24 10 8 := ⟨RX10, TX10, 9, rfl, by decide, fh_at 278 (by decide +kernel) rfl, ix_10, rfl, by decide⟩
theorem Fp_RX10_24 : fh_Fw RX10 24 10 8 (.int) := ⟨RX10, TX10, 9, tyX10, rfl, by decide, fh_at 278 (by decide +kernel) rfl, ix_10, rfl, by decide, tyX10_ok, nmX10, rfl, by decide +kernel⟩
theorem Fg_RX10_32 : fh_F RX10 32 10 6 := ⟨RX10, TX10, 9, rfl, by decide, fh_at 274 (by decide +kernel) rfl, ix_10, rfl, by decide⟩
theorem Fp_RX10_32 : fh_Fw RX10 32 10 6 (.int) := ⟨RX10, TX10, 9, tyX10, rfl, by decide, fh_at 274 (by decide +kernel) rfl, ix_10, rfl, by decide, tyX10_ok, nmX10, rfl, by decide +kernel⟩
theorem Fg_RX10_35 : fh_F RX10 35 10 7 := ⟨RX10, TX10, 9, rfl, by decide, fh_at 277 (by decide +kernel) rfl, ix_10, rfl, by decide⟩
theorem Fp_RX10_35 : fh_Fw RX10 35 10 7 (.int) := ⟨RX10, TX10, 9, tyX10, rfl, by decide, fh_at 277 (by decide +kernel) rfl, ix_10, rfl, by decide, tyX10_ok, nmX10, rfl, by decide +kernel⟩
theorem Fg_RX10_38 : fh_F RX10 38 10 4 := ⟨RX10, TX10, 9, rfl, by decide, fh_at 271 (by decide +kernel) rfl, ix_10, rfl, by decide⟩
theorem Fp_RX10_38 : fh_Fw RX10 38 10 4 (.int) := ⟨RX10, TX10, 9, tyX10, rfl, by decide, fh_at 271 (by decide +kernel) rfl, ix_10, rfl, by decide, tyX10_ok, nmX10, rfl, by decide +kernel⟩
theorem Fg_RX10_41 : fh_F RX10 41 10 5 := ⟨RX10, TX10, 9, rfl, by decide, fh_at 272 (by decide +kernel) rfl, ix_10, rfl, by decide⟩
theorem Fp_RX10_41 : fh_Fw RX10 41 10 5 (.int) := ⟨RX10, TX10, 9, tyX10, rfl, by decide, fh_at 272 (by decide +kernel) rfl, ix_10, rfl, by decide, tyX10_ok, nmX10, rfl, by decide +kernel⟩
theorem Fg_RX12_9 : fh_F RX12 9 12 0 := ⟨RX12, TX12, 49, rfl, by decide, fh_at 1290 (by decide +kernel) rfl, ix_12, rfl, by decide⟩
theorem Fg_RX12_13 : fh_F RX12 13 12 1 := ⟨RX12, TX12, 49, rfl, by decide, fh_at 1291 (by decide +kernel) rfl, ix_12, rfl, by decide⟩
theorem Fg_RX12_16 : fh_F RX12 16 12 4 := ⟨RX12, TX12, 49, rfl, by decide, fh_at 1294 (by decide +kernel) rfl, ix_12, rfl, by decide⟩
theorem Fg_RX12_19 : fh_F RX12 19 12 5 := ⟨RX12, TX12, 49, rfl, by decide, fh_at 1295 (by decide +kernel) rfl, ix_12, rfl, by decide⟩
theorem Fg_RX12_22 : fh_F RX12 22 12 6 := ⟨RX12, TX12, 49, rfl, by decide, fh_at 1296 (by decide +kernel) rfl, ix_12, rfl, by decide⟩
theorem Fg_RX12_25 : fh_F RX12 25 12 7 := ⟨RX12, TX12, 49, rfl, by decide, fh_at 1297 (by decide +kernel) rfl, ix_12, rfl, by decide⟩
theorem Fg_RX12_28 : fh_F RX12 28 12 8 := ⟨RX12, TX12, 49, rfl, by decide, fh_at 1298 (by decide +kernel) rfl, ix_12, rfl, by decide⟩
theorem Fg_RX12_31 : fh_F RX12 31 12 9 := ⟨RX12, TX12, 49, rfl, by decide, fh_at 1299 (by decide +kernel) rfl, ix_12, rfl, by decide⟩
theorem Fg_RX12_34 : fh_F RX12 34 12 10 := ⟨RX12, TX12, 49, rfl, by decide, fh_at 1300 (by decide +kernel) rfl, ix_12, rfl, by decide⟩
theorem Fg_RX12_38 : fh_F RX12 38 12 11 := ⟨RX12, TX12, 49, rfl, by decide, fh_at 1301 (by decide +kernel) rfl, ix_12, rfl, by decide⟩
theorem Fg_RX12_41 : fh_F RX12 41 12 13 := ⟨RX12, TX12, 49, rfl, by decide, fh_at 1303 (by decide +kernel) rfl, ix_12, rfl, by decide⟩
theorem Fg_RX12_44 : fh_F RX12 44 12 14 := ⟨RX12, TX12, 49, rfl, by decide, fh_at 1304 (by decide +kernel) rfl, ix_12, rfl, by decide⟩
theorem Fg_RX12_47 : fh_F RX12 47 12 26 := ⟨RX12, TX12, 49, rfl, by decide, fh_at 1316 (by decide +kernel) rfl, ix_12, rfl, by decide⟩
theorem Fg_RX12_50 : fh_F RX12 50 12 27 := ⟨RX12, TX12, 49, rfl, by decide, fh_at 1317 (by decide +kernel) rfl, ix_12, rfl, by decide⟩
theorem Fg_RX12_53 : fh_F RX12 53 12 31 := ⟨RX12, TX12, 49, rfl, by decide, fh_at 1321 (by decide +kernel) rfl, ix_12, rfl, by decide⟩
theorem Fg_RX12_56 : fh_F RX12 56 12 33 := ⟨RX12, TX12, 49, rfl, by decide, fh_at 1323 (by decide +kernel) rfl, ix_12, rfl, by decide⟩
theorem Fg_RX12_59 : fh_F RX12 59 12 34 := ⟨RX12, TX12, 49, rfl, by decide, fh_at 1324 (by decide +kernel) rfl, ix_12, rfl, by decide⟩
theorem Fg_RX12_62 : fh_F RX12 62 12 43 := ⟨RX12, TX12, 49, rfl, by decide, fh_at 1333 (by decide +kernel) rfl, ix_12, rfl, by decide⟩
theorem Fp_RX12_62 : fh_Fw RX12 62 12 43 (.int) := ⟨RX12, TX12, 49, tyX12, rfl, by decide, fh_at 1333 (by decide +kernel) rfl, ix_12, rfl, by decide, tyX12_ok, nmX12, rfl, by decide +kernel⟩
theorem Fg_RX12_73 : fh_F RX12 73 12 3 := ⟨RX12, TX12, 49, rfl, by decide, fh_at 1293 (by decide +kernel) rfl, ix_12, rfl, by decide⟩
theorem Fp_RX12_73 : fh_Fw RX12 73 12 3 (.int) := ⟨RX12, TX12, 49, tyX12, rfl, by decide, fh_at 1293 (by decide +kernel) rfl, ix_12, rfl, by decide, tyX12_ok, nmX12, rfl, by decide +kernel⟩
theorem Fg_RX12_124 : fh_F RX12 124 12 12 := ⟨RX12, TX12, 49, rfl, by decide, fh_at 1302 (by decide +kernel) rfl, ix_12, rfl, by decide⟩
theorem Fp_RX12_124 : fh_Fw RX12 124 12 12 (.long) := ⟨RX12, TX12, 49, tyX12, rfl, by decide, fh_at 1302 (by decide +kernel) rfl, ix_12, rfl, by decide, tyX12_ok, nmX12, rfl, by decide +kernel⟩
theorem Fg_RX12_141 : fh_F RX12 141 12 16 := ⟨RX12, TX12, 49, rfl, by decide, fh_at 1306 (by decide +kernel) rfl, ix_12, rfl, by decide⟩
theorem Fp_RX12_141 : fh_Fw RX12 141 12 16 (.boolean) := ⟨RX12, TX12, 49, tyX12, rfl, by decide, fh_at 1306 (by decide +kernel) rfl, ix_12, rfl, by decide, tyX12_ok, nmX12, rfl, by decide +kernel⟩
theorem Fg_RX12_149 : fh_F RX12 149 12 20 := ⟨RX12, TX12, 49, rfl, by decide, fh_at 1310 (by decide +kernel) rfl, ix_12, rfl, by decide⟩
theorem Fp_RX12_149 : fh_Fw RX12 149 12 20 (.int) := ⟨RX12, TX12, 49, tyX12, rfl, by decide, fh_at 1310 (by decide +kernel) rfl, ix_12, rfl, by decide, tyX12_ok, nmX12, rfl, by decide +kernel⟩
theorem Fg_RX12_152 : fh_F RX12 152 12 21 := ⟨RX12, TX12, 49, rfl, by decide, fh_at 1311 (by decide +kernel) rfl, ix_12, rfl, by decide⟩
theorem Fp_RX12_152 : fh_Fw RX12 152 12 21 (.int) := ⟨RX12, TX12, 49, tyX12, rfl, by decide, fh_at 1311 (by decide +kernel) rfl, ix_12, rfl, by decide, tyX12_ok, nmX12, rfl, by decide +kernel⟩
theorem Fg_RX12_155 : fh_F RX12 155 12 15 := ⟨RX12, TX12, 49, rfl, by decide, fh_at 1305 (by decide +kernel) rfl, ix_12, rfl, by decide⟩
theorem Fp_RX12_155 : fh_Fw RX12 155 12 15 (.boolean) := ⟨RX12, TX12, 49, tyX12, rfl, by decide, fh_at 1305 (by decide +kernel) rfl, ix_12, rfl, by decide, tyX12_ok, nmX12, rfl, by decide +kernel⟩
theorem Fg_RX12_158 : fh_F RX12 158 12 17 := ⟨RX12, TX12, 49, rfl, by decide, fh_at 1307 (by decide +kernel) rfl, ix_12, rfl, by decide⟩
theorem Fp_RX12_158 : fh_Fw RX12 158 12 17 (.boolean) := ⟨RX12, TX12, 49, tyX12, rfl, by decide, fh_at 1307 (by decide +kernel) rfl, ix_12, rfl, by decide, tyX12_ok, nmX12, rfl, by decide +kernel⟩
theorem Fg_RX12_161 : fh_F RX12 161 12 18 := ⟨RX12, TX12, 49, rfl, by decide, fh_at 1308 (by decide +kernel) rfl, ix_12, rfl, by decide⟩
theorem Fp_RX12_161 : fh_Fw RX12 161 12 18 (.boolean) := ⟨RX12, TX12, 49, tyX12, rfl, by decide, fh_at 1308 (by decide +kernel) rfl, ix_12, rfl, by decide, tyX12_ok, nmX12, rfl, by decide +kernel⟩
theorem Fg_RX12_164 : fh_F RX12 164 12 19 := ⟨RX12, TX12, 49, rfl, by decide, fh_at 1309 (by decide +kernel) rfl, ix_12, rfl, by decide⟩
theorem Fp_RX12_164 : fh_Fw RX12 164 12 19 (.boolean) := ⟨RX12, TX12, 49, tyX12, rfl, by decide, fh_at 1309 (by decide +kernel) rfl, ix_12, rfl, by decide, tyX12_ok, nmX12, rfl, by decide +kernel⟩
theorem Fg_RX12_167 : fh_F RX12 167 12 22 := ⟨RX12, TX12, 49, rfl, by decide, fh_at 1312 (by decide +kernel) rfl, ix_12, rfl, by decide⟩
theorem Fp_RX12_167 : fh_Fw RX12 167 12 22 (.int) := ⟨RX12, TX12, 49, tyX12, rfl, by decide, fh_at 1312 (by decide +kernel) rfl, ix_12, rfl, by decide, tyX12_ok, nmX12, rfl, by decide +kernel⟩
theorem Fg_RX12_170 : fh_F RX12 170 12 23 := ⟨RX12, TX12, 49, rfl, by decide, fh_at 1313 (by decide +kernel) rfl, ix_12, rfl, by decide⟩
theorem Fp_RX12_170 : fh_Fw RX12 170 12 23 (.int) := ⟨RX12, TX12, 49, tyX12, rfl, by decide, fh_at 1313 (by decide +kernel) rfl, ix_12, rfl, by decide, tyX12_ok, nmX12, rfl, by decide +kernel⟩
theorem Fg_RX12_173 : fh_F RX12 173 12 24 := ⟨RX12, TX12, 49, rfl, by decide, fh_at 1314 (by decide +kernel) rfl, ix_12, rfl, by decide⟩
theorem Fp_RX12_173 : fh_Fw RX12 173 12 24 (.int) := ⟨RX12, TX12, 49, tyX12, rfl, by decide, fh_at 1314 (by decide +kernel) rfl, ix_12, rfl, by decide, tyX12_ok, nmX12, rfl, by decide +kernel⟩
theorem Fg_RX12_238 : fh_F RX12 238 12 25 := ⟨RX12, TX12, 49, rfl, by decide, fh_at 1315 (by decide +kernel) rfl, ix_12, rfl, by decide⟩
theorem Fp_RX12_238 : fh_Fw RX12 238 12 25 (.long) := ⟨RX12, TX12, 49, tyX12, rfl, by decide, fh_at 1315 (by decide +kernel) rfl, ix_12, rfl, by decide, tyX12_ok, nmX12, rfl, by decide +kernel⟩
theorem Fg_RX12_258 : fh_F RX12 258 12 2 := ⟨RX12, TX12, 49, rfl, by decide, fh_at 1292 (by decide +kernel) rfl, ix_12, rfl, by decide⟩
theorem Fp_RX12_258 : fh_Fw RX12 258 12 2 (.int) := ⟨RX12, TX12, 49, tyX12, rfl, by decide, fh_at 1292 (by decide +kernel) rfl, ix_12, rfl, by decide, tyX12_ok, nmX12, rfl, by decide +kernel⟩
theorem Fg_RX12_289 : fh_F RX12 289 12 35 := ⟨RX12, TX12, 49, rfl, by decide, fh_at 1325 (by decide +kernel) rfl, ix_12, rfl, by decide⟩
theorem Fp_RX12_289 : fh_Fw RX12 289 12 35 (.int) := ⟨RX12, TX12, 49, tyX12, rfl, by decide, fh_at 1325 (by decide +kernel) rfl, ix_12, rfl, by decide, tyX12_ok, nmX12, rfl, by decide +kernel⟩
theorem Fg_RX12_323 : fh_F RX12 323 12 28 := ⟨RX12, TX12, 49, rfl, by decide, fh_at 1318 (by decide +kernel) rfl, ix_12, rfl, by decide⟩
theorem Fp_RX12_323 : fh_Fw RX12 323 12 28 (.int) := ⟨RX12, TX12, 49, tyX12, rfl, by decide, fh_at 1318 (by decide +kernel) rfl, ix_12, rfl, by decide, tyX12_ok, nmX12, rfl, by decide +kernel⟩
theorem Fg_RX12_338 : fh_F RX12 338 12 29 := ⟨RX12, TX12, 49, rfl, by decide, fh_at 1319 (by decide +kernel) rfl, ix_12, rfl, by decide⟩
theorem Fp_RX12_338 : fh_Fw RX12 338 12 29 (.int) := ⟨RX12, TX12, 49, tyX12, rfl, by decide, fh_at 1319 (by decide +kernel) rfl, ix_12, rfl, by decide, tyX12_ok, nmX12, rfl, by decide +kernel⟩
theorem Fg_RX12_341 : fh_F RX12 341 12 30 := ⟨RX12, TX12, 49, rfl, by decide, fh_at 1320 (by decide +kernel) rfl, ix_12, rfl, by decide⟩
theorem Fp_RX12_341 : fh_Fw RX12 341 12 30 (.int) := ⟨RX12, TX12, 49, tyX12, rfl, by decide, fh_at 1320 (by decide +kernel) rfl, ix_12, rfl, by decide, tyX12_ok, nmX12, rfl, by decide +kernel⟩
theorem Fg_RX12_361 : fh_F RX12 361 12 32 := ⟨RX12, TX12, 49, rfl, by decide, fh_at 1322 (by decide +kernel) rfl, ix_12, rfl, by decide⟩
theorem Fp_RX12_361 : fh_Fw RX12 361 12 32 (.int) := ⟨RX12, TX12, 49, tyX12, rfl, by decide, fh_at 1322 (by decide +kernel) rfl, ix_12, rfl, by decide, tyX12_ok, nmX12, rfl, by decide +kernel⟩
theorem Fg_RX12_386 : fh_F RX12 386 12 36 := ⟨RX12, TX12, 49, rfl, by decide, fh_at 1326 (by decide +kernel) rfl, ix_12, rfl, by decide⟩
theorem Fp_RX12_386 : fh_Fw RX12 386 12 36 (.int) := ⟨RX12, TX12, 49, tyX12, rfl, by decide, fh_at 1326 (by decide +kernel) rfl, ix_12, rfl, by decide, tyX12_ok, nmX12, rfl, by decide +kernel⟩
theorem Fg_RX12_389 : fh_F RX12 389 12 37 := ⟨RX12, TX12, 49, rfl, by decide, fh_at 1327 (by decide +kernel) rfl, ix_12, rfl, by decide⟩
theorem Fp_RX12_389 : fh_Fw RX12 389 12 37 (.int) := ⟨RX12, TX12, 49, tyX12, rfl, by decide, fh_at 1327 (by decide +kernel) rfl, ix_12, rfl, by decide, tyX12_ok, nmX12, rfl, by decide +kernel⟩
theorem Fg_RX12_395 : fh_F RX12 395 12 39 := ⟨RX12, TX12, 49, rfl, by decide, fh_at 1329 (by decide +kernel) rfl, ix_12, rfl, by decide⟩
theorem Fp_RX12_395 : fh_Fw RX12 395 12 39 (.int) := ⟨RX12, TX12, 49, tyX12, rfl, by decide, fh_at 1329 (by decide +kernel) rfl, ix_12, rfl, by decide, tyX12_ok, nmX12, rfl, by decide +kernel⟩
theorem Fg_RX12_398 : fh_F RX12 398 12 38 := ⟨RX12, TX12, 49, rfl, by decide, fh_at 1328 (by decide +kernel) rfl, ix_12, rfl, by decide⟩
theorem Fp_RX12_398 : fh_Fw RX12 398 12 38 (.int) := ⟨RX12, TX12, 49, tyX12, rfl, by decide, fh_at 1328 (by decide +kernel) rfl, ix_12, rfl, by decide, tyX12_ok, nmX12, rfl, by decide +kernel⟩
theorem Fg_RX12_407 : fh_F RX12 407 12 40 := ⟨RX12, TX12, 49, rfl, by decide, fh_at 1330 (by decide +kernel) rfl, ix_12, rfl, by decide⟩
theorem Fp_RX12_407 : fh_Fw RX12 407 12 40 (.int) := ⟨RX12, TX12, 49, tyX12, rfl, by decide, fh_at 1330 (by decide +kernel) rfl, ix_12, rfl, by decide, tyX12_ok, nmX12, rfl, by decide +kernel⟩
theorem Fg_RX12_410 : fh_F RX12 410 12 41 := ⟨RX12, TX12, 49, rfl, by decide, fh_at 1331 (by decide +kernel) rfl, ix_12, rfl, by decide⟩
theorem Fp_RX12_410 : fh_Fw RX12 410 12 41 (.int) := ⟨RX12, TX12, 49, tyX12, rfl, by decide, fh_at 1331 (by decide +kernel) rfl, ix_12, rfl, by decide, tyX12_ok, nmX12, rfl, by decide +kernel⟩
theorem Fg_RX12_413 : fh_F RX12 413 12 44 := ⟨RX12, TX12, 49, rfl, by decide, fh_at 1334 (by decide +kernel) rfl, ix_12, rfl, by decide⟩
theorem Fp_RX12_413 : fh_Fw RX12 413 12 44 (.int) := ⟨RX12, TX12, 49, tyX12, rfl, by decide, fh_at 1334 (by decide +kernel) rfl, ix_12, rfl, by decide, tyX12_ok, nmX12, rfl, by decide +kernel⟩
theorem Fg_RX12_419 : fh_F RX12 419 12 42 := ⟨RX12, TX12, 49, rfl, by decide, fh_at 1332 (by decide +kernel) rfl, ix_12, rfl, by decide⟩
theorem Fp_RX12_419 : fh_Fw RX12 419 12 42 (.int) := ⟨RX12, TX12, 49, tyX12, rfl, by decide, fh_at 1332 (by decide +kernel) rfl, ix_12, rfl, by decide, tyX12_ok, nmX12, rfl, by decide +kernel⟩
theorem Fg_RX12_441 : fh_F RX12 441 12 45 := ⟨RX12, TX12, 49, rfl, by decide, fh_at 1335 (by decide +kernel) rfl, ix_12, rfl, by decide⟩
theorem Fp_RX12_441 : fh_Fw RX12 441 12 45 (.int) := ⟨RX12, TX12, 49, tyX12, rfl, by decide, fh_at 1335 (by decide +kernel) rfl, ix_12, rfl, by decide, tyX12_ok, nmX12, rfl, by decide +kernel⟩
theorem Fg_RX12_444 : fh_F RX12 444 12 46 := ⟨RX12, TX12, 49, rfl, by decide, fh_at 1336 (by decide +kernel) rfl, ix_12, rfl, by decide⟩
theorem Fp_RX12_444 : fh_Fw RX12 444 12 46 (.int) := ⟨RX12, TX12, 49, tyX12, rfl, by decide, fh_at 1336 (by decide +kernel) rfl, ix_12, rfl, by decide, tyX12_ok, nmX12, rfl, by decide +kernel⟩
theorem Fg_RX12_474 : fh_F RX12 474 12 48 := ⟨RX12, TX12, 49, rfl, by decide, fh_at 1338 (by decide +kernel) rfl, ix_12, rfl, by decide⟩
theorem Fp_RX12_474 : fh_Fw RX12 474 12 48 (.int) := ⟨RX12, TX12, 49, tyX12, rfl, by decide, fh_at 1338 (by decide +kernel) rfl, ix_12, rfl, by decide, tyX12_ok, nmX12, rfl, by decide +kernel⟩
theorem Fg_RX12_484 : fh_F RX12 484 12 47 := ⟨RX12, TX12, 49, rfl, by decide, fh_at 1337 (by decide +kernel) rfl, ix_12, rfl, by decide⟩
theorem Fp_RX12_484 : fh_Fw RX12 484 12 47 (.int) := ⟨RX12, TX12, 49, tyX12, rfl, by decide, fh_at 1337 (by decide +kernel) rfl, ix_12, rfl, by decide, tyX12_ok, nmX12, rfl, by decide +kernel⟩
theorem Y_X0_init : fh_Y yX0_init cX0_init 1 none 0 := ⟨fh_at 160 (by decide +kernel) rfl, fh_at 6 (by decide +kernel) rfl, by decide +kernel, by decide +kernel, by decide +kernel⟩
theorem Y_X0_become : fh_Y yX0_become cX0_become 9 none 4 := ⟨fh_at 776 (by decide +kernel) rfl, fh_at 6 (by decide +kernel) rfl, by decide +kernel, by decide +kernel, by decide +kernel⟩
theorem YV_X0_become : fh_YV yX0_become := ⟨fh_at 774 (by decide +kernel) rfl, fh_at 775 (by decide +kernel) rfl⟩
theorem Y_X0_readFirst : fh_Y yX0_readFirst cX0_readFirst 2 none 1 := ⟨fh_at 834 (by decide +kernel) rfl, fh_at 6 (by decide +kernel) rfl, by decide +kernel, by decide +kernel, by decide +kernel⟩
theorem YV_X0_readFirst : fh_YV yX0_readFirst := ⟨fh_at 832 (by decide +kernel) rfl, fh_at 833 (by decide +kernel) rfl⟩
theorem Y_X0_readSecond : fh_Y yX0_readSecond cX0_readSecond 2 none 1 := ⟨fh_at 846 (by decide +kernel) rfl, fh_at 6 (by decide +kernel) rfl, by decide +kernel, by decide +kernel, by decide +kernel⟩
theorem YV_X0_readSecond : fh_YV yX0_readSecond := ⟨fh_at 844 (by decide +kernel) rfl, fh_at 845 (by decide +kernel) rfl⟩
theorem Y_X0_endFirst : fh_Y yX0_endFirst cX0_endFirst 1 none 0 := ⟨fh_at 826 (by decide +kernel) rfl, fh_at 6 (by decide +kernel) rfl, by decide +kernel, by decide +kernel, by decide +kernel⟩
theorem YV_X0_endFirst : fh_YV yX0_endFirst := ⟨fh_at 824 (by decide +kernel) rfl, fh_at 825 (by decide +kernel) rfl⟩
theorem Y_X0_endSecond : fh_Y yX0_endSecond cX0_endSecond 1 none 0 := ⟨fh_at 842 (by decide +kernel) rfl, fh_at 6 (by decide +kernel) rfl, by decide +kernel, by decide +kernel, by decide +kernel⟩
theorem YV_X0_endSecond : fh_YV yX0_endSecond := ⟨fh_at 840 (by decide +kernel) rfl, fh_at 841 (by decide +kernel) rfl⟩
theorem Y_X0_subtract : fh_Y yX0_subtract cX0_subtract 4 none 2 := ⟨fh_at 795 (by decide +kernel) rfl, fh_at 6 (by decide +kernel) rfl, by decide +kernel, by decide +kernel, by decide +kernel⟩
theorem YV_X0_subtract : fh_YV yX0_subtract := ⟨fh_at 793 (by decide +kernel) rfl, fh_at 794 (by decide +kernel) rfl⟩
theorem Y_X0_isBeyond : fh_Y yX0_isBeyond cX0_isBeyond 1 (some .boolean) 0 := ⟨fh_at 807 (by decide +kernel) rfl, fh_at 6 (by decide +kernel) rfl, by decide +kernel, by decide +kernel, by decide +kernel⟩
theorem YV_X0_isBeyond : fh_YV yX0_isBeyond := ⟨fh_at 805 (by decide +kernel) rfl, fh_at 806 (by decide +kernel) rfl⟩
theorem Y_X1_init : fh_Y yX1_init cX1_init 2 none 0 := ⟨fh_at 130 (by decide +kernel) rfl, fh_at 4 (by decide +kernel) rfl, by decide +kernel, by decide +kernel, by decide +kernel⟩
theorem Y_X1_keep : fh_Y yX1_keep cX1_keep 3 none 1 := ⟨fh_at 414 (by decide +kernel) rfl, fh_at 4 (by decide +kernel) rfl, by decide +kernel, by decide +kernel, by decide +kernel⟩
theorem YV_X1_keep : fh_YV yX1_keep := ⟨fh_at 412 (by decide +kernel) rfl, fh_at 413 (by decide +kernel) rfl⟩
theorem Y_X1_takeBack : fh_Y yX1_takeBack cX1_takeBack 3 (some (.object "TermRows$Row")) 0 := ⟨fh_at 453 (by decide +kernel) rfl, fh_at 4 (by decide +kernel) rfl, by decide +kernel, by decide +kernel, by decide +kernel⟩
theorem YV_X1_takeBack : fh_YV yX1_takeBack := ⟨fh_at 451 (by decide +kernel) rfl, fh_at 452 (by decide +kernel) rfl⟩
theorem Y_X1_swap : fh_Y yX1_swap cX1_swap 4 none 2 := ⟨fh_at 418 (by decide +kernel) rfl, fh_at 4 (by decide +kernel) rfl, by decide +kernel, by decide +kernel, by decide +kernel⟩
theorem YV_X1_swap : fh_YV yX1_swap := ⟨fh_at 417 (by decide +kernel) rfl, fh_atp (n := 4) 3 (by decide +kernel)⟩
theorem Y_X2_init : fh_Y yX2_init cX2_init 1 none 0 := ⟨fh_at 238 (by decide +kernel) rfl, fh_at 8 (by decide +kernel) rfl, by decide +kernel, by decide +kernel, by decide +kernel⟩
theorem Y_X2_start : fh_Y yX2_start cX2_start 1 none 0 := ⟨fh_at 982 (by decide +kernel) rfl, fh_at 8 (by decide +kernel) rfl, by decide +kernel, by decide +kernel, by decide +kernel⟩
theorem YV_X2_start : fh_YV yX2_start := ⟨fh_at 980 (by decide +kernel) rfl, fh_at 981 (by decide +kernel) rfl⟩
theorem Y_X2_climb : fh_Y yX2_climb cX2_climb 4 none 2 := ⟨fh_at 978 (by decide +kernel) rfl, fh_at 8 (by decide +kernel) rfl, by decide +kernel, by decide +kernel, by decide +kernel⟩
theorem YV_X2_climb : fh_YV yX2_climb := ⟨fh_at 976 (by decide +kernel) rfl, fh_at 977 (by decide +kernel) rfl⟩
theorem Y_X2_climbOne : fh_Y yX2_climbOne cX2_climbOne 6 none 1 := ⟨fh_at 987 (by decide +kernel) rfl, fh_at 8 (by decide +kernel) rfl, by decide +kernel, by decide +kernel, by decide +kernel⟩
theorem YV_X2_climbOne : fh_YV yX2_climbOne := ⟨fh_at 985 (by decide +kernel) rfl, fh_at 986 (by decide +kernel) rfl⟩
theorem Y_X3_init : fh_Y yX3_init cX3_init 1 none 0 := ⟨fh_at 44 (by decide +kernel) rfl, fh_at 3 (by decide +kernel) rfl, by decide +kernel, by decide +kernel, by decide +kernel⟩
theorem Y_X3_become : fh_Y yX3_become cX3_become 8 none 7 := ⟨fh_at 430 (by decide +kernel) rfl, fh_at 3 (by decide +kernel) rfl, by decide +kernel, by decide +kernel, by decide +kernel⟩
theorem YV_X3_become : fh_YV yX3_become := ⟨fh_at 428 (by decide +kernel) rfl, fh_at 429 (by decide +kernel) rfl⟩
theorem Y_X4_init : fh_Y yX4_init cX4_init 2 none 1 := ⟨fh_at 323 (by decide +kernel) rfl, fh_at 11 (by decide +kernel) rfl, by decide +kernel, by decide +kernel, by decide +kernel⟩
theorem Y_X4_answer : fh_Y yX4_answer cX4_answer 5 (some .int) 1 := ⟨fh_at 855 (by decide +kernel) rfl, fh_at 11 (by decide +kernel) rfl, by decide +kernel, by decide +kernel, by decide +kernel⟩
theorem YV_X4_answer : fh_YV yX4_answer := ⟨fh_at 853 (by decide +kernel) rfl, fh_at 854 (by decide +kernel) rfl⟩
theorem Y_X4_firstPlace : fh_Y yX4_firstPlace cX4_firstPlace 3 (some .int) 1 := ⟨fh_at 897 (by decide +kernel) rfl, fh_at 11 (by decide +kernel) rfl, by decide +kernel, by decide +kernel, by decide +kernel⟩
theorem YS_X4_firstPlace : Cond.static yX4_firstPlace ∈ fh_U := fh_at 896 (by decide +kernel) rfl
theorem Y_X4_parseTest : fh_Y yX4_parseTest cX4_parseTest 7 (some .long) 1 := ⟨fh_at 862 (by decide +kernel) rfl, fh_at 11 (by decide +kernel) rfl, by decide +kernel, by decide +kernel, by decide +kernel⟩
theorem YV_X4_parseTest : fh_YV yX4_parseTest := ⟨fh_at 861 (by decide +kernel) rfl, fh_atp (n := 3) 26 (by decide +kernel)⟩
theorem Y_X4_parseFact : fh_Y yX4_parseFact cX4_parseFact 5 (some .long) 1 := ⟨fh_at 866 (by decide +kernel) rfl, fh_at 11 (by decide +kernel) rfl, by decide +kernel, by decide +kernel, by decide +kernel⟩
theorem YV_X4_parseFact : fh_YV yX4_parseFact := ⟨fh_at 865 (by decide +kernel) rfl, fh_atp (n := 3) 27 (by decide +kernel)⟩
theorem Y_X4_parseComparison : fh_Y yX4_parseComparison cX4_parseComparison 15 (some .long) 0 := ⟨fh_at 871 (by decide +kernel) rfl, fh_at 11 (by decide +kernel) rfl, by decide +kernel, by decide +kernel, by decide +kernel⟩
theorem YV_X4_parseComparison : fh_YV yX4_parseComparison := ⟨fh_at 870 (by decide +kernel) rfl, fh_atp (n := 3) 28 (by decide +kernel)⟩
theorem Y_X4_parseValueCode : fh_Y yX4_parseValueCode cX4_parseValueCode 2 (some .int) 0 := ⟨fh_at 875 (by decide +kernel) rfl, fh_at 11 (by decide +kernel) rfl, by decide +kernel, by decide +kernel, by decide +kernel⟩
theorem YV_X4_parseValueCode : fh_YV yX4_parseValueCode := ⟨fh_at 874 (by decide +kernel) rfl, fh_atp (n := 3) 29 (by decide +kernel)⟩
theorem Y_X4_parseCompareSign : fh_Y yX4_parseCompareSign cX4_parseCompareSign 1 (some .int) 0 := ⟨fh_at 880 (by decide +kernel) rfl, fh_at 11 (by decide +kernel) rfl, by decide +kernel, by decide +kernel, by decide +kernel⟩
theorem YV_X4_parseCompareSign : fh_YV yX4_parseCompareSign := ⟨fh_at 879 (by decide +kernel) rfl, fh_atp (n := 3) 30 (by decide +kernel)⟩
theorem Y_X4_valueAt : fh_Y yX4_valueAt cX4_valueAt 5 (some .long) 3 := ⟨fh_at 886 (by decide +kernel) rfl, fh_at 11 (by decide +kernel) rfl, by decide +kernel, by decide +kernel, by decide +kernel⟩
theorem YV_X4_valueAt : fh_YV yX4_valueAt := ⟨fh_at 885 (by decide +kernel) rfl, fh_atp (n := 3) 31 (by decide +kernel)⟩
theorem Y_X5_init : fh_Y yX5_init cX5_init 1 none 0 := ⟨fh_at 154 (by decide +kernel) rfl, fh_at 5 (by decide +kernel) rfl, by decide +kernel, by decide +kernel, by decide +kernel⟩
theorem Y_X5_startSingle : fh_Y yX5_startSingle cX5_startSingle 6 none 5 := ⟨fh_at 768 (by decide +kernel) rfl, fh_at 5 (by decide +kernel) rfl, by decide +kernel, by decide +kernel, by decide +kernel⟩
theorem YV_X5_startSingle : fh_YV yX5_startSingle := ⟨fh_at 766 (by decide +kernel) rfl, fh_at 767 (by decide +kernel) rfl⟩
theorem Y_X5_startDouble : fh_Y yX5_startDouble cX5_startDouble 4 none 3 := ⟨fh_at 850 (by decide +kernel) rfl, fh_at 5 (by decide +kernel) rfl, by decide +kernel, by decide +kernel, by decide +kernel⟩
theorem YV_X5_startDouble : fh_YV yX5_startDouble := ⟨fh_at 848 (by decide +kernel) rfl, fh_at 849 (by decide +kernel) rfl⟩
theorem Y_X5_begin : fh_Y yX5_begin cX5_begin 3 none 2 := ⟨fh_at 772 (by decide +kernel) rfl, fh_at 5 (by decide +kernel) rfl, by decide +kernel, by decide +kernel, by decide +kernel⟩
theorem YV_X5_begin : fh_YV yX5_begin := ⟨fh_at 771 (by decide +kernel) rfl, fh_atp (n := 11) 21 (by decide +kernel)⟩
theorem Y_X5_run : fh_Y yX5_run cX5_run 5 none 2 := ⟨fh_at 780 (by decide +kernel) rfl, fh_at 5 (by decide +kernel) rfl, by decide +kernel, by decide +kernel, by decide +kernel⟩
theorem YV_X5_run : fh_YV yX5_run := ⟨fh_at 778 (by decide +kernel) rfl, fh_at 779 (by decide +kernel) rfl⟩
theorem Y_X5_isSure : fh_Y yX5_isSure cX5_isSure 13 (some .boolean) 0 := ⟨fh_at 784 (by decide +kernel) rfl, fh_at 5 (by decide +kernel) rfl, by decide +kernel, by decide +kernel, by decide +kernel⟩
theorem YV_X5_isSure : fh_YV yX5_isSure := ⟨fh_at 783 (by decide +kernel) rfl, fh_atp (n := 11) 22 (by decide +kernel)⟩
theorem Y_X5_letOut : fh_Y yX5_letOut cX5_letOut 3 (some .int) 1 := ⟨fh_at 789 (by decide +kernel) rfl, fh_at 5 (by decide +kernel) rfl, by decide +kernel, by decide +kernel, by decide +kernel⟩
theorem YV_X5_letOut : fh_YV yX5_letOut := ⟨fh_at 788 (by decide +kernel) rfl, fh_atp (n := 11) 23 (by decide +kernel)⟩
theorem Y_X5_readFirst : fh_Y yX5_readFirst cX5_readFirst 2 (some .int) 0 := ⟨fh_at 813 (by decide +kernel) rfl, fh_at 5 (by decide +kernel) rfl, by decide +kernel, by decide +kernel, by decide +kernel⟩
theorem YV_X5_readFirst : fh_YV yX5_readFirst := ⟨fh_at 812 (by decide +kernel) rfl, fh_atp (n := 11) 24 (by decide +kernel)⟩
theorem Y_X5_readSecond : fh_Y yX5_readSecond cX5_readSecond 2 (some .int) 0 := ⟨fh_at 838 (by decide +kernel) rfl, fh_at 5 (by decide +kernel) rfl, by decide +kernel, by decide +kernel, by decide +kernel⟩
theorem YV_X5_readSecond : fh_YV yX5_readSecond := ⟨fh_at 837 (by decide +kernel) rfl, fh_atp (n := 11) 25 (by decide +kernel)⟩
theorem Y_X6_init : fh_Y yX6_init cX6_init 2 none 1 := ⟨fh_at 38 (by decide +kernel) rfl, fh_at 2 (by decide +kernel) rfl, by decide +kernel, by decide +kernel, by decide +kernel⟩
theorem Y_X6_clear : fh_Y yX6_clear cX6_clear 1 none 0 := ⟨fh_at 720 (by decide +kernel) rfl, fh_at 2 (by decide +kernel) rfl, by decide +kernel, by decide +kernel, by decide +kernel⟩
theorem YV_X6_clear : fh_YV yX6_clear := ⟨fh_at 718 (by decide +kernel) rfl, fh_at 719 (by decide +kernel) rfl⟩
theorem Y_X6_add : fh_Y yX6_add cX6_add 4 none 3 := ⟨fh_at 731 (by decide +kernel) rfl, fh_at 2 (by decide +kernel) rfl, by decide +kernel, by decide +kernel, by decide +kernel⟩
theorem YV_X6_add : fh_YV yX6_add := ⟨fh_at 729 (by decide +kernel) rfl, fh_at 730 (by decide +kernel) rfl⟩
theorem Y_X6_knows : fh_Y yX6_knows cX6_knows 2 (some .boolean) 1 := ⟨fh_at 821 (by decide +kernel) rfl, fh_at 2 (by decide +kernel) rfl, by decide +kernel, by decide +kernel, by decide +kernel⟩
theorem YV_X6_knows : fh_YV yX6_knows := ⟨fh_at 819 (by decide +kernel) rfl, fh_at 820 (by decide +kernel) rfl⟩
theorem Y_X6_unknownAt : fh_Y yX6_unknownAt cX6_unknownAt 2 (some .boolean) 1 := ⟨fh_at 817 (by decide +kernel) rfl, fh_at 2 (by decide +kernel) rfl, by decide +kernel, by decide +kernel, by decide +kernel⟩
theorem YV_X6_unknownAt : fh_YV yX6_unknownAt := ⟨fh_at 815 (by decide +kernel) rfl, fh_at 816 (by decide +kernel) rfl⟩
theorem Y_X6_termAt : fh_Y yX6_termAt cX6_termAt 2 (some .int) 1 := ⟨fh_at 830 (by decide +kernel) rfl, fh_at 2 (by decide +kernel) rfl, by decide +kernel, by decide +kernel, by decide +kernel⟩
theorem YV_X6_termAt : fh_YV yX6_termAt := ⟨fh_at 828 (by decide +kernel) rfl, fh_at 829 (by decide +kernel) rfl⟩
theorem Y_X6_firstReadsAt : fh_Y yX6_firstReadsAt cX6_firstReadsAt 2 (some .int) 1 := ⟨fh_at 967 (by decide +kernel) rfl, fh_at 2 (by decide +kernel) rfl, by decide +kernel, by decide +kernel, by decide +kernel⟩
theorem YV_X6_firstReadsAt : fh_YV yX6_firstReadsAt := ⟨fh_at 965 (by decide +kernel) rfl, fh_at 966 (by decide +kernel) rfl⟩
theorem Y_X6_secondReadsAt : fh_Y yX6_secondReadsAt cX6_secondReadsAt 2 (some .int) 1 := ⟨fh_at 963 (by decide +kernel) rfl, fh_at 2 (by decide +kernel) rfl, by decide +kernel, by decide +kernel, by decide +kernel⟩
theorem YV_X6_secondReadsAt : fh_YV yX6_secondReadsAt := ⟨fh_at 961 (by decide +kernel) rfl, fh_at 962 (by decide +kernel) rfl⟩
theorem Y_X6_divide : fh_Y yX6_divide cX6_divide 14 none 2 := ⟨fh_at 724 (by decide +kernel) rfl, fh_at 2 (by decide +kernel) rfl, by decide +kernel, by decide +kernel, by decide +kernel⟩
theorem YV_X6_divide : fh_YV yX6_divide := ⟨fh_at 722 (by decide +kernel) rfl, fh_at 723 (by decide +kernel) rfl⟩
theorem Y_X6_copyTold : fh_Y yX6_copyTold cX6_copyTold 3 none 1 := ⟨fh_at 764 (by decide +kernel) rfl, fh_at 2 (by decide +kernel) rfl, by decide +kernel, by decide +kernel, by decide +kernel⟩
theorem YV_X6_copyTold : fh_YV yX6_copyTold := ⟨fh_at 762 (by decide +kernel) rfl, fh_at 763 (by decide +kernel) rfl⟩
theorem Y_X6_greatestBehindFirst : fh_Y yX6_greatestBehindFirst cX6_greatestBehindFirst 3 (some .int) 0 := ⟨fh_at 925 (by decide +kernel) rfl, fh_at 2 (by decide +kernel) rfl, by decide +kernel, by decide +kernel, by decide +kernel⟩
theorem YV_X6_greatestBehindFirst : fh_YV yX6_greatestBehindFirst := ⟨fh_at 923 (by decide +kernel) rfl, fh_at 924 (by decide +kernel) rfl⟩
theorem Y_X6_wrappedSum : fh_Y yX6_wrappedSum cX6_wrappedSum 3 (some .int) 0 := ⟨fh_at 933 (by decide +kernel) rfl, fh_at 2 (by decide +kernel) rfl, by decide +kernel, by decide +kernel, by decide +kernel⟩
theorem YV_X6_wrappedSum : fh_YV yX6_wrappedSum := ⟨fh_at 931 (by decide +kernel) rfl, fh_at 932 (by decide +kernel) rfl⟩
theorem Y_X7_init : fh_Y yX7_init cX7_init 2 none 1 := ⟨fh_at 303 (by decide +kernel) rfl, fh_at 10 (by decide +kernel) rfl, by decide +kernel, by decide +kernel, by decide +kernel⟩
theorem Y_X7_parse : fh_Y yX7_parse cX7_parse 4 none 0 := ⟨fh_at 639 (by decide +kernel) rfl, fh_at 10 (by decide +kernel) rfl, by decide +kernel, by decide +kernel, by decide +kernel⟩
theorem YV_X7_parse : fh_YV yX7_parse := ⟨fh_at 637 (by decide +kernel) rfl, fh_at 638 (by decide +kernel) rfl⟩
theorem Y_X7_parseBrackets : fh_Y yX7_parseBrackets cX7_parseBrackets 2 none 0 := ⟨fh_at 672 (by decide +kernel) rfl, fh_at 10 (by decide +kernel) rfl, by decide +kernel, by decide +kernel, by decide +kernel⟩
theorem YV_X7_parseBrackets : fh_YV yX7_parseBrackets := ⟨fh_at 671 (by decide +kernel) rfl, fh_atp (n := 4) 16 (by decide +kernel)⟩
theorem Y_X7_takeMark : fh_Y yX7_takeMark cX7_takeMark 1 (some .boolean) 0 := ⟨fh_at 668 (by decide +kernel) rfl, fh_at 10 (by decide +kernel) rfl, by decide +kernel, by decide +kernel, by decide +kernel⟩
theorem YV_X7_takeMark : fh_YV yX7_takeMark := ⟨fh_at 667 (by decide +kernel) rfl, fh_atp (n := 4) 15 (by decide +kernel)⟩
theorem Y_X7_keep : fh_Y yX7_keep cX7_keep 2 none 1 := ⟨fh_at 664 (by decide +kernel) rfl, fh_at 10 (by decide +kernel) rfl, by decide +kernel, by decide +kernel, by decide +kernel⟩
theorem YV_X7_keep : fh_YV yX7_keep := ⟨fh_at 663 (by decide +kernel) rfl, fh_atp (n := 4) 14 (by decide +kernel)⟩
theorem Y_X7_tellTo : fh_Y yX7_tellTo cX7_tellTo 4 none 1 := ⟨fh_at 680 (by decide +kernel) rfl, fh_at 10 (by decide +kernel) rfl, by decide +kernel, by decide +kernel, by decide +kernel⟩
theorem YV_X7_tellTo : fh_YV yX7_tellTo := ⟨fh_at 678 (by decide +kernel) rfl, fh_at 679 (by decide +kernel) rfl⟩
theorem Y_X7_earlierTerm : fh_Y yX7_earlierTerm cX7_earlierTerm 2 (some .int) 1 := ⟨fh_at 685 (by decide +kernel) rfl, fh_at 10 (by decide +kernel) rfl, by decide +kernel, by decide +kernel, by decide +kernel⟩
theorem YV_X7_earlierTerm : fh_YV yX7_earlierTerm := ⟨fh_at 684 (by decide +kernel) rfl, fh_atp (n := 4) 17 (by decide +kernel)⟩
theorem Y_X8_init : fh_Y yX8_init cX8_init 1 none 0 := ⟨fh_at 339 (by decide +kernel) rfl, fh_at 12 (by decide +kernel) rfl, by decide +kernel, by decide +kernel, by decide +kernel⟩
theorem Y_X8_start : fh_Y yX8_start cX8_start 1 none 0 := ⟨fh_at 1107 (by decide +kernel) rfl, fh_at 12 (by decide +kernel) rfl, by decide +kernel, by decide +kernel, by decide +kernel⟩
theorem YV_X8_start : fh_YV yX8_start := ⟨fh_at 1105 (by decide +kernel) rfl, fh_at 1106 (by decide +kernel) rfl⟩
theorem Y_X8_byteAt : fh_Y yX8_byteAt cX8_byteAt 2 (some .int) 1 := ⟨fh_at 461 (by decide +kernel) rfl, fh_at 12 (by decide +kernel) rfl, by decide +kernel, by decide +kernel, by decide +kernel⟩
theorem YV_X8_byteAt : fh_YV yX8_byteAt := ⟨fh_at 459 (by decide +kernel) rfl, fh_at 460 (by decide +kernel) rfl⟩
theorem Y_X8_putFirst : fh_Y yX8_putFirst cX8_putFirst 4 none 2 := ⟨fh_at 1136 (by decide +kernel) rfl, fh_at 12 (by decide +kernel) rfl, by decide +kernel, by decide +kernel, by decide +kernel⟩
theorem YV_X8_putFirst : fh_YV yX8_putFirst := ⟨fh_at 1134 (by decide +kernel) rfl, fh_at 1135 (by decide +kernel) rfl⟩
theorem Y_X8_putReturning : fh_Y yX8_putReturning cX8_putReturning 4 none 3 := ⟨fh_at 1111 (by decide +kernel) rfl, fh_at 12 (by decide +kernel) rfl, by decide +kernel, by decide +kernel, by decide +kernel⟩
theorem YV_X8_putReturning : fh_YV yX8_putReturning := ⟨fh_at 1109 (by decide +kernel) rfl, fh_at 1110 (by decide +kernel) rfl⟩
theorem Y_X8_putTerms : fh_Y yX8_putTerms cX8_putTerms 5 none 3 := ⟨fh_at 1119 (by decide +kernel) rfl, fh_at 12 (by decide +kernel) rfl, by decide +kernel, by decide +kernel, by decide +kernel⟩
theorem YV_X8_putTerms : fh_YV yX8_putTerms := ⟨fh_at 1118 (by decide +kernel) rfl, fh_atp (n := 2) 37 (by decide +kernel)⟩
theorem Y_X8_putMarkAhead : fh_Y yX8_putMarkAhead cX8_putMarkAhead 2 none 1 := ⟨fh_at 1123 (by decide +kernel) rfl, fh_at 12 (by decide +kernel) rfl, by decide +kernel, by decide +kernel, by decide +kernel⟩
theorem YV_X8_putMarkAhead : fh_YV yX8_putMarkAhead := ⟨fh_at 1122 (by decide +kernel) rfl, fh_atp (n := 2) 38 (by decide +kernel)⟩
theorem Y_X8_putNumber : fh_Y yX8_putNumber cX8_putNumber 6 none 1 := ⟨fh_at 1128 (by decide +kernel) rfl, fh_at 12 (by decide +kernel) rfl, by decide +kernel, by decide +kernel, by decide +kernel⟩
theorem YV_X8_putNumber : fh_YV yX8_putNumber := ⟨fh_at 1127 (by decide +kernel) rfl, fh_atp (n := 2) 39 (by decide +kernel)⟩
theorem Y_X8_putSign : fh_Y yX8_putSign cX8_putSign 2 none 1 := ⟨fh_at 1115 (by decide +kernel) rfl, fh_at 12 (by decide +kernel) rfl, by decide +kernel, by decide +kernel, by decide +kernel⟩
theorem YV_X8_putSign : fh_YV yX8_putSign := ⟨fh_at 1114 (by decide +kernel) rfl, fh_atp (n := 2) 36 (by decide +kernel)⟩
theorem Y_X9_init : fh_Y yX9_init cX9_init 1 none 0 := ⟨fh_at 217 (by decide +kernel) rfl, fh_at 7 (by decide +kernel) rfl, by decide +kernel, by decide +kernel, by decide +kernel⟩
theorem Y_X9_start : fh_Y yX9_start cX9_start 9 none 3 := ⟨fh_at 746 (by decide +kernel) rfl, fh_at 7 (by decide +kernel) rfl, by decide +kernel, by decide +kernel, by decide +kernel⟩
theorem YV_X9_start : fh_YV yX9_start := ⟨fh_at 744 (by decide +kernel) rfl, fh_at 745 (by decide +kernel) rfl⟩
theorem Y_X9_whole : fh_Y yX9_whole cX9_whole 1 (some .long) 0 := ⟨fh_at 754 (by decide +kernel) rfl, fh_at 7 (by decide +kernel) rfl, by decide +kernel, by decide +kernel, by decide +kernel⟩
theorem YV_X9_whole : fh_YV yX9_whole := ⟨fh_at 752 (by decide +kernel) rfl, fh_at 753 (by decide +kernel) rfl⟩
theorem Y_X9_leave : fh_Y yX9_leave cX9_leave 3 none 1 := ⟨fh_at 760 (by decide +kernel) rfl, fh_at 7 (by decide +kernel) rfl, by decide +kernel, by decide +kernel, by decide +kernel⟩
theorem YV_X9_leave : fh_YV yX9_leave := ⟨fh_at 758 (by decide +kernel) rfl, fh_at 759 (by decide +kernel) rfl⟩
theorem Y_X10_init : fh_Y yX10_init cX10_init 1 none 0 := ⟨fh_at 265 (by decide +kernel) rfl, fh_at 9 (by decide +kernel) rfl, by decide +kernel, by decide +kernel, by decide +kernel⟩
theorem Y_X10_addFour : fh_Y yX10_addFour cX10_addFour 2 none 1 := ⟨fh_at 387 (by decide +kernel) rfl, fh_at 9 (by decide +kernel) rfl, by decide +kernel, by decide +kernel, by decide +kernel⟩
theorem YV_X10_addFour : fh_YV yX10_addFour := ⟨fh_at 385 (by decide +kernel) rfl, fh_at 386 (by decide +kernel) rfl⟩
theorem Y_X10_addByte : fh_Y yX10_addByte cX10_addByte 2 none 1 := ⟨fh_at 391 (by decide +kernel) rfl, fh_at 9 (by decide +kernel) rfl, by decide +kernel, by decide +kernel, by decide +kernel⟩
theorem YV_X10_addByte : fh_YV yX10_addByte := ⟨fh_at 390 (by decide +kernel) rfl, fh_atp (n := 9) 0 (by decide +kernel)⟩
theorem Y_X10_empty : fh_Y yX10_empty cX10_empty 1 none 0 := ⟨fh_at 676 (by decide +kernel) rfl, fh_at 9 (by decide +kernel) rfl, by decide +kernel, by decide +kernel, by decide +kernel⟩
theorem YV_X10_empty : fh_YV yX10_empty := ⟨fh_at 674 (by decide +kernel) rfl, fh_at 675 (by decide +kernel) rfl⟩
theorem Y_X10_open : fh_Y yX10_open cX10_open 4 none 1 := ⟨fh_at 540 (by decide +kernel) rfl, fh_at 9 (by decide +kernel) rfl, by decide +kernel, by decide +kernel, by decide +kernel⟩
theorem YV_X10_open : fh_YV yX10_open := ⟨fh_at 538 (by decide +kernel) rfl, fh_at 539 (by decide +kernel) rfl⟩
theorem Y_X10_scanNext : fh_Y yX10_scanNext cX10_scanNext 4 (some .int) 2 := ⟨fh_at 544 (by decide +kernel) rfl, fh_at 9 (by decide +kernel) rfl, by decide +kernel, by decide +kernel, by decide +kernel⟩
theorem YV_X10_scanNext : fh_YV yX10_scanNext := ⟨fh_at 543 (by decide +kernel) rfl, fh_atp (n := 9) 7 (by decide +kernel)⟩
theorem Y_X10_scanFigures : fh_Y yX10_scanFigures cX10_scanFigures 5 (some .int) 2 := ⟨fh_at 555 (by decide +kernel) rfl, fh_at 9 (by decide +kernel) rfl, by decide +kernel, by decide +kernel, by decide +kernel⟩
theorem YV_X10_scanFigures : fh_YV yX10_scanFigures := ⟨fh_at 554 (by decide +kernel) rfl, fh_atp (n := 9) 9 (by decide +kernel)⟩
theorem Y_X10_scanWord : fh_Y yX10_scanWord cX10_scanWord 4 (some .int) 2 := ⟨fh_at 569 (by decide +kernel) rfl, fh_at 9 (by decide +kernel) rfl, by decide +kernel, by decide +kernel, by decide +kernel⟩
theorem YV_X10_scanWord : fh_YV yX10_scanWord := ⟨fh_at 568 (by decide +kernel) rfl, fh_atp (n := 9) 11 (by decide +kernel)⟩
theorem Y_X10_wordCode : fh_Y yX10_wordCode cX10_wordCode 3 (some .int) 2 := ⟨fh_at 573 (by decide +kernel) rfl, fh_at 9 (by decide +kernel) rfl, by decide +kernel, by decide +kernel, by decide +kernel⟩
theorem YV_X10_wordCode : fh_YV yX10_wordCode := ⟨fh_at 572 (by decide +kernel) rfl, fh_atp (n := 9) 12 (by decide +kernel)⟩
theorem Y_X10_spells : fh_Y yX10_spells cX10_spells 5 (some .boolean) 3 := ⟨fh_at 578 (by decide +kernel) rfl, fh_at 9 (by decide +kernel) rfl, by decide +kernel, by decide +kernel, by decide +kernel⟩
theorem YV_X10_spells : fh_YV yX10_spells := ⟨fh_at 577 (by decide +kernel) rfl, fh_atp (n := 9) 13 (by decide +kernel)⟩
theorem Y_X10_byteAt : fh_Y yX10_byteAt cX10_byteAt 2 (some .int) 1 := ⟨fh_at 548 (by decide +kernel) rfl, fh_at 9 (by decide +kernel) rfl, by decide +kernel, by decide +kernel, by decide +kernel⟩
theorem YV_X10_byteAt : fh_YV yX10_byteAt := ⟨fh_at 547 (by decide +kernel) rfl, fh_atp (n := 9) 8 (by decide +kernel)⟩
theorem Y_X10_isFigure : fh_Y yX10_isFigure cX10_isFigure 1 (some .boolean) 1 := ⟨fh_at 551 (by decide +kernel) rfl, fh_at 9 (by decide +kernel) rfl, by decide +kernel, by decide +kernel, by decide +kernel⟩
theorem YS_X10_isFigure : Cond.static yX10_isFigure ∈ fh_U := fh_at 550 (by decide +kernel) rfl
theorem Y_X10_isLetter : fh_Y yX10_isLetter cX10_isLetter 1 (some .boolean) 1 := ⟨fh_at 565 (by decide +kernel) rfl, fh_at 9 (by decide +kernel) rfl, by decide +kernel, by decide +kernel, by decide +kernel⟩
theorem YS_X10_isLetter : Cond.static yX10_isLetter ∈ fh_U := fh_at 564 (by decide +kernel) rfl
theorem Y_X10_addToken : fh_Y yX10_addToken cX10_addToken 4 none 3 := ⟨fh_at 562 (by decide +kernel) rfl, fh_at 9 (by decide +kernel) rfl, by decide +kernel, by decide +kernel, by decide +kernel⟩
theorem YV_X10_addToken : fh_YV yX10_addToken := ⟨fh_at 561 (by decide +kernel) rfl, fh_atp (n := 9) 10 (by decide +kernel)⟩
theorem Y_X10_isNext : fh_Y yX10_isNext cX10_isNext 2 (some .boolean) 1 := ⟨fh_at 651 (by decide +kernel) rfl, fh_at 9 (by decide +kernel) rfl, by decide +kernel, by decide +kernel, by decide +kernel⟩
theorem YV_X10_isNext : fh_YV yX10_isNext := ⟨fh_at 649 (by decide +kernel) rfl, fh_at 650 (by decide +kernel) rfl⟩
theorem Y_X10_take : fh_Y yX10_take cX10_take 3 (some .boolean) 1 := ⟨fh_at 647 (by decide +kernel) rfl, fh_at 9 (by decide +kernel) rfl, by decide +kernel, by decide +kernel, by decide +kernel⟩
theorem YV_X10_take : fh_YV yX10_take := ⟨fh_at 645 (by decide +kernel) rfl, fh_at 646 (by decide +kernel) rfl⟩
theorem Y_X10_expect : fh_Y yX10_expect cX10_expect 2 none 1 := ⟨fh_at 643 (by decide +kernel) rfl, fh_at 9 (by decide +kernel) rfl, by decide +kernel, by decide +kernel, by decide +kernel⟩
theorem YV_X10_expect : fh_YV yX10_expect := ⟨fh_at 641 (by decide +kernel) rfl, fh_at 642 (by decide +kernel) rfl⟩
theorem Y_X10_takeFigures : fh_Y yX10_takeFigures cX10_takeFigures 3 (some .int) 1 := ⟨fh_at 660 (by decide +kernel) rfl, fh_at 9 (by decide +kernel) rfl, by decide +kernel, by decide +kernel, by decide +kernel⟩
theorem YV_X10_takeFigures : fh_YV yX10_takeFigures := ⟨fh_at 658 (by decide +kernel) rfl, fh_at 659 (by decide +kernel) rfl⟩
theorem Y_X10_fail : fh_Y yX10_fail cX10_fail 2 none 1 := ⟨fh_at 655 (by decide +kernel) rfl, fh_at 9 (by decide +kernel) rfl, by decide +kernel, by decide +kernel, by decide +kernel⟩
theorem YV_X10_fail : fh_YV yX10_fail := ⟨fh_at 653 (by decide +kernel) rfl, fh_at 654 (by decide +kernel) rfl⟩
theorem Y_X11_init : fh_Y yX11_init cX11_init 2 none 0 := ⟨fh_at 29 (by decide +kernel) rfl, fh_at 1 (by decide +kernel) rfl, by decide +kernel, by decide +kernel, by decide +kernel⟩
theorem Y_X11_feed : fh_Y yX11_feed cX11_feed 6 (some .int) 5 := ⟨fh_at 383 (by decide +kernel) rfl, fh_at 1 (by decide +kernel) rfl, by decide +kernel, by decide +kernel, by decide +kernel⟩
theorem YV_X11_feed : fh_YV yX11_feed := ⟨fh_at 381 (by decide +kernel) rfl, fh_at 382 (by decide +kernel) rfl⟩
theorem Y_X11_told : fh_Y yX11_told cX11_told 5 (some .int) 2 := ⟨fh_at 469 (by decide +kernel) rfl, fh_at 1 (by decide +kernel) rfl, by decide +kernel, by decide +kernel, by decide +kernel⟩
theorem YV_X11_told : fh_YV yX11_told := ⟨fh_at 467 (by decide +kernel) rfl, fh_at 468 (by decide +kernel) rfl⟩
theorem Y_X11_ask : fh_Y yX11_ask cX11_ask 4 (some .int) 2 := ⟨fh_at 692 (by decide +kernel) rfl, fh_at 1 (by decide +kernel) rfl, by decide +kernel, by decide +kernel, by decide +kernel⟩
theorem YV_X11_ask : fh_YV yX11_ask := ⟨fh_at 690 (by decide +kernel) rfl, fh_at 691 (by decide +kernel) rfl⟩
theorem Y_X11_fault : fh_Y yX11_fault cX11_fault 1 (some .int) 0 := ⟨fh_at 395 (by decide +kernel) rfl, fh_at 1 (by decide +kernel) rfl, by decide +kernel, by decide +kernel, by decide +kernel⟩
theorem YV_X11_fault : fh_YV yX11_fault := ⟨fh_at 393 (by decide +kernel) rfl, fh_at 394 (by decide +kernel) rfl⟩
theorem Y_X11_fraction : fh_Y yX11_fraction cX11_fraction 5 (some .boolean) 3 := ⟨fh_at 399 (by decide +kernel) rfl, fh_at 1 (by decide +kernel) rfl, by decide +kernel, by decide +kernel, by decide +kernel⟩
theorem YV_X11_fraction : fh_YV yX11_fraction := ⟨fh_at 397 (by decide +kernel) rfl, fh_at 398 (by decide +kernel) rfl⟩
theorem Y_X11_root : fh_Y yX11_root cX11_root 6 (some .boolean) 4 := ⟨fh_at 434 (by decide +kernel) rfl, fh_at 1 (by decide +kernel) rfl, by decide +kernel, by decide +kernel, by decide +kernel⟩
theorem YV_X11_root : fh_YV yX11_root := ⟨fh_at 432 (by decide +kernel) rfl, fh_at 433 (by decide +kernel) rfl⟩
theorem Y_X11_single : fh_Y yX11_single cX11_single 8 (some .boolean) 6 := ⟨fh_at 438 (by decide +kernel) rfl, fh_at 1 (by decide +kernel) rfl, by decide +kernel, by decide +kernel, by decide +kernel⟩
theorem YV_X11_single : fh_YV yX11_single := ⟨fh_at 436 (by decide +kernel) rfl, fh_at 437 (by decide +kernel) rfl⟩
theorem Y_X11_join : fh_Y yX11_join cX11_join 6 (some .boolean) 4 := ⟨fh_at 445 (by decide +kernel) rfl, fh_at 1 (by decide +kernel) rfl, by decide +kernel, by decide +kernel, by decide +kernel⟩
theorem YV_X11_join : fh_YV yX11_join := ⟨fh_at 443 (by decide +kernel) rfl, fh_at 444 (by decide +kernel) rfl⟩
theorem Y_X11_undo : fh_Y yX11_undo cX11_undo 2 (some .int) 0 := ⟨fh_at 449 (by decide +kernel) rfl, fh_at 1 (by decide +kernel) rfl, by decide +kernel, by decide +kernel, by decide +kernel⟩
theorem YV_X11_undo : fh_YV yX11_undo := ⟨fh_at 447 (by decide +kernel) rfl, fh_at 448 (by decide +kernel) rfl⟩
theorem Y_X11_count : fh_Y yX11_count cX11_count 2 (some .int) 1 := ⟨fh_at 905 (by decide +kernel) rfl, fh_at 1 (by decide +kernel) rfl, by decide +kernel, by decide +kernel, by decide +kernel⟩
theorem YV_X11_count : fh_YV yX11_count := ⟨fh_at 903 (by decide +kernel) rfl, fh_at 904 (by decide +kernel) rfl⟩
theorem Y_X11_of : fh_Y yX11_of cX11_of 4 (some .int) 2 := ⟨fh_at 921 (by decide +kernel) rfl, fh_at 1 (by decide +kernel) rfl, by decide +kernel, by decide +kernel, by decide +kernel⟩
theorem YV_X11_of : fh_YV yX11_of := ⟨fh_at 919 (by decide +kernel) rfl, fh_at 920 (by decide +kernel) rfl⟩
theorem Y_X11_term : fh_Y yX11_term cX11_term 4 (some .int) 2 := ⟨fh_at 945 (by decide +kernel) rfl, fh_at 1 (by decide +kernel) rfl, by decide +kernel, by decide +kernel, by decide +kernel⟩
theorem YV_X11_term : fh_YV yX11_term := ⟨fh_at 943 (by decide +kernel) rfl, fh_at 944 (by decide +kernel) rfl⟩
theorem Y_X11_read : fh_Y yX11_read cX11_read 6 (some .int) 3 := ⟨fh_at 958 (by decide +kernel) rfl, fh_at 1 (by decide +kernel) rfl, by decide +kernel, by decide +kernel, by decide +kernel⟩
theorem YV_X11_read : fh_YV yX11_read := ⟨fh_at 956 (by decide +kernel) rfl, fh_at 957 (by decide +kernel) rfl⟩
theorem Y_X11_convergent : fh_Y yX11_convergent cX11_convergent 5 (some .long) 3 := ⟨fh_at 974 (by decide +kernel) rfl, fh_at 1 (by decide +kernel) rfl, by decide +kernel, by decide +kernel, by decide +kernel⟩
theorem YV_X11_convergent : fh_YV yX11_convergent := ⟨fh_at 972 (by decide +kernel) rfl, fh_at 973 (by decide +kernel) rfl⟩
theorem Y_X11_nearest : fh_Y yX11_nearest cX11_nearest 6 (some .int) 2 := ⟨fh_at 997 (by decide +kernel) rfl, fh_at 1 (by decide +kernel) rfl, by decide +kernel, by decide +kernel, by decide +kernel⟩
theorem YV_X11_nearest : fh_YV yX11_nearest := ⟨fh_at 995 (by decide +kernel) rfl, fh_at 996 (by decide +kernel) rfl⟩
theorem Y_X11_mediant : fh_Y yX11_mediant cX11_mediant 10 (some .long) 4 := ⟨fh_at 1007 (by decide +kernel) rfl, fh_at 1 (by decide +kernel) rfl, by decide +kernel, by decide +kernel, by decide +kernel⟩
theorem YV_X11_mediant : fh_YV yX11_mediant := ⟨fh_at 1005 (by decide +kernel) rfl, fh_at 1006 (by decide +kernel) rfl⟩
theorem Y_X11_compare : fh_Y yX11_compare cX11_compare 9 (some .int) 2 := ⟨fh_at 1016 (by decide +kernel) rfl, fh_at 1 (by decide +kernel) rfl, by decide +kernel, by decide +kernel, by decide +kernel⟩
theorem YV_X11_compare : fh_YV yX11_compare := ⟨fh_at 1014 (by decide +kernel) rfl, fh_at 1015 (by decide +kernel) rfl⟩
theorem Y_X11_alike : fh_Y yX11_alike cX11_alike 3 (some .int) 2 := ⟨fh_at 1027 (by decide +kernel) rfl, fh_at 1 (by decide +kernel) rfl, by decide +kernel, by decide +kernel, by decide +kernel⟩
theorem YV_X11_alike : fh_YV yX11_alike := ⟨fh_at 1025 (by decide +kernel) rfl, fh_at 1026 (by decide +kernel) rfl⟩
theorem Y_X11_again : fh_Y yX11_again cX11_again 4 (some .int) 2 := ⟨fh_at 1034 (by decide +kernel) rfl, fh_at 1 (by decide +kernel) rfl, by decide +kernel, by decide +kernel, by decide +kernel⟩
theorem YV_X11_again : fh_YV yX11_again := ⟨fh_at 1032 (by decide +kernel) rfl, fh_at 1033 (by decide +kernel) rfl⟩
theorem Y_X11_tails : fh_Y yX11_tails cX11_tails 6 (some .int) 3 := ⟨fh_at 1052 (by decide +kernel) rfl, fh_at 1 (by decide +kernel) rfl, by decide +kernel, by decide +kernel, by decide +kernel⟩
theorem YV_X11_tails : fh_YV yX11_tails := ⟨fh_at 1050 (by decide +kernel) rfl, fh_at 1051 (by decide +kernel) rfl⟩
theorem Y_X11_floor : fh_Y yX11_floor cX11_floor 4 (some .int) 2 := ⟨fh_at 1063 (by decide +kernel) rfl, fh_at 1 (by decide +kernel) rfl, by decide +kernel, by decide +kernel, by decide +kernel⟩
theorem YV_X11_floor : fh_YV yX11_floor := ⟨fh_at 1061 (by decide +kernel) rfl, fh_at 1062 (by decide +kernel) rfl⟩
theorem Y_X11_would : fh_Y yX11_would cX11_would 8 (some .int) 6 := ⟨fh_at 1076 (by decide +kernel) rfl, fh_at 1 (by decide +kernel) rfl, by decide +kernel, by decide +kernel, by decide +kernel⟩
theorem YV_X11_would : fh_YV yX11_would := ⟨fh_at 1074 (by decide +kernel) rfl, fh_at 1075 (by decide +kernel) rfl⟩
theorem Y_X11_often : fh_Y yX11_often cX11_often 6 (some .int) 2 := ⟨fh_at 1085 (by decide +kernel) rfl, fh_at 1 (by decide +kernel) rfl, by decide +kernel, by decide +kernel, by decide +kernel⟩
theorem YV_X11_often : fh_YV yX11_often := ⟨fh_at 1083 (by decide +kernel) rfl, fh_at 1084 (by decide +kernel) rfl⟩
theorem Y_X11_left : fh_Y yX11_left cX11_left 6 (some .int) 3 := ⟨fh_at 1092 (by decide +kernel) rfl, fh_at 1 (by decide +kernel) rfl, by decide +kernel, by decide +kernel, by decide +kernel⟩
theorem YV_X11_left : fh_YV yX11_left := ⟨fh_at 1090 (by decide +kernel) rfl, fh_at 1091 (by decide +kernel) rfl⟩
theorem Y_X11_say : fh_Y yX11_say cX11_say 7 (some .int) 2 := ⟨fh_at 1101 (by decide +kernel) rfl, fh_at 1 (by decide +kernel) rfl, by decide +kernel, by decide +kernel, by decide +kernel⟩
theorem YV_X11_say : fh_YV yX11_say := ⟨fh_at 1099 (by decide +kernel) rfl, fh_at 1100 (by decide +kernel) rfl⟩
theorem Y_X11_said : fh_Y yX11_said cX11_said 2 (some .int) 1 := ⟨fh_at 457 (by decide +kernel) rfl, fh_at 1 (by decide +kernel) rfl, by decide +kernel, by decide +kernel, by decide +kernel⟩
theorem YV_X11_said : fh_YV yX11_said := ⟨fh_at 455 (by decide +kernel) rfl, fh_at 456 (by decide +kernel) rfl⟩
theorem Y_X11_within : fh_Y yX11_within cX11_within 2 (some .boolean) 2 := ⟨fh_at 406 (by decide +kernel) rfl, fh_at 1 (by decide +kernel) rfl, by decide +kernel, by decide +kernel, by decide +kernel⟩
theorem YS_X11_within : Cond.static yX11_within ∈ fh_U := fh_at 405 (by decide +kernel) rfl
theorem Y_X11_fitsSingle : fh_Y yX11_fitsSingle cX11_fitsSingle 4 (some .boolean) 4 := ⟨fh_at 441 (by decide +kernel) rfl, fh_at 1 (by decide +kernel) rfl, by decide +kernel, by decide +kernel, by decide +kernel⟩
theorem YS_X11_fitsSingle : Cond.static yX11_fitsSingle ∈ fh_U := fh_at 440 (by decide +kernel) rfl
theorem Y_X11_grown : fh_Y yX11_grown cX11_grown 8 (some .long) 3 := ⟨fh_at 798 (by decide +kernel) rfl, fh_at 1 (by decide +kernel) rfl, by decide +kernel, by decide +kernel, by decide +kernel⟩
theorem YS_X11_grown : Cond.static yX11_grown ∈ fh_U := fh_at 797 (by decide +kernel) rfl
theorem Y_X11_wholeRoot : fh_Y yX11_wholeRoot cX11_wholeRoot 6 (some .long) 1 := ⟨fh_at 741 (by decide +kernel) rfl, fh_at 1 (by decide +kernel) rfl, by decide +kernel, by decide +kernel, by decide +kernel⟩
theorem YS_X11_wholeRoot : Cond.static yX11_wholeRoot ∈ fh_U := fh_at 740 (by decide +kernel) rfl
theorem Y_X11_isSquare : fh_Y yX11_isSquare cX11_isSquare 4 (some .boolean) 1 := ⟨fh_at 738 (by decide +kernel) rfl, fh_at 1 (by decide +kernel) rfl, by decide +kernel, by decide +kernel, by decide +kernel⟩
theorem YS_X11_isSquare : Cond.static yX11_isSquare ∈ fh_U := fh_at 737 (by decide +kernel) rfl
theorem Y_X11_find : fh_Y yX11_find cX11_find 2 (some (.object "TermRows$Row")) 1 := ⟨fh_at 403 (by decide +kernel) rfl, fh_at 1 (by decide +kernel) rfl, by decide +kernel, by decide +kernel, by decide +kernel⟩
theorem YV_X11_find : fh_YV yX11_find := ⟨fh_at 402 (by decide +kernel) rfl, fh_atp (n := 10) 1 (by decide +kernel)⟩
theorem Y_X11_settled : fh_Y yX11_settled cX11_settled 5 (some (.object "TermRows$Row")) 1 := ⟨fh_at 696 (by decide +kernel) rfl, fh_at 1 (by decide +kernel) rfl, by decide +kernel, by decide +kernel, by decide +kernel⟩
theorem YV_X11_settled : fh_YV yX11_settled := ⟨fh_at 695 (by decide +kernel) rfl, fh_atp (n := 10) 18 (by decide +kernel)⟩
theorem Y_X11_requireTerm : fh_Y yX11_requireTerm cX11_requireTerm 2 none 2 := ⟨fh_at 948 (by decide +kernel) rfl, fh_at 1 (by decide +kernel) rfl, by decide +kernel, by decide +kernel, by decide +kernel⟩
theorem YS_X11_requireTerm : Cond.static yX11_requireTerm ∈ fh_U := fh_at 947 (by decide +kernel) rfl
theorem Y_X11_reckon : fh_Y yX11_reckon cX11_reckon 3 none 1 := ⟨fh_at 716 (by decide +kernel) rfl, fh_at 1 (by decide +kernel) rfl, by decide +kernel, by decide +kernel, by decide +kernel⟩
theorem YV_X11_reckon : fh_YV yX11_reckon := ⟨fh_at 715 (by decide +kernel) rfl, fh_atp (n := 10) 19 (by decide +kernel)⟩
theorem Y_X11_reckonRoot : fh_Y yX11_reckonRoot cX11_reckonRoot 6 none 1 := ⟨fh_at 735 (by decide +kernel) rfl, fh_at 1 (by decide +kernel) rfl, by decide +kernel, by decide +kernel, by decide +kernel⟩
theorem YV_X11_reckonRoot : fh_YV yX11_reckonRoot := ⟨fh_at 734 (by decide +kernel) rfl, fh_atp (n := 10) 20 (by decide +kernel)⟩
theorem Y_X11_triedTerm : fh_Y yX11_triedTerm cX11_triedTerm 2 (some .int) 1 := ⟨fh_at 1068 (by decide +kernel) rfl, fh_at 1 (by decide +kernel) rfl, by decide +kernel, by decide +kernel, by decide +kernel⟩
theorem YV_X11_triedTerm : fh_YV yX11_triedTerm := ⟨fh_at 1067 (by decide +kernel) rfl, fh_atp (n := 10) 35 (by decide +kernel)⟩
theorem Y_X11_act : fh_Y yX11_act cX11_act 2 (some (.object "TermRows$Made")) 1 := ⟨fh_at 410 (by decide +kernel) rfl, fh_at 1 (by decide +kernel) rfl, by decide +kernel, by decide +kernel, by decide +kernel⟩
theorem YV_X11_act : fh_YV yX11_act := ⟨fh_at 409 (by decide +kernel) rfl, fh_atp (n := 10) 2 (by decide +kernel)⟩
theorem Y_X11_markStale : fh_Y yX11_markStale cX11_markStale 4 none 1 := ⟨fh_at 422 (by decide +kernel) rfl, fh_at 1 (by decide +kernel) rfl, by decide +kernel, by decide +kernel, by decide +kernel⟩
theorem YV_X11_markStale : fh_YV yX11_markStale := ⟨fh_at 421 (by decide +kernel) rfl, fh_atp (n := 10) 4 (by decide +kernel)⟩
theorem Y_X11_isStaleSource : fh_Y yX11_isStaleSource cX11_isStaleSource 4 (some .boolean) 2 := ⟨fh_at 426 (by decide +kernel) rfl, fh_at 1 (by decide +kernel) rfl, by decide +kernel, by decide +kernel, by decide +kernel⟩
theorem YV_X11_isStaleSource : fh_YV yX11_isStaleSource := ⟨fh_at 425 (by decide +kernel) rfl, fh_atp (n := 10) 5 (by decide +kernel)⟩
theorem Y_X11_rowsOfKind : fh_Y yX11_rowsOfKind cX11_rowsOfKind 4 (some .int) 1 := ⟨fh_at 909 (by decide +kernel) rfl, fh_at 1 (by decide +kernel) rfl, by decide +kernel, by decide +kernel, by decide +kernel⟩
theorem YV_X11_rowsOfKind : fh_YV yX11_rowsOfKind := ⟨fh_at 908 (by decide +kernel) rfl, fh_atp (n := 10) 32 (by decide +kernel)⟩
theorem Y_X11_rowsThatStop : fh_Y yX11_rowsThatStop cX11_rowsThatStop 4 (some .int) 1 := ⟨fh_at 913 (by decide +kernel) rfl, fh_at 1 (by decide +kernel) rfl, by decide +kernel, by decide +kernel, by decide +kernel⟩
theorem YV_X11_rowsThatStop : fh_YV yX11_rowsThatStop := ⟨fh_at 912 (by decide +kernel) rfl, fh_atp (n := 10) 33 (by decide +kernel)⟩
theorem Y_X11_rowsMadeOf : fh_Y yX11_rowsMadeOf cX11_rowsMadeOf 5 (some .int) 1 := ⟨fh_at 937 (by decide +kernel) rfl, fh_at 1 (by decide +kernel) rfl, by decide +kernel, by decide +kernel, by decide +kernel⟩
theorem YV_X11_rowsMadeOf : fh_YV yX11_rowsMadeOf := ⟨fh_at 936 (by decide +kernel) rfl, fh_atp (n := 10) 34 (by decide +kernel)⟩
theorem Y_X11_placesAlike : fh_Y yX11_placesAlike cX11_placesAlike 3 (some .int) 2 := ⟨fh_at 1019 (by decide +kernel) rfl, fh_at 1 (by decide +kernel) rfl, by decide +kernel, by decide +kernel, by decide +kernel⟩
theorem YS_X11_placesAlike : Cond.static yX11_placesAlike ∈ fh_U := fh_at 1018 (by decide +kernel) rfl
theorem Y_X11_alikeFrom : fh_Y yX11_alikeFrom cX11_alikeFrom 4 (some .int) 3 := ⟨fh_at 1041 (by decide +kernel) rfl, fh_at 1 (by decide +kernel) rfl, by decide +kernel, by decide +kernel, by decide +kernel⟩
theorem YS_X11_alikeFrom : Cond.static yX11_alikeFrom ∈ fh_U := fh_at 1040 (by decide +kernel) rfl
theorem Y_X11_comingAgain : fh_Y yX11_comingAgain cX11_comingAgain 5 (some .int) 1 := ⟨fh_at 1038 (by decide +kernel) rfl, fh_at 1 (by decide +kernel) rfl, by decide +kernel, by decide +kernel, by decide +kernel⟩
theorem YS_X11_comingAgain : Cond.static yX11_comingAgain ∈ fh_U := fh_at 1037 (by decide +kernel) rfl
theorem Y_X11_tailsAlike : fh_Y yX11_tailsAlike cX11_tailsAlike 8 (some .int) 2 := ⟨fh_at 1056 (by decide +kernel) rfl, fh_at 1 (by decide +kernel) rfl, by decide +kernel, by decide +kernel, by decide +kernel⟩
theorem YS_X11_tailsAlike : Cond.static yX11_tailsAlike ∈ fh_U := fh_at 1055 (by decide +kernel) rfl
theorem Y_X11_partOfPair : fh_Y yX11_partOfPair cX11_partOfPair 2 (some .int) 2 := ⟨fh_at 1045 (by decide +kernel) rfl, fh_at 1 (by decide +kernel) rfl, by decide +kernel, by decide +kernel, by decide +kernel⟩
theorem YS_X11_partOfPair : Cond.static yX11_partOfPair ∈ fh_U := fh_at 1044 (by decide +kernel) rfl
theorem Y_X12_init : fh_Y yX12_init cX12_init 2 none 0 := ⟨fh_at 1142 (by decide +kernel) rfl, fh_at 13 (by decide +kernel) rfl, by decide +kernel, by decide +kernel, by decide +kernel⟩
theorem Y_X12_thrown : fh_Y yX12_thrown cX12_thrown 1 (some .int) 0 := ⟨fh_at 1442 (by decide +kernel) rfl, fh_at 13 (by decide +kernel) rfl, by decide +kernel, by decide +kernel, by decide +kernel⟩
theorem YV_X12_thrown : fh_YV yX12_thrown := ⟨fh_at 1440 (by decide +kernel) rfl, fh_at 1441 (by decide +kernel) rfl⟩
theorem Y_X12_fail : fh_Y yX12_fail cX12_fail 2 (some .int) 1 := ⟨fh_at 1503 (by decide +kernel) rfl, fh_at 13 (by decide +kernel) rfl, by decide +kernel, by decide +kernel, by decide +kernel⟩
theorem YV_X12_fail : fh_YV yX12_fail := ⟨fh_at 1502 (by decide +kernel) rfl, fh_atp (n := 49) 76 (by decide +kernel)⟩
theorem Y_X12_isIn : fh_Y yX12_isIn cX12_isIn 6 (some .boolean) 3 := ⟨fh_at 1457 (by decide +kernel) rfl, fh_at 13 (by decide +kernel) rfl, by decide +kernel, by decide +kernel, by decide +kernel⟩
theorem YS_X12_isIn : Cond.static yX12_isIn ∈ fh_U := fh_at 1456 (by decide +kernel) rfl
theorem Y_X12_isRow : fh_Y yX12_isRow cX12_isRow 1 (some .boolean) 1 := ⟨fh_at 1453 (by decide +kernel) rfl, fh_at 13 (by decide +kernel) rfl, by decide +kernel, by decide +kernel, by decide +kernel⟩
theorem YS_X12_isRow : Cond.static yX12_isRow ∈ fh_U := fh_at 1452 (by decide +kernel) rfl
theorem Y_X12_of1 : fh_Y yX12_of1 cX12_of1 3 (some .int) 2 := ⟨fh_at 1159 (by decide +kernel) rfl, fh_at 13 (by decide +kernel) rfl, by decide +kernel, by decide +kernel, by decide +kernel⟩
theorem YV_X12_of1 : fh_YV yX12_of1 := ⟨fh_at 1158 (by decide +kernel) rfl, fh_atp (n := 49) 43 (by decide +kernel)⟩
theorem Y_X12_put : fh_Y yX12_put cX12_put 4 none 3 := ⟨fh_at 1147 (by decide +kernel) rfl, fh_at 13 (by decide +kernel) rfl, by decide +kernel, by decide +kernel, by decide +kernel⟩
theorem YV_X12_put : fh_YV yX12_put := ⟨fh_at 1146 (by decide +kernel) rfl, fh_atp (n := 49) 40 (by decide +kernel)⟩
theorem Y_X12_termOf : fh_Y yX12_termOf cX12_termOf 3 (some .int) 2 := ⟨fh_at 1277 (by decide +kernel) rfl, fh_at 13 (by decide +kernel) rfl, by decide +kernel, by decide +kernel, by decide +kernel⟩
theorem YV_X12_termOf : fh_YV yX12_termOf := ⟨fh_at 1276 (by decide +kernel) rfl, fh_atp (n := 49) 68 (by decide +kernel)⟩
theorem Y_X12_isKnown : fh_Y yX12_isKnown cX12_isKnown 3 (some .boolean) 2 := ⟨fh_at 1533 (by decide +kernel) rfl, fh_at 13 (by decide +kernel) rfl, by decide +kernel, by decide +kernel, by decide +kernel⟩
theorem YV_X12_isKnown : fh_YV yX12_isKnown := ⟨fh_at 1532 (by decide +kernel) rfl, fh_atp (n := 49) 81 (by decide +kernel)⟩
theorem Y_X12_knows : fh_Y yX12_knows cX12_knows 4 (some .boolean) 2 := ⟨fh_at 1168 (by decide +kernel) rfl, fh_at 13 (by decide +kernel) rfl, by decide +kernel, by decide +kernel, by decide +kernel⟩
theorem YV_X12_knows : fh_YV yX12_knows := ⟨fh_at 1167 (by decide +kernel) rfl, fh_atp (n := 49) 45 (by decide +kernel)⟩
theorem Y_X12_layAll : fh_Y yX12_layAll cX12_layAll 2 none 0 := ⟨fh_at 1151 (by decide +kernel) rfl, fh_at 13 (by decide +kernel) rfl, by decide +kernel, by decide +kernel, by decide +kernel⟩
theorem YV_X12_layAll : fh_YV yX12_layAll := ⟨fh_at 1150 (by decide +kernel) rfl, fh_atp (n := 49) 41 (by decide +kernel)⟩
theorem Y_X12_lay : fh_Y yX12_lay cX12_lay 2 none 1 := ⟨fh_at 1155 (by decide +kernel) rfl, fh_at 13 (by decide +kernel) rfl, by decide +kernel, by decide +kernel, by decide +kernel⟩
theorem YV_X12_lay : fh_YV yX12_lay := ⟨fh_at 1154 (by decide +kernel) rfl, fh_atp (n := 49) 42 (by decide +kernel)⟩
theorem Y_X12_divides : fh_Y yX12_divides cX12_divides 15 none 3 := ⟨fh_at 1163 (by decide +kernel) rfl, fh_at 13 (by decide +kernel) rfl, by decide +kernel, by decide +kernel, by decide +kernel⟩
theorem YV_X12_divides : fh_YV yX12_divides := ⟨fh_at 1162 (by decide +kernel) rfl, fh_atp (n := 49) 44 (by decide +kernel)⟩
theorem Y_X12_rootOf : fh_Y yX12_rootOf cX12_rootOf 6 (some .long) 1 := ⟨fh_at 1179 (by decide +kernel) rfl, fh_at 13 (by decide +kernel) rfl, by decide +kernel, by decide +kernel, by decide +kernel⟩
theorem YS_X12_rootOf : Cond.static yX12_rootOf ∈ fh_U := fh_at 1178 (by decide +kernel) rfl
theorem Y_X12_isSquare : fh_Y yX12_isSquare cX12_isSquare 4 (some .boolean) 1 := ⟨fh_at 1176 (by decide +kernel) rfl, fh_at 13 (by decide +kernel) rfl, by decide +kernel, by decide +kernel, by decide +kernel⟩
theorem YV_X12_isSquare : fh_YV yX12_isSquare := ⟨fh_at 1175 (by decide +kernel) rfl, fh_atp (n := 49) 47 (by decide +kernel)⟩
theorem Y_X12_layStates : fh_Y yX12_layStates cX12_layStates 11 none 1 := ⟨fh_at 1185 (by decide +kernel) rfl, fh_at 13 (by decide +kernel) rfl, by decide +kernel, by decide +kernel, by decide +kernel⟩
theorem YV_X12_layStates : fh_YV yX12_layStates := ⟨fh_at 1184 (by decide +kernel) rfl, fh_atp (n := 49) 48 (by decide +kernel)⟩
theorem Y_X12_floorOf : fh_Y yX12_floorOf cX12_floorOf 6 (some .long) 3 := ⟨fh_at 1189 (by decide +kernel) rfl, fh_at 13 (by decide +kernel) rfl, by decide +kernel, by decide +kernel, by decide +kernel⟩
theorem YS_X12_floorOf : Cond.static yX12_floorOf ∈ fh_U := fh_at 1188 (by decide +kernel) rfl
theorem Y_X12_layRoot : fh_Y yX12_layRoot cX12_layRoot 4 none 1 := ⟨fh_at 1172 (by decide +kernel) rfl, fh_at 13 (by decide +kernel) rfl, by decide +kernel, by decide +kernel, by decide +kernel⟩
theorem YV_X12_layRoot : fh_YV yX12_layRoot := ⟨fh_at 1171 (by decide +kernel) rfl, fh_atp (n := 49) 46 (by decide +kernel)⟩
theorem Y_X12_layTold : fh_Y yX12_layTold cX12_layTold 6 none 1 := ⟨fh_at 1193 (by decide +kernel) rfl, fh_at 13 (by decide +kernel) rfl, by decide +kernel, by decide +kernel, by decide +kernel⟩
theorem YV_X12_layTold : fh_YV yX12_layTold := ⟨fh_at 1192 (by decide +kernel) rfl, fh_atp (n := 49) 49 (by decide +kernel)⟩
theorem Y_X12_timesAnd : fh_Y yX12_timesAnd cX12_timesAnd 9 (some .long) 3 := ⟨fh_at 1250 (by decide +kernel) rfl, fh_at 13 (by decide +kernel) rfl, by decide +kernel, by decide +kernel, by decide +kernel⟩
theorem YV_X12_timesAnd : fh_YV yX12_timesAnd := ⟨fh_at 1249 (by decide +kernel) rfl, fh_atp (n := 49) 62 (by decide +kernel)⟩
theorem Y_X12_begins : fh_Y yX12_begins cX12_begins 4 none 3 := ⟨fh_at 1205 (by decide +kernel) rfl, fh_at 13 (by decide +kernel) rfl, by decide +kernel, by decide +kernel, by decide +kernel⟩
theorem YV_X12_begins : fh_YV yX12_begins := ⟨fh_at 1204 (by decide +kernel) rfl, fh_atp (n := 49) 52 (by decide +kernel)⟩
theorem Y_X12_numbers : fh_Y yX12_numbers cX12_numbers 9 none 8 := ⟨fh_at 1209 (by decide +kernel) rfl, fh_at 13 (by decide +kernel) rfl, by decide +kernel, by decide +kernel, by decide +kernel⟩
theorem YV_X12_numbers : fh_YV yX12_numbers := ⟨fh_at 1208 (by decide +kernel) rfl, fh_atp (n := 49) 53 (by decide +kernel)⟩
theorem Y_X12_beginsSingle : fh_Y yX12_beginsSingle cX12_beginsSingle 6 none 5 := ⟨fh_at 1201 (by decide +kernel) rfl, fh_at 13 (by decide +kernel) rfl, by decide +kernel, by decide +kernel, by decide +kernel⟩
theorem YV_X12_beginsSingle : fh_YV yX12_beginsSingle := ⟨fh_at 1200 (by decide +kernel) rfl, fh_atp (n := 49) 51 (by decide +kernel)⟩
theorem Y_X12_beginsDouble : fh_Y yX12_beginsDouble cX12_beginsDouble 4 none 3 := ⟨fh_at 1213 (by decide +kernel) rfl, fh_at 13 (by decide +kernel) rfl, by decide +kernel, by decide +kernel, by decide +kernel⟩
theorem YV_X12_beginsDouble : fh_YV yX12_beginsDouble := ⟨fh_at 1212 (by decide +kernel) rfl, fh_atp (n := 49) 54 (by decide +kernel)⟩
theorem Y_X12_hasEnded : fh_Y yX12_hasEnded cX12_hasEnded 1 (some .boolean) 0 := ⟨fh_at 1221 (by decide +kernel) rfl, fh_at 13 (by decide +kernel) rfl, by decide +kernel, by decide +kernel, by decide +kernel⟩
theorem YV_X12_hasEnded : fh_YV yX12_hasEnded := ⟨fh_at 1220 (by decide +kernel) rfl, fh_atp (n := 49) 56 (by decide +kernel)⟩
theorem Y_X12_mayBeSure : fh_Y yX12_mayBeSure cX12_mayBeSure 2 (some .boolean) 0 := ⟨fh_at 1229 (by decide +kernel) rfl, fh_at 13 (by decide +kernel) rfl, by decide +kernel, by decide +kernel, by decide +kernel⟩
theorem YV_X12_mayBeSure : fh_YV yX12_mayBeSure := ⟨fh_at 1228 (by decide +kernel) rfl, fh_atp (n := 49) 58 (by decide +kernel)⟩
theorem Y_X12_haveOneSign : fh_Y yX12_haveOneSign cX12_haveOneSign 4 (some .boolean) 2 := ⟨fh_at 1240 (by decide +kernel) rfl, fh_at 13 (by decide +kernel) rfl, by decide +kernel, by decide +kernel, by decide +kernel⟩
theorem YS_X12_haveOneSign : Cond.static yX12_haveOneSign ∈ fh_U := fh_at 1239 (by decide +kernel) rfl
theorem Y_X12_corner : fh_Y yX12_corner cX12_corner 5 (some .long) 2 := ⟨fh_at 1237 (by decide +kernel) rfl, fh_at 13 (by decide +kernel) rfl, by decide +kernel, by decide +kernel, by decide +kernel⟩
theorem YV_X12_corner : fh_YV yX12_corner := ⟨fh_at 1236 (by decide +kernel) rfl, fh_atp (n := 49) 60 (by decide +kernel)⟩
theorem Y_X12_corners : fh_Y yX12_corners cX12_corners 1 (some .int) 0 := ⟨fh_at 1233 (by decide +kernel) rfl, fh_at 13 (by decide +kernel) rfl, by decide +kernel, by decide +kernel, by decide +kernel⟩
theorem YV_X12_corners : fh_YV yX12_corners := ⟨fh_at 1232 (by decide +kernel) rfl, fh_atp (n := 49) 59 (by decide +kernel)⟩
theorem Y_X12_isSure : fh_Y yX12_isSure cX12_isSure 6 (some .boolean) 0 := ⟨fh_at 1225 (by decide +kernel) rfl, fh_at 13 (by decide +kernel) rfl, by decide +kernel, by decide +kernel, by decide +kernel⟩
theorem YV_X12_isSure : fh_YV yX12_isSure := ⟨fh_at 1224 (by decide +kernel) rfl, fh_atp (n := 49) 57 (by decide +kernel)⟩
theorem Y_X12_letsOut : fh_Y yX12_letsOut cX12_letsOut 4 (some .boolean) 1 := ⟨fh_at 1244 (by decide +kernel) rfl, fh_at 13 (by decide +kernel) rfl, by decide +kernel, by decide +kernel, by decide +kernel⟩
theorem YV_X12_letsOut : fh_YV yX12_letsOut := ⟨fh_at 1243 (by decide +kernel) rfl, fh_atp (n := 49) 61 (by decide +kernel)⟩
theorem Y_X12_takesThen : fh_Y yX12_takesThen cX12_takesThen 2 none 0 := ⟨fh_at 1257 (by decide +kernel) rfl, fh_at 13 (by decide +kernel) rfl, by decide +kernel, by decide +kernel, by decide +kernel⟩
theorem YV_X12_takesThen : fh_YV yX12_takesThen := ⟨fh_at 1256 (by decide +kernel) rfl, fh_atp (n := 49) 63 (by decide +kernel)⟩
theorem Y_X12_readsSingle : fh_Y yX12_readsSingle cX12_readsSingle 4 none 1 := ⟨fh_at 1281 (by decide +kernel) rfl, fh_at 13 (by decide +kernel) rfl, by decide +kernel, by decide +kernel, by decide +kernel⟩
theorem YV_X12_readsSingle : fh_YV yX12_readsSingle := ⟨fh_at 1280 (by decide +kernel) rfl, fh_atp (n := 49) 69 (by decide +kernel)⟩
theorem Y_X12_readsOne : fh_Y yX12_readsOne cX12_readsOne 4 none 1 := ⟨fh_at 1289 (by decide +kernel) rfl, fh_at 13 (by decide +kernel) rfl, by decide +kernel, by decide +kernel, by decide +kernel⟩
theorem YV_X12_readsOne : fh_YV yX12_readsOne := ⟨fh_at 1288 (by decide +kernel) rfl, fh_atp (n := 49) 71 (by decide +kernel)⟩
theorem Y_X12_readsOther : fh_Y yX12_readsOther cX12_readsOther 4 none 1 := ⟨fh_at 1285 (by decide +kernel) rfl, fh_at 13 (by decide +kernel) rfl, by decide +kernel, by decide +kernel, by decide +kernel⟩
theorem YV_X12_readsOther : fh_YV yX12_readsOther := ⟨fh_at 1284 (by decide +kernel) rfl, fh_atp (n := 49) 70 (by decide +kernel)⟩
theorem Y_X12_endsOne : fh_Y yX12_endsOne cX12_endsOne 2 none 0 := ⟨fh_at 1269 (by decide +kernel) rfl, fh_at 13 (by decide +kernel) rfl, by decide +kernel, by decide +kernel, by decide +kernel⟩
theorem YV_X12_endsOne : fh_YV yX12_endsOne := ⟨fh_at 1268 (by decide +kernel) rfl, fh_atp (n := 49) 66 (by decide +kernel)⟩
theorem Y_X12_endsOther : fh_Y yX12_endsOther cX12_endsOther 2 none 0 := ⟨fh_at 1265 (by decide +kernel) rfl, fh_at 13 (by decide +kernel) rfl, by decide +kernel, by decide +kernel, by decide +kernel⟩
theorem YV_X12_endsOther : fh_YV yX12_endsOther := ⟨fh_at 1264 (by decide +kernel) rfl, fh_atp (n := 49) 65 (by decide +kernel)⟩
theorem Y_X12_turns : fh_Y yX12_turns cX12_turns 2 none 0 := ⟨fh_at 1273 (by decide +kernel) rfl, fh_at 13 (by decide +kernel) rfl, by decide +kernel, by decide +kernel, by decide +kernel⟩
theorem YV_X12_turns : fh_YV yX12_turns := ⟨fh_at 1272 (by decide +kernel) rfl, fh_atp (n := 49) 67 (by decide +kernel)⟩
theorem Y_X12_reads : fh_Y yX12_reads cX12_reads 5 (some .int) 0 := ⟨fh_at 1261 (by decide +kernel) rfl, fh_at 13 (by decide +kernel) rfl, by decide +kernel, by decide +kernel, by decide +kernel⟩
theorem YV_X12_reads : fh_YV yX12_reads := ⟨fh_at 1260 (by decide +kernel) rfl, fh_atp (n := 49) 64 (by decide +kernel)⟩
theorem Y_X12_goesToNext : fh_Y yX12_goesToNext cX12_goesToNext 2 (some .int) 0 := ⟨fh_at 1217 (by decide +kernel) rfl, fh_at 13 (by decide +kernel) rfl, by decide +kernel, by decide +kernel, by decide +kernel⟩
theorem YV_X12_goesToNext : fh_YV yX12_goesToNext := ⟨fh_at 1216 (by decide +kernel) rfl, fh_atp (n := 49) 55 (by decide +kernel)⟩
theorem Y_X12_layMade : fh_Y yX12_layMade cX12_layMade 4 none 1 := ⟨fh_at 1197 (by decide +kernel) rfl, fh_at 13 (by decide +kernel) rfl, by decide +kernel, by decide +kernel, by decide +kernel⟩
theorem YV_X12_layMade : fh_YV yX12_layMade := ⟨fh_at 1196 (by decide +kernel) rfl, fh_atp (n := 49) 50 (by decide +kernel)⟩
theorem Y_X12_keep : fh_Y yX12_keep cX12_keep 2 none 0 := ⟨fh_at 1467 (by decide +kernel) rfl, fh_at 13 (by decide +kernel) rfl, by decide +kernel, by decide +kernel, by decide +kernel⟩
theorem YV_X12_keep : fh_YV yX12_keep := ⟨fh_at 1466 (by decide +kernel) rfl, fh_atp (n := 49) 73 (by decide +kernel)⟩
theorem Y_X12_undo : fh_Y yX12_undo cX12_undo 2 (some .int) 0 := ⟨fh_at 1446 (by decide +kernel) rfl, fh_at 13 (by decide +kernel) rfl, by decide +kernel, by decide +kernel, by decide +kernel⟩
theorem YV_X12_undo : fh_YV yX12_undo := ⟨fh_at 1444 (by decide +kernel) rfl, fh_at 1445 (by decide +kernel) rfl⟩
theorem Y_X12_become : fh_Y yX12_become cX12_become 8 none 6 := ⟨fh_at 1463 (by decide +kernel) rfl, fh_at 13 (by decide +kernel) rfl, by decide +kernel, by decide +kernel, by decide +kernel⟩
theorem YV_X12_become : fh_YV yX12_become := ⟨fh_at 1462 (by decide +kernel) rfl, fh_atp (n := 49) 72 (by decide +kernel)⟩
theorem Y_X12_fraction : fh_Y yX12_fraction cX12_fraction 4 (some .boolean) 3 := ⟨fh_at 1450 (by decide +kernel) rfl, fh_at 13 (by decide +kernel) rfl, by decide +kernel, by decide +kernel, by decide +kernel⟩
theorem YV_X12_fraction : fh_YV yX12_fraction := ⟨fh_at 1448 (by decide +kernel) rfl, fh_at 1449 (by decide +kernel) rfl⟩
theorem Y_X12_root : fh_Y yX12_root cX12_root 5 (some .boolean) 4 := ⟨fh_at 1471 (by decide +kernel) rfl, fh_at 13 (by decide +kernel) rfl, by decide +kernel, by decide +kernel, by decide +kernel⟩
theorem YV_X12_root : fh_YV yX12_root := ⟨fh_at 1469 (by decide +kernel) rfl, fh_at 1470 (by decide +kernel) rfl⟩
theorem Y_X12_areSmall : fh_Y yX12_areSmall cX12_areSmall 4 (some .boolean) 4 := ⟨fh_at 1482 (by decide +kernel) rfl, fh_at 13 (by decide +kernel) rfl, by decide +kernel, by decide +kernel, by decide +kernel⟩
theorem YS_X12_areSmall : Cond.static yX12_areSmall ∈ fh_U := fh_at 1481 (by decide +kernel) rfl
theorem Y_X12_single : fh_Y yX12_single cX12_single 7 (some .boolean) 6 := ⟨fh_at 1479 (by decide +kernel) rfl, fh_at 13 (by decide +kernel) rfl, by decide +kernel, by decide +kernel, by decide +kernel⟩
theorem YV_X12_single : fh_YV yX12_single := ⟨fh_at 1477 (by decide +kernel) rfl, fh_at 1478 (by decide +kernel) rfl⟩
theorem Y_X12_join : fh_Y yX12_join cX12_join 5 (some .boolean) 4 := ⟨fh_at 1486 (by decide +kernel) rfl, fh_at 13 (by decide +kernel) rfl, by decide +kernel, by decide +kernel, by decide +kernel⟩
theorem YV_X12_join : fh_YV yX12_join := ⟨fh_at 1484 (by decide +kernel) rfl, fh_at 1485 (by decide +kernel) rfl⟩
theorem Y_X12_kindMany : fh_Y yX12_kindMany cX12_kindMany 4 (some .int) 1 := ⟨fh_at 1495 (by decide +kernel) rfl, fh_at 13 (by decide +kernel) rfl, by decide +kernel, by decide +kernel, by decide +kernel⟩
theorem YV_X12_kindMany : fh_YV yX12_kindMany := ⟨fh_at 1494 (by decide +kernel) rfl, fh_atp (n := 49) 74 (by decide +kernel)⟩
theorem Y_X12_stopMany : fh_Y yX12_stopMany cX12_stopMany 4 (some .int) 1 := ⟨fh_at 1499 (by decide +kernel) rfl, fh_at 13 (by decide +kernel) rfl, by decide +kernel, by decide +kernel, by decide +kernel⟩
theorem YV_X12_stopMany : fh_YV yX12_stopMany := ⟨fh_at 1498 (by decide +kernel) rfl, fh_atp (n := 49) 75 (by decide +kernel)⟩
theorem Y_X12_count : fh_Y yX12_count cX12_count 2 (some .int) 1 := ⟨fh_at 1491 (by decide +kernel) rfl, fh_at 13 (by decide +kernel) rfl, by decide +kernel, by decide +kernel, by decide +kernel⟩
theorem YV_X12_count : fh_YV yX12_count := ⟨fh_at 1489 (by decide +kernel) rfl, fh_at 1490 (by decide +kernel) rfl⟩
theorem Y_X12_greatestOf : fh_Y yX12_greatestOf cX12_greatestOf 4 (some .int) 1 := ⟨fh_at 1512 (by decide +kernel) rfl, fh_at 13 (by decide +kernel) rfl, by decide +kernel, by decide +kernel, by decide +kernel⟩
theorem YV_X12_greatestOf : fh_YV yX12_greatestOf := ⟨fh_at 1511 (by decide +kernel) rfl, fh_atp (n := 49) 77 (by decide +kernel)⟩
theorem Y_X12_sumTo : fh_Y yX12_sumTo cX12_sumTo 6 (some .long) 2 := ⟨fh_at 1517 (by decide +kernel) rfl, fh_at 13 (by decide +kernel) rfl, by decide +kernel, by decide +kernel, by decide +kernel⟩
theorem YV_X12_sumTo : fh_YV yX12_sumTo := ⟨fh_at 1516 (by decide +kernel) rfl, fh_atp (n := 49) 78 (by decide +kernel)⟩
theorem Y_X12_isMadeOf : fh_Y yX12_isMadeOf cX12_isMadeOf 4 (some .boolean) 2 := ⟨fh_at 1525 (by decide +kernel) rfl, fh_at 13 (by decide +kernel) rfl, by decide +kernel, by decide +kernel, by decide +kernel⟩
theorem YV_X12_isMadeOf : fh_YV yX12_isMadeOf := ⟨fh_at 1524 (by decide +kernel) rfl, fh_atp (n := 49) 80 (by decide +kernel)⟩
theorem Y_X12_madeOf : fh_Y yX12_madeOf cX12_madeOf 4 (some .int) 1 := ⟨fh_at 1521 (by decide +kernel) rfl, fh_at 13 (by decide +kernel) rfl, by decide +kernel, by decide +kernel, by decide +kernel⟩
theorem YV_X12_madeOf : fh_YV yX12_madeOf := ⟨fh_at 1520 (by decide +kernel) rfl, fh_atp (n := 49) 79 (by decide +kernel)⟩
theorem Y_X12_of : fh_Y yX12_of cX12_of 3 (some .int) 2 := ⟨fh_at 1507 (by decide +kernel) rfl, fh_at 13 (by decide +kernel) rfl, by decide +kernel, by decide +kernel, by decide +kernel⟩
theorem YV_X12_of : fh_YV yX12_of := ⟨fh_at 1505 (by decide +kernel) rfl, fh_at 1506 (by decide +kernel) rfl⟩
theorem Y_X12_term : fh_Y yX12_term cX12_term 3 (some .int) 2 := ⟨fh_at 1529 (by decide +kernel) rfl, fh_at 13 (by decide +kernel) rfl, by decide +kernel, by decide +kernel, by decide +kernel⟩
theorem YV_X12_term : fh_YV yX12_term := ⟨fh_at 1527 (by decide +kernel) rfl, fh_at 1528 (by decide +kernel) rfl⟩
theorem Y_X12_read : fh_Y yX12_read cX12_read 4 (some .int) 3 := ⟨fh_at 1537 (by decide +kernel) rfl, fh_at 13 (by decide +kernel) rfl, by decide +kernel, by decide +kernel, by decide +kernel⟩
theorem YV_X12_read : fh_YV yX12_read := ⟨fh_at 1535 (by decide +kernel) rfl, fh_at 1536 (by decide +kernel) rfl⟩
theorem Y_X12_layConvergents : fh_Y yX12_layConvergents cX12_layConvergents 3 none 1 := ⟨fh_at 1545 (by decide +kernel) rfl, fh_at 13 (by decide +kernel) rfl, by decide +kernel, by decide +kernel, by decide +kernel⟩
theorem YV_X12_layConvergents : fh_YV yX12_layConvergents := ⟨fh_at 1544 (by decide +kernel) rfl, fh_atp (n := 49) 82 (by decide +kernel)⟩
theorem Y_X12_convergent : fh_Y yX12_convergent cX12_convergent 4 (some .long) 3 := ⟨fh_at 1541 (by decide +kernel) rfl, fh_at 13 (by decide +kernel) rfl, by decide +kernel, by decide +kernel, by decide +kernel⟩
theorem YV_X12_convergent : fh_YV yX12_convergent := ⟨fh_at 1539 (by decide +kernel) rfl, fh_at 1540 (by decide +kernel) rfl⟩
theorem Y_X12_nearest : fh_Y yX12_nearest cX12_nearest 5 (some .int) 2 := ⟨fh_at 1550 (by decide +kernel) rfl, fh_at 13 (by decide +kernel) rfl, by decide +kernel, by decide +kernel, by decide +kernel⟩
theorem YV_X12_nearest : fh_YV yX12_nearest := ⟨fh_at 1548 (by decide +kernel) rfl, fh_at 1549 (by decide +kernel) rfl⟩
theorem Y_X12_mediant : fh_Y yX12_mediant cX12_mediant 9 (some .long) 4 := ⟨fh_at 1554 (by decide +kernel) rfl, fh_at 13 (by decide +kernel) rfl, by decide +kernel, by decide +kernel, by decide +kernel⟩
theorem YV_X12_mediant : fh_YV yX12_mediant := ⟨fh_at 1552 (by decide +kernel) rfl, fh_at 1553 (by decide +kernel) rfl⟩
theorem Y_X12_alikeTo : fh_Y yX12_alikeTo cX12_alikeTo 4 (some .int) 2 := ⟨fh_at 1562 (by decide +kernel) rfl, fh_at 13 (by decide +kernel) rfl, by decide +kernel, by decide +kernel, by decide +kernel⟩
theorem YV_X12_alikeTo : fh_YV yX12_alikeTo := ⟨fh_at 1561 (by decide +kernel) rfl, fh_atp (n := 49) 83 (by decide +kernel)⟩
theorem Y_X12_byPlace : fh_Y yX12_byPlace cX12_byPlace 2 (some .int) 2 := ⟨fh_at 1565 (by decide +kernel) rfl, fh_at 13 (by decide +kernel) rfl, by decide +kernel, by decide +kernel, by decide +kernel⟩
theorem YS_X12_byPlace : Cond.static yX12_byPlace ∈ fh_U := fh_at 1564 (by decide +kernel) rfl
theorem Y_X12_compare : fh_Y yX12_compare cX12_compare 6 (some .int) 2 := ⟨fh_at 1558 (by decide +kernel) rfl, fh_at 13 (by decide +kernel) rfl, by decide +kernel, by decide +kernel, by decide +kernel⟩
theorem YV_X12_compare : fh_YV yX12_compare := ⟨fh_at 1556 (by decide +kernel) rfl, fh_at 1557 (by decide +kernel) rfl⟩
theorem Y_X12_alike : fh_Y yX12_alike cX12_alike 3 (some .int) 2 := ⟨fh_at 1569 (by decide +kernel) rfl, fh_at 13 (by decide +kernel) rfl, by decide +kernel, by decide +kernel, by decide +kernel⟩
theorem YV_X12_alike : fh_YV yX12_alike := ⟨fh_at 1567 (by decide +kernel) rfl, fh_at 1568 (by decide +kernel) rfl⟩
theorem Y_X12_comesAgain : fh_Y yX12_comesAgain cX12_comesAgain 5 (some .boolean) 3 := ⟨fh_at 1581 (by decide +kernel) rfl, fh_at 13 (by decide +kernel) rfl, by decide +kernel, by decide +kernel, by decide +kernel⟩
theorem YV_X12_comesAgain : fh_YV yX12_comesAgain := ⟨fh_at 1580 (by decide +kernel) rfl, fh_atp (n := 49) 85 (by decide +kernel)⟩
theorem Y_X12_layAgain : fh_Y yX12_layAgain cX12_layAgain 4 none 1 := ⟨fh_at 1577 (by decide +kernel) rfl, fh_at 13 (by decide +kernel) rfl, by decide +kernel, by decide +kernel, by decide +kernel⟩
theorem YV_X12_layAgain : fh_YV yX12_layAgain := ⟨fh_at 1576 (by decide +kernel) rfl, fh_atp (n := 49) 84 (by decide +kernel)⟩
theorem Y_X12_again : fh_Y yX12_again cX12_again 3 (some .int) 2 := ⟨fh_at 1573 (by decide +kernel) rfl, fh_at 13 (by decide +kernel) rfl, by decide +kernel, by decide +kernel, by decide +kernel⟩
theorem YV_X12_again : fh_YV yX12_again := ⟨fh_at 1571 (by decide +kernel) rfl, fh_at 1572 (by decide +kernel) rfl⟩
theorem Y_X12_areTails : fh_Y yX12_areTails cX12_areTails 6 (some .boolean) 4 := ⟨fh_at 1589 (by decide +kernel) rfl, fh_at 13 (by decide +kernel) rfl, by decide +kernel, by decide +kernel, by decide +kernel⟩
theorem YV_X12_areTails : fh_YV yX12_areTails := ⟨fh_at 1588 (by decide +kernel) rfl, fh_atp (n := 49) 86 (by decide +kernel)⟩
theorem Y_X12_tails : fh_Y yX12_tails cX12_tails 7 (some .int) 3 := ⟨fh_at 1585 (by decide +kernel) rfl, fh_at 13 (by decide +kernel) rfl, by decide +kernel, by decide +kernel, by decide +kernel⟩
theorem YV_X12_tails : fh_YV yX12_tails := ⟨fh_at 1583 (by decide +kernel) rfl, fh_at 1584 (by decide +kernel) rfl⟩
theorem Y_X12_toldBySingle : fh_Y yX12_toldBySingle cX12_toldBySingle 8 (some .int) 6 := ⟨fh_at 1597 (by decide +kernel) rfl, fh_at 13 (by decide +kernel) rfl, by decide +kernel, by decide +kernel, by decide +kernel⟩
theorem YV_X12_toldBySingle : fh_YV yX12_toldBySingle := ⟨fh_at 1596 (by decide +kernel) rfl, fh_atp (n := 49) 87 (by decide +kernel)⟩
theorem Y_X12_floor : fh_Y yX12_floor cX12_floor 3 (some .int) 2 := ⟨fh_at 1593 (by decide +kernel) rfl, fh_at 13 (by decide +kernel) rfl, by decide +kernel, by decide +kernel, by decide +kernel⟩
theorem YV_X12_floor : fh_YV yX12_floor := ⟨fh_at 1591 (by decide +kernel) rfl, fh_at 1592 (by decide +kernel) rfl⟩
theorem Y_X12_would : fh_Y yX12_would cX12_would 7 (some .int) 6 := ⟨fh_at 1602 (by decide +kernel) rfl, fh_at 13 (by decide +kernel) rfl, by decide +kernel, by decide +kernel, by decide +kernel⟩
theorem YV_X12_would : fh_YV yX12_would := ⟨fh_at 1600 (by decide +kernel) rfl, fh_at 1601 (by decide +kernel) rfl⟩
theorem Y_X12_often : fh_Y yX12_often cX12_often 5 (some .int) 2 := ⟨fh_at 1607 (by decide +kernel) rfl, fh_at 13 (by decide +kernel) rfl, by decide +kernel, by decide +kernel, by decide +kernel⟩
theorem YV_X12_often : fh_YV yX12_often := ⟨fh_at 1605 (by decide +kernel) rfl, fh_at 1606 (by decide +kernel) rfl⟩
theorem Y_X12_left : fh_Y yX12_left cX12_left 4 (some .int) 3 := ⟨fh_at 1611 (by decide +kernel) rfl, fh_at 13 (by decide +kernel) rfl, by decide +kernel, by decide +kernel, by decide +kernel⟩
theorem YV_X12_left : fh_YV yX12_left := ⟨fh_at 1609 (by decide +kernel) rfl, fh_at 1610 (by decide +kernel) rfl⟩
theorem Y_X12_writes : fh_Y yX12_writes cX12_writes 2 none 1 := ⟨fh_at 1620 (by decide +kernel) rfl, fh_at 13 (by decide +kernel) rfl, by decide +kernel, by decide +kernel, by decide +kernel⟩
theorem YV_X12_writes : fh_YV yX12_writes := ⟨fh_at 1619 (by decide +kernel) rfl, fh_atp (n := 49) 88 (by decide +kernel)⟩
theorem Y_X12_writesNumber : fh_Y yX12_writesNumber cX12_writesNumber 3 none 1 := ⟨fh_at 1632 (by decide +kernel) rfl, fh_at 13 (by decide +kernel) rfl, by decide +kernel, by decide +kernel, by decide +kernel⟩
theorem YV_X12_writesNumber : fh_YV yX12_writesNumber := ⟨fh_at 1631 (by decide +kernel) rfl, fh_atp (n := 49) 91 (by decide +kernel)⟩
theorem Y_X12_writesSign : fh_Y yX12_writesSign cX12_writesSign 2 none 1 := ⟨fh_at 1628 (by decide +kernel) rfl, fh_at 13 (by decide +kernel) rfl, by decide +kernel, by decide +kernel, by decide +kernel⟩
theorem YV_X12_writesSign : fh_YV yX12_writesSign := ⟨fh_at 1627 (by decide +kernel) rfl, fh_atp (n := 49) 90 (by decide +kernel)⟩
theorem Y_X12_writesTerms : fh_Y yX12_writesTerms cX12_writesTerms 6 none 4 := ⟨fh_at 1624 (by decide +kernel) rfl, fh_at 13 (by decide +kernel) rfl, by decide +kernel, by decide +kernel, by decide +kernel⟩
theorem YV_X12_writesTerms : fh_YV yX12_writesTerms := ⟨fh_at 1623 (by decide +kernel) rfl, fh_atp (n := 49) 89 (by decide +kernel)⟩
theorem Y_X12_say : fh_Y yX12_say cX12_say 5 (some .int) 2 := ⟨fh_at 1615 (by decide +kernel) rfl, fh_at 13 (by decide +kernel) rfl, by decide +kernel, by decide +kernel, by decide +kernel⟩
theorem YV_X12_say : fh_YV yX12_say := ⟨fh_at 1613 (by decide +kernel) rfl, fh_at 1614 (by decide +kernel) rfl⟩
theorem Y_X12_said : fh_Y yX12_said cX12_said 2 (some .int) 1 := ⟨fh_at 1639 (by decide +kernel) rfl, fh_at 13 (by decide +kernel) rfl, by decide +kernel, by decide +kernel, by decide +kernel⟩
theorem YV_X12_said : fh_YV yX12_said := ⟨fh_at 1637 (by decide +kernel) rfl, fh_at 1638 (by decide +kernel) rfl⟩
theorem Y_X12_feed : fh_Y yX12_feed cX12_feed 8 (some .int) 5 := ⟨fh_at 1643 (by decide +kernel) rfl, fh_at 13 (by decide +kernel) rfl, by decide +kernel, by decide +kernel, by decide +kernel⟩
theorem YV_X12_feed : fh_YV yX12_feed := ⟨fh_at 1641 (by decide +kernel) rfl, fh_at 1642 (by decide +kernel) rfl⟩
theorem Y_X12_fault : fh_Y yX12_fault cX12_fault 1 (some .int) 0 := ⟨fh_at 1647 (by decide +kernel) rfl, fh_at 13 (by decide +kernel) rfl, by decide +kernel, by decide +kernel, by decide +kernel⟩
theorem YV_X12_fault : fh_YV yX12_fault := ⟨fh_at 1645 (by decide +kernel) rfl, fh_at 1646 (by decide +kernel) rfl⟩
theorem Y_X12_byteAt : fh_Y yX12_byteAt cX12_byteAt 2 (some .int) 1 := ⟨fh_at 1667 (by decide +kernel) rfl, fh_at 13 (by decide +kernel) rfl, by decide +kernel, by decide +kernel, by decide +kernel⟩
theorem YV_X12_byteAt : fh_YV yX12_byteAt := ⟨fh_at 1666 (by decide +kernel) rfl, fh_atp (n := 49) 95 (by decide +kernel)⟩
theorem Y_X12_isSmall : fh_Y yX12_isSmall cX12_isSmall 1 (some .boolean) 1 := ⟨fh_at 1670 (by decide +kernel) rfl, fh_at 13 (by decide +kernel) rfl, by decide +kernel, by decide +kernel, by decide +kernel⟩
theorem YS_X12_isSmall : Cond.static yX12_isSmall ∈ fh_U := fh_at 1669 (by decide +kernel) rfl
theorem Y_X12_isFigure : fh_Y yX12_isFigure cX12_isFigure 1 (some .boolean) 1 := ⟨fh_at 1673 (by decide +kernel) rfl, fh_at 13 (by decide +kernel) rfl, by decide +kernel, by decide +kernel, by decide +kernel⟩
theorem YS_X12_isFigure : Cond.static yX12_isFigure ∈ fh_U := fh_at 1672 (by decide +kernel) rfl
theorem Y_X12_step : fh_Y yX12_step cX12_step 2 none 0 := ⟨fh_at 1663 (by decide +kernel) rfl, fh_at 13 (by decide +kernel) rfl, by decide +kernel, by decide +kernel, by decide +kernel⟩
theorem YV_X12_step : fh_YV yX12_step := ⟨fh_at 1662 (by decide +kernel) rfl, fh_atp (n := 49) 94 (by decide +kernel)⟩
theorem Y_X12_opens : fh_Y yX12_opens cX12_opens 2 none 1 := ⟨fh_at 1659 (by decide +kernel) rfl, fh_at 13 (by decide +kernel) rfl, by decide +kernel, by decide +kernel, by decide +kernel⟩
theorem YV_X12_opens : fh_YV yX12_opens := ⟨fh_at 1658 (by decide +kernel) rfl, fh_atp (n := 49) 93 (by decide +kernel)⟩
theorem Y_X12_wrong : fh_Y yX12_wrong cX12_wrong 2 none 1 := ⟨fh_at 1689 (by decide +kernel) rfl, fh_at 13 (by decide +kernel) rfl, by decide +kernel, by decide +kernel, by decide +kernel⟩
theorem YV_X12_wrong : fh_YV yX12_wrong := ⟨fh_at 1688 (by decide +kernel) rfl, fh_atp (n := 49) 99 (by decide +kernel)⟩
theorem Y_X12_pass : fh_Y yX12_pass cX12_pass 1 none 0 := ⟨fh_at 1693 (by decide +kernel) rfl, fh_at 13 (by decide +kernel) rfl, by decide +kernel, by decide +kernel, by decide +kernel⟩
theorem YV_X12_pass : fh_YV yX12_pass := ⟨fh_at 1692 (by decide +kernel) rfl, fh_atp (n := 49) 100 (by decide +kernel)⟩
theorem Y_X12_isSign : fh_Y yX12_isSign cX12_isSign 2 (some .boolean) 1 := ⟨fh_at 1685 (by decide +kernel) rfl, fh_at 13 (by decide +kernel) rfl, by decide +kernel, by decide +kernel, by decide +kernel⟩
theorem YV_X12_isSign : fh_YV yX12_isSign := ⟨fh_at 1684 (by decide +kernel) rfl, fh_atp (n := 49) 98 (by decide +kernel)⟩
theorem Y_X12_isWord : fh_Y yX12_isWord cX12_isWord 4 (some .boolean) 1 := ⟨fh_at 1723 (by decide +kernel) rfl, fh_at 13 (by decide +kernel) rfl, by decide +kernel, by decide +kernel, by decide +kernel⟩
theorem YV_X12_isWord : fh_YV yX12_isWord := ⟨fh_at 1722 (by decide +kernel) rfl, fh_atp (n := 49) 106 (by decide +kernel)⟩
theorem Y_X12_must : fh_Y yX12_must cX12_must 2 none 1 := ⟨fh_at 1681 (by decide +kernel) rfl, fh_at 13 (by decide +kernel) rfl, by decide +kernel, by decide +kernel, by decide +kernel⟩
theorem YV_X12_must : fh_YV yX12_must := ⟨fh_at 1680 (by decide +kernel) rfl, fh_atp (n := 49) 97 (by decide +kernel)⟩
theorem Y_X12_number : fh_Y yX12_number cX12_number 5 (some .int) 2 := ⟨fh_at 1697 (by decide +kernel) rfl, fh_at 13 (by decide +kernel) rfl, by decide +kernel, by decide +kernel, by decide +kernel⟩
theorem YV_X12_number : fh_YV yX12_number := ⟨fh_at 1696 (by decide +kernel) rfl, fh_atp (n := 49) 101 (by decide +kernel)⟩
theorem Y_X12_ends : fh_Y yX12_ends cX12_ends 1 (some .int) 0 := ⟨fh_at 1714 (by decide +kernel) rfl, fh_at 13 (by decide +kernel) rfl, by decide +kernel, by decide +kernel, by decide +kernel⟩
theorem YV_X12_ends : fh_YV yX12_ends := ⟨fh_at 1713 (by decide +kernel) rfl, fh_atp (n := 49) 105 (by decide +kernel)⟩
theorem Y_X12_keepsTerm : fh_Y yX12_keepsTerm cX12_keepsTerm 2 none 1 := ⟨fh_at 1702 (by decide +kernel) rfl, fh_at 13 (by decide +kernel) rfl, by decide +kernel, by decide +kernel, by decide +kernel⟩
theorem YV_X12_keepsTerm : fh_YV yX12_keepsTerm := ⟨fh_at 1701 (by decide +kernel) rfl, fh_atp (n := 49) 102 (by decide +kernel)⟩
theorem Y_X12_isNext : fh_Y yX12_isNext cX12_isNext 1 (some .boolean) 0 := ⟨fh_at 1706 (by decide +kernel) rfl, fh_at 13 (by decide +kernel) rfl, by decide +kernel, by decide +kernel, by decide +kernel⟩
theorem YV_X12_isNext : fh_YV yX12_isNext := ⟨fh_at 1705 (by decide +kernel) rfl, fh_atp (n := 49) 103 (by decide +kernel)⟩
theorem Y_X12_readTold : fh_Y yX12_readTold cX12_readTold 3 none 0 := ⟨fh_at 1677 (by decide +kernel) rfl, fh_at 13 (by decide +kernel) rfl, by decide +kernel, by decide +kernel, by decide +kernel⟩
theorem YV_X12_readTold : fh_YV yX12_readTold := ⟨fh_at 1676 (by decide +kernel) rfl, fh_atp (n := 49) 96 (by decide +kernel)⟩
theorem Y_X12_readAgainOnes : fh_Y yX12_readAgainOnes cX12_readAgainOnes 1 none 0 := ⟨fh_at 1710 (by decide +kernel) rfl, fh_at 13 (by decide +kernel) rfl, by decide +kernel, by decide +kernel, by decide +kernel⟩
theorem YV_X12_readAgainOnes : fh_YV yX12_readAgainOnes := ⟨fh_at 1709 (by decide +kernel) rfl, fh_atp (n := 49) 104 (by decide +kernel)⟩
theorem Y_X12_isRight : fh_Y yX12_isRight cX12_isRight 3 (some .boolean) 2 := ⟨fh_at 1655 (by decide +kernel) rfl, fh_at 13 (by decide +kernel) rfl, by decide +kernel, by decide +kernel, by decide +kernel⟩
theorem YV_X12_isRight : fh_YV yX12_isRight := ⟨fh_at 1654 (by decide +kernel) rfl, fh_atp (n := 49) 92 (by decide +kernel)⟩
theorem Y_X12_told : fh_Y yX12_told cX12_told 5 (some .int) 2 := ⟨fh_at 1651 (by decide +kernel) rfl, fh_at 13 (by decide +kernel) rfl, by decide +kernel, by decide +kernel, by decide +kernel⟩
theorem YV_X12_told : fh_YV yX12_told := ⟨fh_at 1649 (by decide +kernel) rfl, fh_at 1650 (by decide +kernel) rfl⟩
theorem Y_X12_valueHere : fh_Y yX12_valueHere cX12_valueHere 2 (some .long) 0 := ⟨fh_at 1755 (by decide +kernel) rfl, fh_at 13 (by decide +kernel) rfl, by decide +kernel, by decide +kernel, by decide +kernel⟩
theorem YV_X12_valueHere : fh_YV yX12_valueHere := ⟨fh_at 1754 (by decide +kernel) rfl, fh_atp (n := 49) 113 (by decide +kernel)⟩
theorem Y_X12_readValue : fh_Y yX12_readValue cX12_readValue 3 (some .long) 0 := ⟨fh_at 1751 (by decide +kernel) rfl, fh_at 13 (by decide +kernel) rfl, by decide +kernel, by decide +kernel, by decide +kernel⟩
theorem YV_X12_readValue : fh_YV yX12_readValue := ⟨fh_at 1750 (by decide +kernel) rfl, fh_atp (n := 49) 112 (by decide +kernel)⟩
theorem Y_X12_goesIn : fh_Y yX12_goesIn cX12_goesIn 1 none 0 := ⟨fh_at 1747 (by decide +kernel) rfl, fh_at 13 (by decide +kernel) rfl, by decide +kernel, by decide +kernel, by decide +kernel⟩
theorem YV_X12_goesIn : fh_YV yX12_goesIn := ⟨fh_at 1746 (by decide +kernel) rfl, fh_atp (n := 49) 111 (by decide +kernel)⟩
theorem Y_X12_readFact : fh_Y yX12_readFact cX12_readFact 6 (some .boolean) 0 := ⟨fh_at 1742 (by decide +kernel) rfl, fh_at 13 (by decide +kernel) rfl, by decide +kernel, by decide +kernel, by decide +kernel⟩
theorem YV_X12_readFact : fh_YV yX12_readFact := ⟨fh_at 1741 (by decide +kernel) rfl, fh_atp (n := 49) 110 (by decide +kernel)⟩
theorem Y_X12_readBoth : fh_Y yX12_readBoth cX12_readBoth 3 (some .boolean) 0 := ⟨fh_at 1738 (by decide +kernel) rfl, fh_at 13 (by decide +kernel) rfl, by decide +kernel, by decide +kernel, by decide +kernel⟩
theorem YV_X12_readBoth : fh_YV yX12_readBoth := ⟨fh_at 1737 (by decide +kernel) rfl, fh_atp (n := 49) 109 (by decide +kernel)⟩
theorem Y_X12_readTest : fh_Y yX12_readTest cX12_readTest 3 (some .boolean) 0 := ⟨fh_at 1734 (by decide +kernel) rfl, fh_at 13 (by decide +kernel) rfl, by decide +kernel, by decide +kernel, by decide +kernel⟩
theorem YV_X12_readTest : fh_YV yX12_readTest := ⟨fh_at 1733 (by decide +kernel) rfl, fh_atp (n := 49) 108 (by decide +kernel)⟩
theorem Y_X12_readQuestion : fh_Y yX12_readQuestion cX12_readQuestion 4 (some .boolean) 2 := ⟨fh_at 1729 (by decide +kernel) rfl, fh_at 13 (by decide +kernel) rfl, by decide +kernel, by decide +kernel, by decide +kernel⟩
theorem YV_X12_readQuestion : fh_YV yX12_readQuestion := ⟨fh_at 1728 (by decide +kernel) rfl, fh_atp (n := 49) 107 (by decide +kernel)⟩
theorem Y_X12_ask : fh_Y yX12_ask cX12_ask 8 (some .int) 2 := ⟨fh_at 1718 (by decide +kernel) rfl, fh_at 13 (by decide +kernel) rfl, by decide +kernel, by decide +kernel, by decide +kernel⟩
theorem YV_X12_ask : fh_YV yX12_ask := ⟨fh_at 1716 (by decide +kernel) rfl, fh_at 1717 (by decide +kernel) rfl⟩
theorem Y_J13_bitCount_95d88 : fh_Y yJ13_bitCount_95d88 cJ13_bitCount_95d88 2 (some .int) 1 := ⟨fh_at 891 (by decide +kernel) rfl, fh_at 24 (by decide +kernel) rfl, by decide +kernel, by decide +kernel, by decide +kernel⟩
theorem YS_J13_bitCount_95d88 : Cond.static yJ13_bitCount_95d88 ∈ fh_U := fh_at 890 (by decide +kernel) rfl
theorem Y_J9_floorDiv_f86c9 : fh_Y yJ9_floorDiv_f86c9 cJ9_floorDiv_f86c9 6 (some .long) 2 := ⟨fh_at 727 (by decide +kernel) rfl, fh_at 14 (by decide +kernel) rfl, by decide +kernel, by decide +kernel, by decide +kernel⟩
theorem YS_J9_floorDiv_f86c9 : Cond.static yJ9_floorDiv_f86c9 ∈ fh_U := fh_at 726 (by decide +kernel) rfl
theorem Y_J9_abs_0f7a4 : fh_Y yJ9_abs_0f7a4 cJ9_abs_0f7a4 1 (some .int) 1 := ⟨fh_at 1131 (by decide +kernel) rfl, fh_at 14 (by decide +kernel) rfl, by decide +kernel, by decide +kernel, by decide +kernel⟩
theorem YS_J9_abs_0f7a4 : Cond.static yJ9_abs_0f7a4 ∈ fh_U := fh_at 1130 (by decide +kernel) rfl
theorem Y_J9_abs_067f4 : fh_Y yJ9_abs_067f4 cJ9_abs_067f4 2 (some .long) 1 := ⟨fh_at 749 (by decide +kernel) rfl, fh_at 14 (by decide +kernel) rfl, by decide +kernel, by decide +kernel, by decide +kernel⟩
theorem YS_J9_abs_067f4 : Cond.static yJ9_abs_067f4 ∈ fh_U := fh_at 748 (by decide +kernel) rfl
theorem Y_J9_max_7cf53 : fh_Y yJ9_max_7cf53 cJ9_max_7cf53 2 (some .int) 2 := ⟨fh_at 929 (by decide +kernel) rfl, fh_at 14 (by decide +kernel) rfl, by decide +kernel, by decide +kernel, by decide +kernel⟩
theorem YS_J9_max_7cf53 : Cond.static yJ9_max_7cf53 ∈ fh_U := fh_at 928 (by decide +kernel) rfl
theorem Y_J9_min_7cf53 : fh_Y yJ9_min_7cf53 cJ9_min_7cf53 2 (some .int) 2 := ⟨fh_at 558 (by decide +kernel) rfl, fh_at 14 (by decide +kernel) rfl, by decide +kernel, by decide +kernel, by decide +kernel⟩
theorem YS_J9_min_7cf53 : Cond.static yJ9_min_7cf53 ∈ fh_U := fh_at 557 (by decide +kernel) rfl
theorem Lk_RX11_84 : Cond.methodLink RX11 84 yX10_addFour ∈ fh_U := fh_at 384 (by decide +kernel) rfl
theorem Lk_RX11_87 : Cond.methodLink RX11 87 yX11_find ∈ fh_U := fh_at 400 (by decide +kernel) rfl
theorem Lk_RX11_98 : Cond.methodLink RX11 98 yX10_open ∈ fh_U := fh_at 537 (by decide +kernel) rfl
theorem Lk_RX11_101 : Cond.methodLink RX11 101 yX7_parse ∈ fh_U := fh_at 636 (by decide +kernel) rfl
theorem Lk_RX11_104 : Cond.methodLink RX11 104 yX10_empty ∈ fh_U := fh_at 673 (by decide +kernel) rfl
theorem Lk_RX11_110 : Cond.methodLink RX11 110 yX11_act ∈ fh_U := fh_at 407 (by decide +kernel) rfl
theorem Lk_RX11_114 : Cond.methodLink RX11 114 yX3_become ∈ fh_U := fh_at 427 (by decide +kernel) rfl
theorem Lk_RX11_120 : Cond.methodLink RX11 120 yX7_tellTo ∈ fh_U := fh_at 677 (by decide +kernel) rfl
theorem Lk_RX11_127 : Cond.methodLink RX11 127 yX11_settled ∈ fh_U := fh_at 693 (by decide +kernel) rfl
theorem Lk_RX11_130 : Cond.methodLink RX11 130 yX4_answer ∈ fh_U := fh_at 852 (by decide +kernel) rfl
theorem Lk_RX11_137 : Cond.methodLink RX11 137 yX11_within ∈ fh_U := fh_at 404 (by decide +kernel) rfl
theorem Lk_RX11_141 : Cond.methodLink RX11 141 yX11_fitsSingle ∈ fh_U := fh_at 439 (by decide +kernel) rfl
theorem Lk_RX11_145 : Cond.methodLink RX11 145 yX1_takeBack ∈ fh_U := fh_at 450 (by decide +kernel) rfl
theorem Lk_RX11_149 : Cond.methodLink RX11 149 yX11_markStale ∈ fh_U := fh_at 419 (by decide +kernel) rfl
theorem Lk_RX11_156 : Cond.methodLink RX11 156 yX11_rowsOfKind ∈ fh_U := fh_at 906 (by decide +kernel) rfl
theorem Lk_RX11_160 : Cond.methodLink RX11 160 yX11_rowsThatStop ∈ fh_U := fh_at 910 (by decide +kernel) rfl
theorem Lk_RX11_184 : Cond.methodLink RX11 184 yX6_greatestBehindFirst ∈ fh_U := fh_at 922 (by decide +kernel) rfl
theorem Lk_RX11_188 : Cond.methodLink RX11 188 yX6_wrappedSum ∈ fh_U := fh_at 930 (by decide +kernel) rfl
theorem Lk_RX11_191 : Cond.methodLink RX11 191 yX11_rowsMadeOf ∈ fh_U := fh_at 934 (by decide +kernel) rfl
theorem Lk_RX11_196 : Cond.methodLink RX11 196 yX11_requireTerm ∈ fh_U := fh_at 946 (by decide +kernel) rfl
theorem Lk_RX11_200 : Cond.methodLink RX11 200 yX6_termAt ∈ fh_U := fh_at 951 (by decide +kernel) rfl
theorem Lk_RX11_205 : Cond.methodLink RX11 205 yX6_secondReadsAt ∈ fh_U := fh_at 960 (by decide +kernel) rfl
theorem Lk_RX11_208 : Cond.methodLink RX11 208 yX6_firstReadsAt ∈ fh_U := fh_at 964 (by decide +kernel) rfl
theorem Lk_RX11_211 : Cond.methodLink RX11 211 yX2_climb ∈ fh_U := fh_at 975 (by decide +kernel) rfl
theorem Lk_RX11_229 : Cond.methodLink RX11 229 yX2_start ∈ fh_U := fh_at 999 (by decide +kernel) rfl
theorem Lk_RX11_232 : Cond.methodLink RX11 232 yX2_climbOne ∈ fh_U := fh_at 1000 (by decide +kernel) rfl
theorem Lk_RX11_240 : Cond.methodLink RX11 240 yX11_grown ∈ fh_U := fh_at 1009 (by decide +kernel) rfl
theorem Lk_RX11_249 : Cond.methodLink RX11 249 yX11_placesAlike ∈ fh_U := fh_at 1017 (by decide +kernel) rfl
theorem Lk_RX11_253 : Cond.methodLink RX11 253 yX6_unknownAt ∈ fh_U := fh_at 1020 (by decide +kernel) rfl
theorem Lk_RX11_257 : Cond.methodLink RX11 257 yX6_knows ∈ fh_U := fh_at 949 (by decide +kernel) rfl
theorem Lk_RX11_262 : Cond.methodLink RX11 262 yX11_comingAgain ∈ fh_U := fh_at 1036 (by decide +kernel) rfl
theorem Lk_RX11_265 : Cond.methodLink RX11 265 yX11_partOfPair ∈ fh_U := fh_at 1043 (by decide +kernel) rfl
theorem Lk_RX11_271 : Cond.methodLink RX11 271 yX11_tailsAlike ∈ fh_U := fh_at 1054 (by decide +kernel) rfl
theorem Lk_RX11_276 : Cond.methodLink RX11 276 yX5_startSingle ∈ fh_U := fh_at 765 (by decide +kernel) rfl
theorem Lk_RX11_280 : Cond.methodLink RX11 280 yX11_triedTerm ∈ fh_U := fh_at 1065 (by decide +kernel) rfl
theorem Lk_RX11_290 : Cond.methodLink RX11 290 yX11_isSquare ∈ fh_U := fh_at 736 (by decide +kernel) rfl
theorem Lk_RX11_304 : Cond.methodLink RX11 304 yX9_start ∈ fh_U := fh_at 743 (by decide +kernel) rfl
theorem Lk_RX11_307 : Cond.methodLink RX11 307 yX9_whole ∈ fh_U := fh_at 751 (by decide +kernel) rfl
theorem Lk_RX11_311 : Cond.methodLink RX11 311 yX9_leave ∈ fh_U := fh_at 757 (by decide +kernel) rfl
theorem Lk_RX11_323 : Cond.methodLink RX11 323 yJ9_max_7cf53 ∈ fh_U := fh_at 1103 (by decide +kernel) rfl
theorem Lk_RX11_328 : Cond.methodLink RX11 328 yX8_start ∈ fh_U := fh_at 1104 (by decide +kernel) rfl
theorem Lk_RX11_329 : Cond.methodLink RX11 329 yX8_putReturning ∈ fh_U := fh_at 1108 (by decide +kernel) rfl
theorem Lk_RX11_333 : Cond.methodLink RX11 333 yX8_putFirst ∈ fh_U := fh_at 1133 (by decide +kernel) rfl
theorem Lk_RX11_339 : Cond.methodLink RX11 339 yX8_byteAt ∈ fh_U := fh_at 458 (by decide +kernel) rfl
theorem Lk_RX11_350 : Cond.methodLink RX11 350 yX11_wholeRoot ∈ fh_U := fh_at 739 (by decide +kernel) rfl
theorem Lk_RX11_359 : Cond.methodLink RX11 359 yX11_reckon ∈ fh_U := fh_at 713 (by decide +kernel) rfl
theorem Lk_RX11_364 : Cond.methodLink RX11 364 yX6_clear ∈ fh_U := fh_at 717 (by decide +kernel) rfl
theorem Lk_RX11_367 : Cond.methodLink RX11 367 yX6_divide ∈ fh_U := fh_at 721 (by decide +kernel) rfl
theorem Lk_RX11_371 : Cond.methodLink RX11 371 yX11_reckonRoot ∈ fh_U := fh_at 732 (by decide +kernel) rfl
theorem Lk_RX11_374 : Cond.methodLink RX11 374 yX6_copyTold ∈ fh_U := fh_at 761 (by decide +kernel) rfl
theorem Lk_RX11_383 : Cond.methodLink RX11 383 yX5_run ∈ fh_U := fh_at 777 (by decide +kernel) rfl
theorem Lk_RX11_389 : Cond.methodLink RX11 389 yX5_startDouble ∈ fh_U := fh_at 847 (by decide +kernel) rfl
theorem Lk_RX11_393 : Cond.methodLink RX11 393 yX6_add ∈ fh_U := fh_at 756 (by decide +kernel) rfl
theorem Lk_RX11_398 : Cond.methodLink RX11 398 yX1_keep ∈ fh_U := fh_at 411 (by decide +kernel) rfl
theorem Lk_RX11_404 : Cond.methodLink RX11 404 yX11_isStaleSource ∈ fh_U := fh_at 423 (by decide +kernel) rfl
theorem Lk_RX11_408 : Cond.methodLink RX11 408 yJ9_min_7cf53 ∈ fh_U := fh_at 1042 (by decide +kernel) rfl
theorem Lk_RX11_411 : Cond.methodLink RX11 411 yX11_alikeFrom ∈ fh_U := fh_at 1039 (by decide +kernel) rfl
theorem Lk_RX0_28 : Cond.methodLink RX0 28 yX0_become ∈ fh_U := fh_at 803 (by decide +kernel) rfl
theorem Lk_RX1_31 : Cond.methodLink RX1 31 yX1_swap ∈ fh_U := fh_at 415 (by decide +kernel) rfl
theorem Lk_RX2_28 : Cond.methodLink RX2 28 yX2_start ∈ fh_U := fh_at 979 (by decide +kernel) rfl
theorem Lk_RX2_31 : Cond.methodLink RX2 31 yX6_termAt ∈ fh_U := fh_at 983 (by decide +kernel) rfl
theorem Lk_RX2_37 : Cond.methodLink RX2 37 yX2_climbOne ∈ fh_U := fh_at 984 (by decide +kernel) rfl
theorem Lk_RX4_25 : Cond.methodLink RX4 25 yJ9_min_7cf53 ∈ fh_U := fh_at 856 (by decide +kernel) rfl
theorem Lk_RX4_37 : Cond.methodLink RX4 37 yX10_take ∈ fh_U := fh_at 857 (by decide +kernel) rfl
theorem Lk_RX4_41 : Cond.methodLink RX4 41 yX10_expect ∈ fh_U := fh_at 858 (by decide +kernel) rfl
theorem Lk_RX4_45 : Cond.methodLink RX4 45 yX4_parseTest ∈ fh_U := fh_at 859 (by decide +kernel) rfl
theorem Lk_RX4_53 : Cond.methodLink RX4 53 yJ13_bitCount_95d88 ∈ fh_U := fh_at 889 (by decide +kernel) rfl
theorem Lk_RX4_59 : Cond.methodLink RX4 59 yX4_firstPlace ∈ fh_U := fh_at 895 (by decide +kernel) rfl
theorem Lk_RX4_62 : Cond.methodLink RX4 62 yX4_parseFact ∈ fh_U := fh_at 863 (by decide +kernel) rfl
theorem Lk_RX4_65 : Cond.methodLink RX4 65 yX10_isNext ∈ fh_U := fh_at 867 (by decide +kernel) rfl
theorem Lk_RX4_68 : Cond.methodLink RX4 68 yX4_parseComparison ∈ fh_U := fh_at 868 (by decide +kernel) rfl
theorem Lk_RX4_72 : Cond.methodLink RX4 72 yX10_fail ∈ fh_U := fh_at 881 (by decide +kernel) rfl
theorem Lk_RX4_77 : Cond.methodLink RX4 77 yX4_parseValueCode ∈ fh_U := fh_at 872 (by decide +kernel) rfl
theorem Lk_RX4_81 : Cond.methodLink RX4 81 yX10_takeFigures ∈ fh_U := fh_at 876 (by decide +kernel) rfl
theorem Lk_RX4_85 : Cond.methodLink RX4 85 yX4_parseCompareSign ∈ fh_U := fh_at 877 (by decide +kernel) rfl
theorem Lk_RX4_88 : Cond.methodLink RX4 88 yX6_termAt ∈ fh_U := fh_at 882 (by decide +kernel) rfl
theorem Lk_RX4_91 : Cond.methodLink RX4 91 yX4_valueAt ∈ fh_U := fh_at 883 (by decide +kernel) rfl
theorem Lk_RX5_21 : Cond.methodLink RX5 21 yX5_begin ∈ fh_U := fh_at 769 (by decide +kernel) rfl
theorem Lk_RX5_25 : Cond.methodLink RX5 25 yX0_become ∈ fh_U := fh_at 773 (by decide +kernel) rfl
theorem Lk_RX5_67 : Cond.methodLink RX5 67 yX5_isSure ∈ fh_U := fh_at 781 (by decide +kernel) rfl
theorem Lk_RX5_71 : Cond.methodLink RX5 71 yX5_letOut ∈ fh_U := fh_at 786 (by decide +kernel) rfl
theorem Lk_RX5_75 : Cond.methodLink RX5 75 yX5_readFirst ∈ fh_U := fh_at 810 (by decide +kernel) rfl
theorem Lk_RX5_79 : Cond.methodLink RX5 79 yX5_readSecond ∈ fh_U := fh_at 835 (by decide +kernel) rfl
theorem Lk_RX5_97 : Cond.methodLink RX5 97 yJ9_floorDiv_f86c9 ∈ fh_U := fh_at 785 (by decide +kernel) rfl
theorem Lk_RX5_110 : Cond.methodLink RX5 110 yX0_subtract ∈ fh_U := fh_at 792 (by decide +kernel) rfl
theorem Lk_RX5_114 : Cond.methodLink RX5 114 yX0_isBeyond ∈ fh_U := fh_at 804 (by decide +kernel) rfl
theorem Lk_RX5_117 : Cond.methodLink RX5 117 yX6_add ∈ fh_U := fh_at 809 (by decide +kernel) rfl
theorem Lk_RX5_121 : Cond.methodLink RX5 121 yX6_unknownAt ∈ fh_U := fh_at 814 (by decide +kernel) rfl
theorem Lk_RX5_125 : Cond.methodLink RX5 125 yX6_knows ∈ fh_U := fh_at 822 (by decide +kernel) rfl
theorem Lk_RX5_128 : Cond.methodLink RX5 128 yX0_endFirst ∈ fh_U := fh_at 823 (by decide +kernel) rfl
theorem Lk_RX5_131 : Cond.methodLink RX5 131 yX6_termAt ∈ fh_U := fh_at 827 (by decide +kernel) rfl
theorem Lk_RX5_135 : Cond.methodLink RX5 135 yX0_readFirst ∈ fh_U := fh_at 831 (by decide +kernel) rfl
theorem Lk_RX5_138 : Cond.methodLink RX5 138 yX0_endSecond ∈ fh_U := fh_at 839 (by decide +kernel) rfl
theorem Lk_RX5_141 : Cond.methodLink RX5 141 yX0_readSecond ∈ fh_U := fh_at 843 (by decide +kernel) rfl
theorem Lk_RX6_45 : Cond.methodLink RX6 45 yX6_knows ∈ fh_U := fh_at 818 (by decide +kernel) rfl
theorem Lk_RX6_49 : Cond.methodLink RX6 49 yJ9_floorDiv_f86c9 ∈ fh_U := fh_at 725 (by decide +kernel) rfl
theorem Lk_RX6_55 : Cond.methodLink RX6 55 yX6_add ∈ fh_U := fh_at 728 (by decide +kernel) rfl
theorem Lk_RX6_65 : Cond.methodLink RX6 65 yX6_termAt ∈ fh_U := fh_at 926 (by decide +kernel) rfl
theorem Lk_RX6_69 : Cond.methodLink RX6 69 yJ9_max_7cf53 ∈ fh_U := fh_at 927 (by decide +kernel) rfl
theorem Lk_RX7_26 : Cond.methodLink RX7 26 yX10_expect ∈ fh_U := fh_at 640 (by decide +kernel) rfl
theorem Lk_RX7_32 : Cond.methodLink RX7 32 yX10_take ∈ fh_U := fh_at 656 (by decide +kernel) rfl
theorem Lk_RX7_36 : Cond.methodLink RX7 36 yX10_takeFigures ∈ fh_U := fh_at 657 (by decide +kernel) rfl
theorem Lk_RX7_40 : Cond.methodLink RX7 40 yX7_keep ∈ fh_U := fh_at 661 (by decide +kernel) rfl
theorem Lk_RX7_43 : Cond.methodLink RX7 43 yX7_takeMark ∈ fh_U := fh_at 665 (by decide +kernel) rfl
theorem Lk_RX7_47 : Cond.methodLink RX7 47 yX7_parseBrackets ∈ fh_U := fh_at 669 (by decide +kernel) rfl
theorem Lk_RX7_50 : Cond.methodLink RX7 50 yJ9_min_7cf53 ∈ fh_U := fh_at 681 (by decide +kernel) rfl
theorem Lk_RX7_61 : Cond.methodLink RX7 61 yX7_earlierTerm ∈ fh_U := fh_at 682 (by decide +kernel) rfl
theorem Lk_RX8_24 : Cond.methodLink RX8 24 yJ9_min_7cf53 ∈ fh_U := fh_at 1137 (by decide +kernel) rfl
theorem Lk_RX8_30 : Cond.methodLink RX8 30 yX8_putSign ∈ fh_U := fh_at 1112 (by decide +kernel) rfl
theorem Lk_RX8_34 : Cond.methodLink RX8 34 yX8_putTerms ∈ fh_U := fh_at 1116 (by decide +kernel) rfl
theorem Lk_RX8_41 : Cond.methodLink RX8 41 yX8_putMarkAhead ∈ fh_U := fh_at 1120 (by decide +kernel) rfl
theorem Lk_RX8_45 : Cond.methodLink RX8 45 yX6_termAt ∈ fh_U := fh_at 1124 (by decide +kernel) rfl
theorem Lk_RX8_49 : Cond.methodLink RX8 49 yX8_putNumber ∈ fh_U := fh_at 1125 (by decide +kernel) rfl
theorem Lk_RX8_52 : Cond.methodLink RX8 52 yJ9_abs_0f7a4 ∈ fh_U := fh_at 1129 (by decide +kernel) rfl
theorem Lk_RX9_19 : Cond.methodLink RX9 19 yJ9_abs_067f4 ∈ fh_U := fh_at 747 (by decide +kernel) rfl
theorem Lk_RX9_33 : Cond.methodLink RX9 33 yJ9_floorDiv_f86c9 ∈ fh_U := fh_at 755 (by decide +kernel) rfl
theorem Lk_RX10_28 : Cond.methodLink RX10 28 yX10_addByte ∈ fh_U := fh_at 388 (by decide +kernel) rfl
theorem Lk_RX10_44 : Cond.methodLink RX10 44 yX10_scanNext ∈ fh_U := fh_at 541 (by decide +kernel) rfl
theorem Lk_RX10_48 : Cond.methodLink RX10 48 yX10_addToken ∈ fh_U := fh_at 559 (by decide +kernel) rfl
theorem Lk_RX10_52 : Cond.methodLink RX10 52 yX10_byteAt ∈ fh_U := fh_at 545 (by decide +kernel) rfl
theorem Lk_RX10_56 : Cond.methodLink RX10 56 yX10_isFigure ∈ fh_U := fh_at 549 (by decide +kernel) rfl
theorem Lk_RX10_60 : Cond.methodLink RX10 60 yX10_scanFigures ∈ fh_U := fh_at 552 (by decide +kernel) rfl
theorem Lk_RX10_63 : Cond.methodLink RX10 63 yX10_isLetter ∈ fh_U := fh_at 563 (by decide +kernel) rfl
theorem Lk_RX10_66 : Cond.methodLink RX10 66 yX10_scanWord ∈ fh_U := fh_at 566 (by decide +kernel) rfl
theorem Lk_RX10_69 : Cond.methodLink RX10 69 yJ9_min_7cf53 ∈ fh_U := fh_at 556 (by decide +kernel) rfl
theorem Lk_RX10_74 : Cond.methodLink RX10 74 yX10_wordCode ∈ fh_U := fh_at 570 (by decide +kernel) rfl
theorem Lk_RX10_79 : Cond.methodLink RX10 79 yX10_spells ∈ fh_U := fh_at 575 (by decide +kernel) rfl
theorem Lk_RX10_101 : Cond.methodLink RX10 101 yJ0_length_8abf5 ∈ fh_U := fh_at 579 (by decide +kernel) rfl
theorem Lk_RX10_107 : Cond.methodLink RX10 107 yJ0_charAt_5068e ∈ fh_U := fh_at 589 (by decide +kernel) rfl
theorem Lk_RX10_111 : Cond.methodLink RX10 111 yX10_isNext ∈ fh_U := fh_at 648 (by decide +kernel) rfl
theorem Lk_RX10_114 : Cond.methodLink RX10 114 yX10_take ∈ fh_U := fh_at 644 (by decide +kernel) rfl
theorem Lk_RX10_117 : Cond.methodLink RX10 117 yX10_fail ∈ fh_U := fh_at 652 (by decide +kernel) rfl
theorem Lk_RX12_66 : Cond.methodLink RX12 66 yX12_put ∈ fh_U := fh_at 1144 (by decide +kernel) rfl
theorem Lk_RX12_70 : Cond.methodLink RX12 70 yX12_layAll ∈ fh_U := fh_at 1148 (by decide +kernel) rfl
theorem Lk_RX12_78 : Cond.methodLink RX12 78 yX12_isIn ∈ fh_U := fh_at 1455 (by decide +kernel) rfl
theorem Lk_RX12_82 : Cond.methodLink RX12 82 yX12_lay ∈ fh_U := fh_at 1152 (by decide +kernel) rfl
theorem Lk_RX12_86 : Cond.methodLink RX12 86 yX12_of1 ∈ fh_U := fh_at 1156 (by decide +kernel) rfl
theorem Lk_RX12_90 : Cond.methodLink RX12 90 yX12_divides ∈ fh_U := fh_at 1160 (by decide +kernel) rfl
theorem Lk_RX12_94 : Cond.methodLink RX12 94 yX12_layRoot ∈ fh_U := fh_at 1169 (by decide +kernel) rfl
theorem Lk_RX12_97 : Cond.methodLink RX12 97 yX12_layTold ∈ fh_U := fh_at 1190 (by decide +kernel) rfl
theorem Lk_RX12_100 : Cond.methodLink RX12 100 yX12_layMade ∈ fh_U := fh_at 1194 (by decide +kernel) rfl
theorem Lk_RX12_103 : Cond.methodLink RX12 103 yJ9_floorDiv_f86c9 ∈ fh_U := fh_at 1164 (by decide +kernel) rfl
theorem Lk_RX12_109 : Cond.methodLink RX12 109 yX12_knows ∈ fh_U := fh_at 1165 (by decide +kernel) rfl
theorem Lk_RX12_117 : Cond.methodLink RX12 117 yX12_rootOf ∈ fh_U := fh_at 1177 (by decide +kernel) rfl
theorem Lk_RX12_121 : Cond.methodLink RX12 121 yJ9_abs_067f4 ∈ fh_U := fh_at 1186 (by decide +kernel) rfl
theorem Lk_RX12_128 : Cond.methodLink RX12 128 yX12_floorOf ∈ fh_U := fh_at 1187 (by decide +kernel) rfl
theorem Lk_RX12_132 : Cond.methodLink RX12 132 yX12_isSquare ∈ fh_U := fh_at 1173 (by decide +kernel) rfl
theorem Lk_RX12_136 : Cond.methodLink RX12 136 yX12_layStates ∈ fh_U := fh_at 1182 (by decide +kernel) rfl
theorem Lk_RX12_176 : Cond.methodLink RX12 176 yX12_begins ∈ fh_U := fh_at 1202 (by decide +kernel) rfl
theorem Lk_RX12_180 : Cond.methodLink RX12 180 yX12_numbers ∈ fh_U := fh_at 1206 (by decide +kernel) rfl
theorem Lk_RX12_184 : Cond.methodLink RX12 184 yX12_mayBeSure ∈ fh_U := fh_at 1226 (by decide +kernel) rfl
theorem Lk_RX12_188 : Cond.methodLink RX12 188 yX12_corners ∈ fh_U := fh_at 1230 (by decide +kernel) rfl
theorem Lk_RX12_192 : Cond.methodLink RX12 192 yX12_corner ∈ fh_U := fh_at 1234 (by decide +kernel) rfl
theorem Lk_RX12_196 : Cond.methodLink RX12 196 yX12_haveOneSign ∈ fh_U := fh_at 1238 (by decide +kernel) rfl
theorem Lk_RX12_204 : Cond.methodLink RX12 204 yX12_timesAnd ∈ fh_U := fh_at 1247 (by decide +kernel) rfl
theorem Lk_RX12_207 : Cond.methodLink RX12 207 yX12_takesThen ∈ fh_U := fh_at 1254 (by decide +kernel) rfl
theorem Lk_RX12_210 : Cond.methodLink RX12 210 yX12_endsOther ∈ fh_U := fh_at 1262 (by decide +kernel) rfl
theorem Lk_RX12_213 : Cond.methodLink RX12 213 yX12_endsOne ∈ fh_U := fh_at 1266 (by decide +kernel) rfl
theorem Lk_RX12_216 : Cond.methodLink RX12 216 yX12_turns ∈ fh_U := fh_at 1270 (by decide +kernel) rfl
theorem Lk_RX12_219 : Cond.methodLink RX12 219 yX12_termOf ∈ fh_U := fh_at 1274 (by decide +kernel) rfl
theorem Lk_RX12_222 : Cond.methodLink RX12 222 yX12_readsSingle ∈ fh_U := fh_at 1278 (by decide +kernel) rfl
theorem Lk_RX12_226 : Cond.methodLink RX12 226 yX12_readsOther ∈ fh_U := fh_at 1282 (by decide +kernel) rfl
theorem Lk_RX12_229 : Cond.methodLink RX12 229 yX12_readsOne ∈ fh_U := fh_at 1286 (by decide +kernel) rfl
theorem Lk_RX12_232 : Cond.methodLink RX12 232 yX12_hasEnded ∈ fh_U := fh_at 1218 (by decide +kernel) rfl
theorem Lk_RX12_235 : Cond.methodLink RX12 235 yX12_isSure ∈ fh_U := fh_at 1222 (by decide +kernel) rfl
theorem Lk_RX12_241 : Cond.methodLink RX12 241 yX12_letsOut ∈ fh_U := fh_at 1241 (by decide +kernel) rfl
theorem Lk_RX12_245 : Cond.methodLink RX12 245 yX12_reads ∈ fh_U := fh_at 1258 (by decide +kernel) rfl
theorem Lk_RX12_248 : Cond.methodLink RX12 248 yX12_beginsSingle ∈ fh_U := fh_at 1198 (by decide +kernel) rfl
theorem Lk_RX12_252 : Cond.methodLink RX12 252 yX12_beginsDouble ∈ fh_U := fh_at 1210 (by decide +kernel) rfl
theorem Lk_RX12_255 : Cond.methodLink RX12 255 yX12_goesToNext ∈ fh_U := fh_at 1214 (by decide +kernel) rfl
theorem Lk_RX12_261 : Cond.methodLink RX12 261 yX12_keep ∈ fh_U := fh_at 1464 (by decide +kernel) rfl
theorem Lk_RX12_264 : Cond.methodLink RX12 264 yX12_isRow ∈ fh_U := fh_at 1451 (by decide +kernel) rfl
theorem Lk_RX12_271 : Cond.methodLink RX12 271 yX12_become ∈ fh_U := fh_at 1460 (by decide +kernel) rfl
theorem Lk_RX12_283 : Cond.methodLink RX12 283 yX12_areSmall ∈ fh_U := fh_at 1480 (by decide +kernel) rfl
theorem Lk_RX12_292 : Cond.methodLink RX12 292 yX12_kindMany ∈ fh_U := fh_at 1492 (by decide +kernel) rfl
theorem Lk_RX12_296 : Cond.methodLink RX12 296 yX12_stopMany ∈ fh_U := fh_at 1496 (by decide +kernel) rfl
theorem Lk_RX12_299 : Cond.methodLink RX12 299 yX12_fail ∈ fh_U := fh_at 1500 (by decide +kernel) rfl
theorem Lk_RX12_302 : Cond.methodLink RX12 302 yJ9_max_7cf53 ∈ fh_U := fh_at 1513 (by decide +kernel) rfl
theorem Lk_RX12_305 : Cond.methodLink RX12 305 yX12_isMadeOf ∈ fh_U := fh_at 1522 (by decide +kernel) rfl
theorem Lk_RX12_311 : Cond.methodLink RX12 311 yX12_greatestOf ∈ fh_U := fh_at 1509 (by decide +kernel) rfl
theorem Lk_RX12_314 : Cond.methodLink RX12 314 yX12_sumTo ∈ fh_U := fh_at 1514 (by decide +kernel) rfl
theorem Lk_RX12_317 : Cond.methodLink RX12 317 yX12_madeOf ∈ fh_U := fh_at 1518 (by decide +kernel) rfl
theorem Lk_RX12_320 : Cond.methodLink RX12 320 yX12_isKnown ∈ fh_U := fh_at 1530 (by decide +kernel) rfl
theorem Lk_RX12_326 : Cond.methodLink RX12 326 yX12_layConvergents ∈ fh_U := fh_at 1542 (by decide +kernel) rfl
theorem Lk_RX12_331 : Cond.methodLink RX12 331 yX12_alikeTo ∈ fh_U := fh_at 1559 (by decide +kernel) rfl
theorem Lk_RX12_334 : Cond.methodLink RX12 334 yX12_byPlace ∈ fh_U := fh_at 1563 (by decide +kernel) rfl
theorem Lk_RX12_344 : Cond.methodLink RX12 344 yX12_comesAgain ∈ fh_U := fh_at 1578 (by decide +kernel) rfl
theorem Lk_RX12_348 : Cond.methodLink RX12 348 yX12_layAgain ∈ fh_U := fh_at 1574 (by decide +kernel) rfl
theorem Lk_RX12_351 : Cond.methodLink RX12 351 yX12_areTails ∈ fh_U := fh_at 1586 (by decide +kernel) rfl
theorem Lk_RX12_355 : Cond.methodLink RX12 355 yX12_toldBySingle ∈ fh_U := fh_at 1594 (by decide +kernel) rfl
theorem Lk_RX12_364 : Cond.methodLink RX12 364 yX12_writes ∈ fh_U := fh_at 1617 (by decide +kernel) rfl
theorem Lk_RX12_367 : Cond.methodLink RX12 367 yX12_writesNumber ∈ fh_U := fh_at 1629 (by decide +kernel) rfl
theorem Lk_RX12_374 : Cond.methodLink RX12 374 yX12_writesSign ∈ fh_U := fh_at 1625 (by decide +kernel) rfl
theorem Lk_RX12_379 : Cond.methodLink RX12 379 yX12_writesTerms ∈ fh_U := fh_at 1621 (by decide +kernel) rfl
theorem Lk_RX12_383 : Cond.methodLink RX12 383 yJ9_min_7cf53 ∈ fh_U := fh_at 1635 (by decide +kernel) rfl
theorem Lk_RX12_392 : Cond.methodLink RX12 392 yX12_byteAt ∈ fh_U := fh_at 1664 (by decide +kernel) rfl
theorem Lk_RX12_401 : Cond.methodLink RX12 401 yX12_isSmall ∈ fh_U := fh_at 1668 (by decide +kernel) rfl
theorem Lk_RX12_404 : Cond.methodLink RX12 404 yX12_isFigure ∈ fh_U := fh_at 1671 (by decide +kernel) rfl
theorem Lk_RX12_416 : Cond.methodLink RX12 416 yX12_step ∈ fh_U := fh_at 1660 (by decide +kernel) rfl
theorem Lk_RX12_422 : Cond.methodLink RX12 422 yJ0_length_8abf5 ∈ fh_U := fh_at 1724 (by decide +kernel) rfl
theorem Lk_RX12_427 : Cond.methodLink RX12 427 yJ0_charAt_5068e ∈ fh_U := fh_at 1725 (by decide +kernel) rfl
theorem Lk_RX12_431 : Cond.methodLink RX12 431 yX12_isSign ∈ fh_U := fh_at 1682 (by decide +kernel) rfl
theorem Lk_RX12_434 : Cond.methodLink RX12 434 yX12_wrong ∈ fh_U := fh_at 1686 (by decide +kernel) rfl
theorem Lk_RX12_437 : Cond.methodLink RX12 437 yX12_pass ∈ fh_U := fh_at 1690 (by decide +kernel) rfl
theorem Lk_RX12_447 : Cond.methodLink RX12 447 yX12_must ∈ fh_U := fh_at 1678 (by decide +kernel) rfl
theorem Lk_RX12_450 : Cond.methodLink RX12 450 yX12_number ∈ fh_U := fh_at 1694 (by decide +kernel) rfl
theorem Lk_RX12_453 : Cond.methodLink RX12 453 yX12_keepsTerm ∈ fh_U := fh_at 1699 (by decide +kernel) rfl
theorem Lk_RX12_456 : Cond.methodLink RX12 456 yX12_isNext ∈ fh_U := fh_at 1703 (by decide +kernel) rfl
theorem Lk_RX12_459 : Cond.methodLink RX12 459 yX12_readAgainOnes ∈ fh_U := fh_at 1707 (by decide +kernel) rfl
theorem Lk_RX12_462 : Cond.methodLink RX12 462 yX12_isRight ∈ fh_U := fh_at 1652 (by decide +kernel) rfl
theorem Lk_RX12_465 : Cond.methodLink RX12 465 yX12_opens ∈ fh_U := fh_at 1656 (by decide +kernel) rfl
theorem Lk_RX12_468 : Cond.methodLink RX12 468 yX12_readTold ∈ fh_U := fh_at 1674 (by decide +kernel) rfl
theorem Lk_RX12_471 : Cond.methodLink RX12 471 yX12_ends ∈ fh_U := fh_at 1711 (by decide +kernel) rfl
theorem Lk_RX12_479 : Cond.methodLink RX12 479 yX12_isWord ∈ fh_U := fh_at 1720 (by decide +kernel) rfl
theorem Lk_RX12_493 : Cond.methodLink RX12 493 yX12_valueHere ∈ fh_U := fh_at 1752 (by decide +kernel) rfl
theorem Lk_RX12_499 : Cond.methodLink RX12 499 yX12_goesIn ∈ fh_U := fh_at 1744 (by decide +kernel) rfl
theorem Lk_RX12_502 : Cond.methodLink RX12 502 yX12_readFact ∈ fh_U := fh_at 1739 (by decide +kernel) rfl
theorem Lk_RX12_505 : Cond.methodLink RX12 505 yX12_readTest ∈ fh_U := fh_at 1731 (by decide +kernel) rfl
theorem Lk_RX12_508 : Cond.methodLink RX12 508 yX12_readValue ∈ fh_U := fh_at 1748 (by decide +kernel) rfl
theorem Lk_RX12_513 : Cond.methodLink RX12 513 yX12_readBoth ∈ fh_U := fh_at 1735 (by decide +kernel) rfl
theorem Lk_RX12_521 : Cond.methodLink RX12 521 yX12_readQuestion ∈ fh_U := fh_at 1726 (by decide +kernel) rfl
theorem Lk_RJ0_335 : Cond.methodLink RJ0 335 yJ0_coder_7d493 ∈ fh_U := fh_at 583 (by decide +kernel) rfl
theorem Lk_RJ0_492 : Cond.methodLink RJ0 492 yJ0_isLatin1_aae02 ∈ fh_U := fh_at 593 (by decide +kernel) rfl
theorem Lk_RJ0_495 : Cond.methodLink RJ0 495 yJ1_charAt_3b067 ∈ fh_U := fh_at 597 (by decide +kernel) rfl
theorem Lk_RJ0_498 : Cond.methodLink RJ0 498 yJ2_charAt_3b067 ∈ fh_U := fh_at 608 (by decide +kernel) rfl
theorem Lk_RJ0_1059 : Cond.methodLink RJ0 1059 yJ3_checkIndex_8e157 ∈ fh_U := fh_at 605 (by decide +kernel) rfl
theorem Lk_RJ1_9 : Cond.methodLink RJ1 9 yJ0_checkIndex_df160 ∈ fh_U := fh_at 600 (by decide +kernel) rfl
theorem Lk_RJ2_48 : Cond.methodLink RJ2 48 yJ2_length_9d52b ∈ fh_U := fh_at 614 (by decide +kernel) rfl
theorem Lk_RJ2_67 : Cond.methodLink RJ2 67 yJ2_checkIndex_2214a ∈ fh_U := fh_at 611 (by decide +kernel) rfl
theorem Lk_RJ2_71 : Cond.methodLink RJ2 71 yJ2_getChar_3b067 ∈ fh_U := fh_at 618 (by decide +kernel) rfl
theorem Lk_RJ2_414 : Cond.methodLink RJ2 414 yJ0_checkIndex_df160 ∈ fh_U := fh_at 617 (by decide +kernel) rfl
theorem Kc_RX11_218 : Cond.constantLong RX11 218 (-1) ∈ fh_U := fh_at 990 (by decide +kernel) rfl
theorem Kc_RX11_247 : Cond.constantLong RX11 247 (1000000000000001) ∈ fh_U := fh_at 800 (by decide +kernel) rfl
theorem Kc_RX11_342 : Cond.constantLong RX11 342 (2000000000000000) ∈ fh_U := fh_at 799 (by decide +kernel) rfl
theorem Kc_RX11_344 : Cond.constantLong RX11 344 (1000000000000000) ∈ fh_U := fh_at 801 (by decide +kernel) rfl
theorem Kc_RX11_346 : Cond.constantLong RX11 346 (-1000000000000000) ∈ fh_U := fh_at 802 (by decide +kernel) rfl
theorem Kc_RX11_348 : Cond.constantLong RX11 348 (8192) ∈ fh_U := fh_at 742 (by decide +kernel) rfl
theorem Kc_RX0_32 : Cond.constantLong RX0 32 (1000000000000001) ∈ fh_U := fh_at 808 (by decide +kernel) rfl
theorem Kc_RX2_45 : Cond.constantLong RX2 45 (1000000000000001) ∈ fh_U := fh_at 989 (by decide +kernel) rfl
theorem Kc_RX4_52 : Cond.constant RX4 52 (-1000000000) ∈ fh_U := fh_at 888 (by decide +kernel) rfl
theorem Kc_RX4_75 : Cond.constantLong RX4 75 (-1) ∈ fh_U := fh_at 887 (by decide +kernel) rfl
theorem Kc_RX5_29 : Cond.constantLong RX5 29 (-1) ∈ fh_U := fh_at 851 (by decide +kernel) rfl
theorem Kc_RX5_106 : Cond.constantLong RX5 106 (1000000000) ∈ fh_U := fh_at 790 (by decide +kernel) rfl
theorem Kc_RX5_108 : Cond.constantLong RX5 108 (-1000000000) ∈ fh_U := fh_at 791 (by decide +kernel) rfl
theorem Kc_RX8_55 : Cond.constant RX8 55 (1000000000) ∈ fh_U := fh_at 1132 (by decide +kernel) rfl
theorem Kc_RX12_76 : Cond.constantLong RX12 76 (9) ∈ fh_U := fh_at 1454 (by decide +kernel) rfl
theorem Kc_RX12_113 : Cond.constantLong RX12 113 (1048576) ∈ fh_U := fh_at 1180 (by decide +kernel) rfl
theorem Kc_RX12_115 : Cond.constantLong RX12 115 (2) ∈ fh_U := fh_at 1181 (by decide +kernel) rfl
theorem Kc_RX12_139 : Cond.constantLong RX12 139 (2000000000000000) ∈ fh_U := fh_at 1251 (by decide +kernel) rfl
theorem Kc_RX12_145 : Cond.constantLong RX12 145 (1000000000000000) ∈ fh_U := fh_at 1252 (by decide +kernel) rfl
theorem Kc_RX12_147 : Cond.constantLong RX12 147 (-1000000000000000) ∈ fh_U := fh_at 1253 (by decide +kernel) rfl
theorem Kc_RX12_200 : Cond.constantLong RX12 200 (1000000000) ∈ fh_U := fh_at 1245 (by decide +kernel) rfl
theorem Kc_RX12_202 : Cond.constantLong RX12 202 (-1000000000) ∈ fh_U := fh_at 1246 (by decide +kernel) rfl
theorem Kc_RX12_267 : Cond.constantLong RX12 267 (-9999) ∈ fh_U := fh_at 1458 (by decide +kernel) rfl
theorem Kc_RX12_269 : Cond.constantLong RX12 269 (9999) ∈ fh_U := fh_at 1459 (by decide +kernel) rfl
theorem Kc_RX12_275 : Cond.constantLong RX12 275 (-999) ∈ fh_U := fh_at 1472 (by decide +kernel) rfl
theorem Kc_RX12_277 : Cond.constantLong RX12 277 (999) ∈ fh_U := fh_at 1473 (by decide +kernel) rfl
theorem Kc_RX12_279 : Cond.constantLong RX12 279 (-99) ∈ fh_U := fh_at 1474 (by decide +kernel) rfl
theorem Kc_RX12_281 : Cond.constantLong RX12 281 (99) ∈ fh_U := fh_at 1475 (by decide +kernel) rfl
theorem Kc_RX12_287 : Cond.constantLong RX12 287 (3) ∈ fh_U := fh_at 1487 (by decide +kernel) rfl
theorem Kc_RX12_309 : Cond.constantLong RX12 309 (6) ∈ fh_U := fh_at 1508 (by decide +kernel) rfl
theorem Kc_RX12_329 : Cond.constantLong RX12 329 (-1) ∈ fh_U := fh_at 1546 (by decide +kernel) rfl
theorem Kc_RX12_359 : Cond.constantLong RX12 359 (59) ∈ fh_U := fh_at 1603 (by decide +kernel) rfl
theorem Kc_RX12_370 : Cond.constantLong RX12 370 (10) ∈ fh_U := fh_at 1633 (by decide +kernel) rfl
theorem Kc_RX12_372 : Cond.constantLong RX12 372 (48) ∈ fh_U := fh_at 1634 (by decide +kernel) rfl
theorem Kc_RX12_377 : Cond.constantLong RX12 377 (60) ∈ fh_U := fh_at 1616 (by decide +kernel) rfl
theorem Kc_RJ13_314 : Cond.constantLong RJ13 314 (6148914691236517205) ∈ fh_U := fh_at 892 (by decide +kernel) rfl
theorem Kc_RJ13_316 : Cond.constantLong RJ13 316 (3689348814741910323) ∈ fh_U := fh_at 893 (by decide +kernel) rfl
theorem Kc_RJ13_318 : Cond.constantLong RJ13 318 (1085102592571150095) ∈ fh_U := fh_at 894 (by decide +kernel) rfl
