/-! codes: by program (wip/p32/gen/gencode.py) -/
/-! java/lang/Integer.bitCount(I)I -/
noncomputable def tb_J6_bitCount_0f7a4 : List (Nat × mm_I) := [(0, mm_ldI 1 0), (1, mm_ldI 2 0), (2, mm_k 3 (.int 1)), (3, mm_i2 4 (fun a b => (a.toUInt32 >>> (b.toUInt32 &&& Int32.toUInt32 31)).toInt32)), (4, mm_k 7 (.int 1431655765)), (7, mm_i2 8 (fun a b => a &&& b)), (8, mm_i2 9 (fun a b => a - b)), (9, mm_stI 10 0), (10, mm_ldI 11 0), (11, mm_k 14 (.int 858993459)), (14, mm_i2 15 (fun a b => a &&& b)), (15, mm_ldI 16 0), (16, mm_k 17 (.int 2)), (17, mm_i2 18 (fun a b => (a.toUInt32 >>> (b.toUInt32 &&& Int32.toUInt32 31)).toInt32)), (18, mm_k 21 (.int 858993459)), (21, mm_i2 22 (fun a b => a &&& b)), (22, mm_i2 23 (fun a b => a + b)), (23, mm_stI 24 0), (24, mm_ldI 25 0), (25, mm_ldI 26 0), (26, mm_k 27 (.int 4)), (27, mm_i2 28 (fun a b => (a.toUInt32 >>> (b.toUInt32 &&& Int32.toUInt32 31)).toInt32)), (28, mm_i2 29 (fun a b => a + b)), (29, mm_k 32 (.int 252645135)), (32, mm_i2 33 (fun a b => a &&& b)), (33, mm_stI 34 0), (34, mm_ldI 35 0), (35, mm_ldI 36 0), (36, mm_k 38 (.int 8)), (38, mm_i2 39 (fun a b => (a.toUInt32 >>> (b.toUInt32 &&& Int32.toUInt32 31)).toInt32)), (39, mm_i2 40 (fun a b => a + b)), (40, mm_stI 41 0), (41, mm_ldI 42 0), (42, mm_ldI 43 0), (43, mm_k 45 (.int 16)), (45, mm_i2 46 (fun a b => (a.toUInt32 >>> (b.toUInt32 &&& Int32.toUInt32 31)).toInt32)), (46, mm_i2 47 (fun a b => a + b)), (47, mm_stI 48 0), (48, mm_ldI 49 0), (49, mm_k 51 (.int 63)), (51, mm_i2 52 (fun a b => a &&& b)), (52, mm_rtI)]
noncomputable def f_J6_bitCount_0f7a4 : mm_F := mm_do (mm_pr tb_J6_bitCount_0f7a4) 1
theorem mn_J6_bitCount_0f7a4 : mm_alln tb_J6_bitCount_0f7a4 := ⟨mm_n_ldI _ _, mm_n_ldI _ _, mm_n_k _ _, mm_n_i2 _ _, mm_n_k _ _, mm_n_i2 _ _, mm_n_i2 _ _, mm_n_stI _ _, mm_n_ldI _ _, mm_n_k _ _, mm_n_i2 _ _, mm_n_ldI _ _, mm_n_k _ _, mm_n_i2 _ _, mm_n_k _ _, mm_n_i2 _ _, mm_n_i2 _ _, mm_n_stI _ _, mm_n_ldI _ _, mm_n_ldI _ _, mm_n_k _ _, mm_n_i2 _ _, mm_n_i2 _ _, mm_n_k _ _, mm_n_i2 _ _, mm_n_stI _ _, mm_n_ldI _ _, mm_n_ldI _ _, mm_n_k _ _, mm_n_i2 _ _, mm_n_i2 _ _, mm_n_stI _ _, mm_n_ldI _ _, mm_n_ldI _ _, mm_n_k _ _, mm_n_i2 _ _, mm_n_i2 _ _, mm_n_stI _ _, mm_n_ldI _ _, mm_n_k _ _, mm_n_i2 _ _, mm_n_rtI, trivial⟩
theorem mo_J6_bitCount_0f7a4 : mm_Mo f_J6_bitCount_0f7a4 := mm_do_mo (mm_alln_mem mn_J6_bitCount_0f7a4)
set_option maxRecDepth 10000 in
theorem ok_J6_bitCount_0f7a4 {l : Launch} (hl : l.stackTraces = false) : mm_Ok l yJ6_bitCount_0f7a4 cJ6_bitCount_0f7a4 1 (some .int) 1 20 tb_J6_bitCount_0f7a4 := by
  refine ⟨mm_alln_mem mn_J6_bitCount_0f7a4, fun p e cells slots s m args below meth c D tc A S ad Tg X hret hname htab hth => mm_allr_mem ?_⟩
  exact ⟨mm_r_iload_n X (show decode cJ6_bitCount_0f7a4 0 = .ok (.iload_n 0, 1) by decide +kernel) rfl,
    mm_r_iload_n X (show decode cJ6_bitCount_0f7a4 1 = .ok (.iload_n 0, 1) by decide +kernel) rfl,
    mm_r_iconst X (show decode cJ6_bitCount_0f7a4 2 = .ok (.iconst 1, 1) by decide +kernel) rfl,
    mm_r_iushr X (show decode cJ6_bitCount_0f7a4 3 = .ok (.iushr, 1) by decide +kernel),
    mm_r_ldcw X (show decode cJ6_bitCount_0f7a4 4 = .ok (.ldc_w 265, 3) by decide +kernel) mw_906,
    mm_r_iand X (show decode cJ6_bitCount_0f7a4 7 = .ok (.iand, 1) by decide +kernel),
    mm_r_isub X (show decode cJ6_bitCount_0f7a4 8 = .ok (.isub, 1) by decide +kernel),
    mm_r_istore_n X (show decode cJ6_bitCount_0f7a4 9 = .ok (.istore_n 0, 1) by decide +kernel) rfl (Nat.le_of_ble_eq_true rfl),
    mm_r_iload_n X (show decode cJ6_bitCount_0f7a4 10 = .ok (.iload_n 0, 1) by decide +kernel) rfl,
    mm_r_ldcw X (show decode cJ6_bitCount_0f7a4 11 = .ok (.ldc_w 266, 3) by decide +kernel) mw_907,
    mm_r_iand X (show decode cJ6_bitCount_0f7a4 14 = .ok (.iand, 1) by decide +kernel),
    mm_r_iload_n X (show decode cJ6_bitCount_0f7a4 15 = .ok (.iload_n 0, 1) by decide +kernel) rfl,
    mm_r_iconst X (show decode cJ6_bitCount_0f7a4 16 = .ok (.iconst 2, 1) by decide +kernel) rfl,
    mm_r_iushr X (show decode cJ6_bitCount_0f7a4 17 = .ok (.iushr, 1) by decide +kernel),
    mm_r_ldcw X (show decode cJ6_bitCount_0f7a4 18 = .ok (.ldc_w 266, 3) by decide +kernel) mw_907,
    mm_r_iand X (show decode cJ6_bitCount_0f7a4 21 = .ok (.iand, 1) by decide +kernel),
    mm_r_iadd X (show decode cJ6_bitCount_0f7a4 22 = .ok (.iadd, 1) by decide +kernel),
    mm_r_istore_n X (show decode cJ6_bitCount_0f7a4 23 = .ok (.istore_n 0, 1) by decide +kernel) rfl (Nat.le_of_ble_eq_true rfl),
    mm_r_iload_n X (show decode cJ6_bitCount_0f7a4 24 = .ok (.iload_n 0, 1) by decide +kernel) rfl,
    mm_r_iload_n X (show decode cJ6_bitCount_0f7a4 25 = .ok (.iload_n 0, 1) by decide +kernel) rfl,
    mm_r_iconst X (show decode cJ6_bitCount_0f7a4 26 = .ok (.iconst 4, 1) by decide +kernel) rfl,
    mm_r_iushr X (show decode cJ6_bitCount_0f7a4 27 = .ok (.iushr, 1) by decide +kernel),
    mm_r_iadd X (show decode cJ6_bitCount_0f7a4 28 = .ok (.iadd, 1) by decide +kernel),
    mm_r_ldcw X (show decode cJ6_bitCount_0f7a4 29 = .ok (.ldc_w 267, 3) by decide +kernel) mw_908,
    mm_r_iand X (show decode cJ6_bitCount_0f7a4 32 = .ok (.iand, 1) by decide +kernel),
    mm_r_istore_n X (show decode cJ6_bitCount_0f7a4 33 = .ok (.istore_n 0, 1) by decide +kernel) rfl (Nat.le_of_ble_eq_true rfl),
    mm_r_iload_n X (show decode cJ6_bitCount_0f7a4 34 = .ok (.iload_n 0, 1) by decide +kernel) rfl,
    mm_r_iload_n X (show decode cJ6_bitCount_0f7a4 35 = .ok (.iload_n 0, 1) by decide +kernel) rfl,
    mm_r_bipush X (show decode cJ6_bitCount_0f7a4 36 = .ok (.bipush 8, 2) by decide +kernel) rfl,
    mm_r_iushr X (show decode cJ6_bitCount_0f7a4 38 = .ok (.iushr, 1) by decide +kernel),
    mm_r_iadd X (show decode cJ6_bitCount_0f7a4 39 = .ok (.iadd, 1) by decide +kernel),
    mm_r_istore_n X (show decode cJ6_bitCount_0f7a4 40 = .ok (.istore_n 0, 1) by decide +kernel) rfl (Nat.le_of_ble_eq_true rfl),
    mm_r_iload_n X (show decode cJ6_bitCount_0f7a4 41 = .ok (.iload_n 0, 1) by decide +kernel) rfl,
    mm_r_iload_n X (show decode cJ6_bitCount_0f7a4 42 = .ok (.iload_n 0, 1) by decide +kernel) rfl,
    mm_r_bipush X (show decode cJ6_bitCount_0f7a4 43 = .ok (.bipush 16, 2) by decide +kernel) rfl,
    mm_r_iushr X (show decode cJ6_bitCount_0f7a4 45 = .ok (.iushr, 1) by decide +kernel),
    mm_r_iadd X (show decode cJ6_bitCount_0f7a4 46 = .ok (.iadd, 1) by decide +kernel),
    mm_r_istore_n X (show decode cJ6_bitCount_0f7a4 47 = .ok (.istore_n 0, 1) by decide +kernel) rfl (Nat.le_of_ble_eq_true rfl),
    mm_r_iload_n X (show decode cJ6_bitCount_0f7a4 48 = .ok (.iload_n 0, 1) by decide +kernel) rfl,
    mm_r_bipush X (show decode cJ6_bitCount_0f7a4 49 = .ok (.bipush 63, 2) by decide +kernel) rfl,
    mm_r_iand X (show decode cJ6_bitCount_0f7a4 51 = .ok (.iand, 1) by decide +kernel),
    mm_r_iret X hret (show decode cJ6_bitCount_0f7a4 52 = .ok (.ireturn, 1) by decide +kernel), trivial⟩
theorem sn_J6_bitCount_0f7a4 {l : Launch} (hl : l.stackTraces = false) : mm_Snd l yJ6_bitCount_0f7a4 (.code yJ6_bitCount_0f7a4 cJ6_bitCount_0f7a4 1 (some .int)) 1 20 f_J6_bitCount_0f7a4 := mm_met hl (by decide +kernel) (ok_J6_bitCount_0f7a4 hl)
/-! java/lang/Long.bitCount(J)I -/
noncomputable def tb_J13_bitCount_95d88 : List (Nat × mm_I) := [(0, mm_ldJ 1 0), (1, mm_ldJ 2 0), (2, mm_k 3 (.int 1)), (3, mm_ls 4 (fun a b => (a.toUInt64 >>> (b.toInt64.toUInt64 &&& Int64.toUInt64 63)).toInt64)), (4, mm_k 7 (.long 6148914691236517205)), (7, mm_l2 8 (fun a b => a &&& b)), (8, mm_l2 9 (fun a b => a - b)), (9, mm_stJ 10 0), (10, mm_ldJ 11 0), (11, mm_k 14 (.long 3689348814741910323)), (14, mm_l2 15 (fun a b => a &&& b)), (15, mm_ldJ 16 0), (16, mm_k 17 (.int 2)), (17, mm_ls 18 (fun a b => (a.toUInt64 >>> (b.toInt64.toUInt64 &&& Int64.toUInt64 63)).toInt64)), (18, mm_k 21 (.long 3689348814741910323)), (21, mm_l2 22 (fun a b => a &&& b)), (22, mm_l2 23 (fun a b => a + b)), (23, mm_stJ 24 0), (24, mm_ldJ 25 0), (25, mm_ldJ 26 0), (26, mm_k 27 (.int 4)), (27, mm_ls 28 (fun a b => (a.toUInt64 >>> (b.toInt64.toUInt64 &&& Int64.toUInt64 63)).toInt64)), (28, mm_l2 29 (fun a b => a + b)), (29, mm_k 32 (.long 1085102592571150095)), (32, mm_l2 33 (fun a b => a &&& b)), (33, mm_stJ 34 0), (34, mm_ldJ 35 0), (35, mm_ldJ 36 0), (36, mm_k 38 (.int 8)), (38, mm_ls 39 (fun a b => (a.toUInt64 >>> (b.toInt64.toUInt64 &&& Int64.toUInt64 63)).toInt64)), (39, mm_l2 40 (fun a b => a + b)), (40, mm_stJ 41 0), (41, mm_ldJ 42 0), (42, mm_ldJ 43 0), (43, mm_k 45 (.int 16)), (45, mm_ls 46 (fun a b => (a.toUInt64 >>> (b.toInt64.toUInt64 &&& Int64.toUInt64 63)).toInt64)), (46, mm_l2 47 (fun a b => a + b)), (47, mm_stJ 48 0), (48, mm_ldJ 49 0), (49, mm_ldJ 50 0), (50, mm_k 52 (.int 32)), (52, mm_ls 53 (fun a b => (a.toUInt64 >>> (b.toInt64.toUInt64 &&& Int64.toUInt64 63)).toInt64)), (53, mm_l2 54 (fun a b => a + b)), (54, mm_stJ 55 0), (55, mm_ldJ 56 0), (56, mm_li 57 (fun a => a.toInt32)), (57, mm_k 59 (.int 127)), (59, mm_i2 60 (fun a b => a &&& b)), (60, mm_rtI)]
noncomputable def f_J13_bitCount_95d88 : mm_F := mm_do (mm_pr tb_J13_bitCount_95d88) 2
theorem mn_J13_bitCount_95d88 : mm_alln tb_J13_bitCount_95d88 := ⟨mm_n_ldJ _ _, mm_n_ldJ _ _, mm_n_k _ _, mm_n_ls _ _, mm_n_k _ _, mm_n_l2 _ _, mm_n_l2 _ _, mm_n_stJ _ _, mm_n_ldJ _ _, mm_n_k _ _, mm_n_l2 _ _, mm_n_ldJ _ _, mm_n_k _ _, mm_n_ls _ _, mm_n_k _ _, mm_n_l2 _ _, mm_n_l2 _ _, mm_n_stJ _ _, mm_n_ldJ _ _, mm_n_ldJ _ _, mm_n_k _ _, mm_n_ls _ _, mm_n_l2 _ _, mm_n_k _ _, mm_n_l2 _ _, mm_n_stJ _ _, mm_n_ldJ _ _, mm_n_ldJ _ _, mm_n_k _ _, mm_n_ls _ _, mm_n_l2 _ _, mm_n_stJ _ _, mm_n_ldJ _ _, mm_n_ldJ _ _, mm_n_k _ _, mm_n_ls _ _, mm_n_l2 _ _, mm_n_stJ _ _, mm_n_ldJ _ _, mm_n_ldJ _ _, mm_n_k _ _, mm_n_ls _ _, mm_n_l2 _ _, mm_n_stJ _ _, mm_n_ldJ _ _, mm_n_li _ _, mm_n_k _ _, mm_n_i2 _ _, mm_n_rtI, trivial⟩
theorem mo_J13_bitCount_95d88 : mm_Mo f_J13_bitCount_95d88 := mm_do_mo (mm_alln_mem mn_J13_bitCount_95d88)
set_option maxRecDepth 10000 in
theorem ok_J13_bitCount_95d88 {l : Launch} (hl : l.stackTraces = false) : mm_Ok l yJ13_bitCount_95d88 cJ13_bitCount_95d88 2 (some .int) 1 20 tb_J13_bitCount_95d88 := by
  refine ⟨mm_alln_mem mn_J13_bitCount_95d88, fun p e cells slots s m args below meth c D tc A S ad Tg X hret hname htab hth => mm_allr_mem ?_⟩
  exact ⟨mm_r_lload_n X (show decode cJ13_bitCount_95d88 0 = .ok (.lload_n 0, 1) by decide +kernel) rfl,
    mm_r_lload_n X (show decode cJ13_bitCount_95d88 1 = .ok (.lload_n 0, 1) by decide +kernel) rfl,
    mm_r_iconst X (show decode cJ13_bitCount_95d88 2 = .ok (.iconst 1, 1) by decide +kernel) rfl,
    mm_r_lushr X (show decode cJ13_bitCount_95d88 3 = .ok (.lushr, 1) by decide +kernel),
    mm_r_ldc2 X (show decode cJ13_bitCount_95d88 4 = .ok (.ldc2_w 314, 3) by decide +kernel) mw_230,
    mm_r_land X (show decode cJ13_bitCount_95d88 7 = .ok (.land, 1) by decide +kernel),
    mm_r_lsub X (show decode cJ13_bitCount_95d88 8 = .ok (.lsub, 1) by decide +kernel),
    mm_r_lstore_n X (show decode cJ13_bitCount_95d88 9 = .ok (.lstore_n 0, 1) by decide +kernel) rfl (Nat.le_of_ble_eq_true rfl),
    mm_r_lload_n X (show decode cJ13_bitCount_95d88 10 = .ok (.lload_n 0, 1) by decide +kernel) rfl,
    mm_r_ldc2 X (show decode cJ13_bitCount_95d88 11 = .ok (.ldc2_w 316, 3) by decide +kernel) mw_231,
    mm_r_land X (show decode cJ13_bitCount_95d88 14 = .ok (.land, 1) by decide +kernel),
    mm_r_lload_n X (show decode cJ13_bitCount_95d88 15 = .ok (.lload_n 0, 1) by decide +kernel) rfl,
    mm_r_iconst X (show decode cJ13_bitCount_95d88 16 = .ok (.iconst 2, 1) by decide +kernel) rfl,
    mm_r_lushr X (show decode cJ13_bitCount_95d88 17 = .ok (.lushr, 1) by decide +kernel),
    mm_r_ldc2 X (show decode cJ13_bitCount_95d88 18 = .ok (.ldc2_w 316, 3) by decide +kernel) mw_231,
    mm_r_land X (show decode cJ13_bitCount_95d88 21 = .ok (.land, 1) by decide +kernel),
    mm_r_ladd X (show decode cJ13_bitCount_95d88 22 = .ok (.ladd, 1) by decide +kernel),
    mm_r_lstore_n X (show decode cJ13_bitCount_95d88 23 = .ok (.lstore_n 0, 1) by decide +kernel) rfl (Nat.le_of_ble_eq_true rfl),
    mm_r_lload_n X (show decode cJ13_bitCount_95d88 24 = .ok (.lload_n 0, 1) by decide +kernel) rfl,
    mm_r_lload_n X (show decode cJ13_bitCount_95d88 25 = .ok (.lload_n 0, 1) by decide +kernel) rfl,
    mm_r_iconst X (show decode cJ13_bitCount_95d88 26 = .ok (.iconst 4, 1) by decide +kernel) rfl,
    mm_r_lushr X (show decode cJ13_bitCount_95d88 27 = .ok (.lushr, 1) by decide +kernel),
    mm_r_ladd X (show decode cJ13_bitCount_95d88 28 = .ok (.ladd, 1) by decide +kernel),
    mm_r_ldc2 X (show decode cJ13_bitCount_95d88 29 = .ok (.ldc2_w 318, 3) by decide +kernel) mw_232,
    mm_r_land X (show decode cJ13_bitCount_95d88 32 = .ok (.land, 1) by decide +kernel),
    mm_r_lstore_n X (show decode cJ13_bitCount_95d88 33 = .ok (.lstore_n 0, 1) by decide +kernel) rfl (Nat.le_of_ble_eq_true rfl),
    mm_r_lload_n X (show decode cJ13_bitCount_95d88 34 = .ok (.lload_n 0, 1) by decide +kernel) rfl,
    mm_r_lload_n X (show decode cJ13_bitCount_95d88 35 = .ok (.lload_n 0, 1) by decide +kernel) rfl,
    mm_r_bipush X (show decode cJ13_bitCount_95d88 36 = .ok (.bipush 8, 2) by decide +kernel) rfl,
    mm_r_lushr X (show decode cJ13_bitCount_95d88 38 = .ok (.lushr, 1) by decide +kernel),
    mm_r_ladd X (show decode cJ13_bitCount_95d88 39 = .ok (.ladd, 1) by decide +kernel),
    mm_r_lstore_n X (show decode cJ13_bitCount_95d88 40 = .ok (.lstore_n 0, 1) by decide +kernel) rfl (Nat.le_of_ble_eq_true rfl),
    mm_r_lload_n X (show decode cJ13_bitCount_95d88 41 = .ok (.lload_n 0, 1) by decide +kernel) rfl,
    mm_r_lload_n X (show decode cJ13_bitCount_95d88 42 = .ok (.lload_n 0, 1) by decide +kernel) rfl,
    mm_r_bipush X (show decode cJ13_bitCount_95d88 43 = .ok (.bipush 16, 2) by decide +kernel) rfl,
    mm_r_lushr X (show decode cJ13_bitCount_95d88 45 = .ok (.lushr, 1) by decide +kernel),
    mm_r_ladd X (show decode cJ13_bitCount_95d88 46 = .ok (.ladd, 1) by decide +kernel),
    mm_r_lstore_n X (show decode cJ13_bitCount_95d88 47 = .ok (.lstore_n 0, 1) by decide +kernel) rfl (Nat.le_of_ble_eq_true rfl),
    mm_r_lload_n X (show decode cJ13_bitCount_95d88 48 = .ok (.lload_n 0, 1) by decide +kernel) rfl,
    mm_r_lload_n X (show decode cJ13_bitCount_95d88 49 = .ok (.lload_n 0, 1) by decide +kernel) rfl,
    mm_r_bipush X (show decode cJ13_bitCount_95d88 50 = .ok (.bipush 32, 2) by decide +kernel) rfl,
    mm_r_lushr X (show decode cJ13_bitCount_95d88 52 = .ok (.lushr, 1) by decide +kernel),
    mm_r_ladd X (show decode cJ13_bitCount_95d88 53 = .ok (.ladd, 1) by decide +kernel),
    mm_r_lstore_n X (show decode cJ13_bitCount_95d88 54 = .ok (.lstore_n 0, 1) by decide +kernel) rfl (Nat.le_of_ble_eq_true rfl),
    mm_r_lload_n X (show decode cJ13_bitCount_95d88 55 = .ok (.lload_n 0, 1) by decide +kernel) rfl,
    mm_r_l2i X (show decode cJ13_bitCount_95d88 56 = .ok (.l2i, 1) by decide +kernel),
    mm_r_bipush X (show decode cJ13_bitCount_95d88 57 = .ok (.bipush 127, 2) by decide +kernel) rfl,
    mm_r_iand X (show decode cJ13_bitCount_95d88 59 = .ok (.iand, 1) by decide +kernel),
    mm_r_iret X hret (show decode cJ13_bitCount_95d88 60 = .ok (.ireturn, 1) by decide +kernel), trivial⟩
theorem sn_J13_bitCount_95d88 {l : Launch} (hl : l.stackTraces = false) : mm_Snd l yJ13_bitCount_95d88 (.code yJ13_bitCount_95d88 cJ13_bitCount_95d88 2 (some .int)) 1 20 f_J13_bitCount_95d88 := mm_met hl (by decide +kernel) (ok_J13_bitCount_95d88 hl)
/-! java/lang/Math.abs(I)I -/
noncomputable def tb_J9_abs_0f7a4 : List (Nat × mm_I) := [(0, mm_ldI 1 0), (1, mm_ge1 9 4), (4, mm_ldI 5 0), (5, mm_i1 6 (fun a => -a)), (6, mm_go 10), (9, mm_ldI 10 0), (10, mm_rtI)]
noncomputable def f_J9_abs_0f7a4 : mm_F := mm_do (mm_pr tb_J9_abs_0f7a4) 1
theorem mn_J9_abs_0f7a4 : mm_alln tb_J9_abs_0f7a4 := ⟨mm_n_ldI _ _, mm_n_ge1 _ _, mm_n_ldI _ _, mm_n_i1 _ _, mm_n_go _, mm_n_ldI _ _, mm_n_rtI, trivial⟩
theorem mo_J9_abs_0f7a4 : mm_Mo f_J9_abs_0f7a4 := mm_do_mo (mm_alln_mem mn_J9_abs_0f7a4)
set_option maxRecDepth 10000 in
theorem ok_J9_abs_0f7a4 {l : Launch} (hl : l.stackTraces = false) : mm_Ok l yJ9_abs_0f7a4 cJ9_abs_0f7a4 1 (some .int) 1 20 tb_J9_abs_0f7a4 := by
  refine ⟨mm_alln_mem mn_J9_abs_0f7a4, fun p e cells slots s m args below meth c D tc A S ad Tg X hret hname htab hth => mm_allr_mem ?_⟩
  exact ⟨mm_r_iload_n X (show decode cJ9_abs_0f7a4 0 = .ok (.iload_n 0, 1) by decide +kernel) rfl,
    mm_r_ge1 X (show decode cJ9_abs_0f7a4 1 = .ok (.ifCond .ge 8, 3) by decide +kernel) (by decide),
    mm_r_iload_n X (show decode cJ9_abs_0f7a4 4 = .ok (.iload_n 0, 1) by decide +kernel) rfl,
    mm_r_ineg X (show decode cJ9_abs_0f7a4 5 = .ok (.ineg, 1) by decide +kernel),
    mm_r_goto X (show decode cJ9_abs_0f7a4 6 = .ok (.goto 4, 3) by decide +kernel) (by decide),
    mm_r_iload_n X (show decode cJ9_abs_0f7a4 9 = .ok (.iload_n 0, 1) by decide +kernel) rfl,
    mm_r_iret X hret (show decode cJ9_abs_0f7a4 10 = .ok (.ireturn, 1) by decide +kernel), trivial⟩
theorem sn_J9_abs_0f7a4 {l : Launch} (hl : l.stackTraces = false) : mm_Snd l yJ9_abs_0f7a4 (.code yJ9_abs_0f7a4 cJ9_abs_0f7a4 1 (some .int)) 1 20 f_J9_abs_0f7a4 := mm_met hl (by decide +kernel) (ok_J9_abs_0f7a4 hl)
/-! java/lang/Math.floorDiv(II)I -/
noncomputable def tb_J9_floorDiv_7cf53 : List (Nat × mm_I) := [(0, mm_ldI 1 0), (1, mm_ldI 2 1), (2, mm_i3 3 (fun a b => a / b)), (3, mm_stI 4 2), (4, mm_ldI 5 0), (5, mm_ldI 6 1), (6, mm_i2 7 (fun a b => a ^^^ b)), (7, mm_ge1 21 10), (10, mm_ldI 11 2), (11, mm_ldI 12 1), (12, mm_i2 13 (fun a b => a * b)), (13, mm_ldI 14 0), (14, mm_eq2 21 17), (17, mm_ldI 18 2), (18, mm_k 19 (.int 1)), (19, mm_i2 20 (fun a b => a - b)), (20, mm_rtI), (21, mm_ldI 22 2), (22, mm_rtI)]
noncomputable def f_J9_floorDiv_7cf53 : mm_F := mm_do (mm_pr tb_J9_floorDiv_7cf53) 3
theorem mn_J9_floorDiv_7cf53 : mm_alln tb_J9_floorDiv_7cf53 := ⟨mm_n_ldI _ _, mm_n_ldI _ _, mm_n_i3 _ _, mm_n_stI _ _, mm_n_ldI _ _, mm_n_ldI _ _, mm_n_i2 _ _, mm_n_ge1 _ _, mm_n_ldI _ _, mm_n_ldI _ _, mm_n_i2 _ _, mm_n_ldI _ _, mm_n_eq2 _ _, mm_n_ldI _ _, mm_n_k _ _, mm_n_i2 _ _, mm_n_rtI, mm_n_ldI _ _, mm_n_rtI, trivial⟩
theorem mo_J9_floorDiv_7cf53 : mm_Mo f_J9_floorDiv_7cf53 := mm_do_mo (mm_alln_mem mn_J9_floorDiv_7cf53)
set_option maxRecDepth 10000 in
theorem ok_J9_floorDiv_7cf53 {l : Launch} (hl : l.stackTraces = false) : mm_Ok l yJ9_floorDiv_7cf53 cJ9_floorDiv_7cf53 3 (some .int) 1 20 tb_J9_floorDiv_7cf53 := by
  refine ⟨mm_alln_mem mn_J9_floorDiv_7cf53, fun p e cells slots s m args below meth c D tc A S ad Tg X hret hname htab hth => mm_allr_mem ?_⟩
  exact ⟨mm_r_iload_n X (show decode cJ9_floorDiv_7cf53 0 = .ok (.iload_n 0, 1) by decide +kernel) rfl,
    mm_r_iload_n X (show decode cJ9_floorDiv_7cf53 1 = .ok (.iload_n 1, 1) by decide +kernel) rfl,
    mm_r_idiv X (show decode cJ9_floorDiv_7cf53 2 = .ok (.idiv, 1) by decide +kernel),
    mm_r_istore_n X (show decode cJ9_floorDiv_7cf53 3 = .ok (.istore_n 2, 1) by decide +kernel) rfl (Nat.le_of_ble_eq_true rfl),
    mm_r_iload_n X (show decode cJ9_floorDiv_7cf53 4 = .ok (.iload_n 0, 1) by decide +kernel) rfl,
    mm_r_iload_n X (show decode cJ9_floorDiv_7cf53 5 = .ok (.iload_n 1, 1) by decide +kernel) rfl,
    mm_r_ixor X (show decode cJ9_floorDiv_7cf53 6 = .ok (.ixor, 1) by decide +kernel),
    mm_r_ge1 X (show decode cJ9_floorDiv_7cf53 7 = .ok (.ifCond .ge 14, 3) by decide +kernel) (by decide),
    mm_r_iload_n X (show decode cJ9_floorDiv_7cf53 10 = .ok (.iload_n 2, 1) by decide +kernel) rfl,
    mm_r_iload_n X (show decode cJ9_floorDiv_7cf53 11 = .ok (.iload_n 1, 1) by decide +kernel) rfl,
    mm_r_imul X (show decode cJ9_floorDiv_7cf53 12 = .ok (.imul, 1) by decide +kernel),
    mm_r_iload_n X (show decode cJ9_floorDiv_7cf53 13 = .ok (.iload_n 0, 1) by decide +kernel) rfl,
    mm_r_eq2 X (show decode cJ9_floorDiv_7cf53 14 = .ok (.if_icmp .eq 7, 3) by decide +kernel) (by decide),
    mm_r_iload_n X (show decode cJ9_floorDiv_7cf53 17 = .ok (.iload_n 2, 1) by decide +kernel) rfl,
    mm_r_iconst X (show decode cJ9_floorDiv_7cf53 18 = .ok (.iconst 1, 1) by decide +kernel) rfl,
    mm_r_isub X (show decode cJ9_floorDiv_7cf53 19 = .ok (.isub, 1) by decide +kernel),
    mm_r_iret X hret (show decode cJ9_floorDiv_7cf53 20 = .ok (.ireturn, 1) by decide +kernel),
    mm_r_iload_n X (show decode cJ9_floorDiv_7cf53 21 = .ok (.iload_n 2, 1) by decide +kernel) rfl,
    mm_r_iret X hret (show decode cJ9_floorDiv_7cf53 22 = .ok (.ireturn, 1) by decide +kernel), trivial⟩
theorem sn_J9_floorDiv_7cf53 {l : Launch} (hl : l.stackTraces = false) : mm_Snd l yJ9_floorDiv_7cf53 (.code yJ9_floorDiv_7cf53 cJ9_floorDiv_7cf53 3 (some .int)) 1 20 f_J9_floorDiv_7cf53 := mm_met hl (by decide +kernel) (ok_J9_floorDiv_7cf53 hl)
/-! java/lang/Math.max(II)I -/
noncomputable def tb_J9_max_7cf53 : List (Nat × mm_I) := [(0, mm_ldI 1 0), (1, mm_ldI 2 1), (2, mm_lt2 9 5), (5, mm_ldI 6 0), (6, mm_go 10), (9, mm_ldI 10 1), (10, mm_rtI)]
noncomputable def f_J9_max_7cf53 : mm_F := mm_do (mm_pr tb_J9_max_7cf53) 2
theorem mn_J9_max_7cf53 : mm_alln tb_J9_max_7cf53 := ⟨mm_n_ldI _ _, mm_n_ldI _ _, mm_n_lt2 _ _, mm_n_ldI _ _, mm_n_go _, mm_n_ldI _ _, mm_n_rtI, trivial⟩
theorem mo_J9_max_7cf53 : mm_Mo f_J9_max_7cf53 := mm_do_mo (mm_alln_mem mn_J9_max_7cf53)
set_option maxRecDepth 10000 in
theorem ok_J9_max_7cf53 {l : Launch} (hl : l.stackTraces = false) : mm_Ok l yJ9_max_7cf53 cJ9_max_7cf53 2 (some .int) 1 20 tb_J9_max_7cf53 := by
  refine ⟨mm_alln_mem mn_J9_max_7cf53, fun p e cells slots s m args below meth c D tc A S ad Tg X hret hname htab hth => mm_allr_mem ?_⟩
  exact ⟨mm_r_iload_n X (show decode cJ9_max_7cf53 0 = .ok (.iload_n 0, 1) by decide +kernel) rfl,
    mm_r_iload_n X (show decode cJ9_max_7cf53 1 = .ok (.iload_n 1, 1) by decide +kernel) rfl,
    mm_r_lt2 X (show decode cJ9_max_7cf53 2 = .ok (.if_icmp .lt 7, 3) by decide +kernel) (by decide),
    mm_r_iload_n X (show decode cJ9_max_7cf53 5 = .ok (.iload_n 0, 1) by decide +kernel) rfl,
    mm_r_goto X (show decode cJ9_max_7cf53 6 = .ok (.goto 4, 3) by decide +kernel) (by decide),
    mm_r_iload_n X (show decode cJ9_max_7cf53 9 = .ok (.iload_n 1, 1) by decide +kernel) rfl,
    mm_r_iret X hret (show decode cJ9_max_7cf53 10 = .ok (.ireturn, 1) by decide +kernel), trivial⟩
theorem sn_J9_max_7cf53 {l : Launch} (hl : l.stackTraces = false) : mm_Snd l yJ9_max_7cf53 (.code yJ9_max_7cf53 cJ9_max_7cf53 2 (some .int)) 1 20 f_J9_max_7cf53 := mm_met hl (by decide +kernel) (ok_J9_max_7cf53 hl)
/-! java/lang/Math.min(II)I -/
noncomputable def tb_J9_min_7cf53 : List (Nat × mm_I) := [(0, mm_ldI 1 0), (1, mm_ldI 2 1), (2, mm_gt2 9 5), (5, mm_ldI 6 0), (6, mm_go 10), (9, mm_ldI 10 1), (10, mm_rtI)]
noncomputable def f_J9_min_7cf53 : mm_F := mm_do (mm_pr tb_J9_min_7cf53) 2
theorem mn_J9_min_7cf53 : mm_alln tb_J9_min_7cf53 := ⟨mm_n_ldI _ _, mm_n_ldI _ _, mm_n_gt2 _ _, mm_n_ldI _ _, mm_n_go _, mm_n_ldI _ _, mm_n_rtI, trivial⟩
theorem mo_J9_min_7cf53 : mm_Mo f_J9_min_7cf53 := mm_do_mo (mm_alln_mem mn_J9_min_7cf53)
set_option maxRecDepth 10000 in
theorem ok_J9_min_7cf53 {l : Launch} (hl : l.stackTraces = false) : mm_Ok l yJ9_min_7cf53 cJ9_min_7cf53 2 (some .int) 1 20 tb_J9_min_7cf53 := by
  refine ⟨mm_alln_mem mn_J9_min_7cf53, fun p e cells slots s m args below meth c D tc A S ad Tg X hret hname htab hth => mm_allr_mem ?_⟩
  exact ⟨mm_r_iload_n X (show decode cJ9_min_7cf53 0 = .ok (.iload_n 0, 1) by decide +kernel) rfl,
    mm_r_iload_n X (show decode cJ9_min_7cf53 1 = .ok (.iload_n 1, 1) by decide +kernel) rfl,
    mm_r_gt2 X (show decode cJ9_min_7cf53 2 = .ok (.if_icmp .gt 7, 3) by decide +kernel) (by decide),
    mm_r_iload_n X (show decode cJ9_min_7cf53 5 = .ok (.iload_n 0, 1) by decide +kernel) rfl,
    mm_r_goto X (show decode cJ9_min_7cf53 6 = .ok (.goto 4, 3) by decide +kernel) (by decide),
    mm_r_iload_n X (show decode cJ9_min_7cf53 9 = .ok (.iload_n 1, 1) by decide +kernel) rfl,
    mm_r_iret X hret (show decode cJ9_min_7cf53 10 = .ok (.ireturn, 1) by decide +kernel), trivial⟩
theorem sn_J9_min_7cf53 {l : Launch} (hl : l.stackTraces = false) : mm_Snd l yJ9_min_7cf53 (.code yJ9_min_7cf53 cJ9_min_7cf53 2 (some .int)) 1 20 f_J9_min_7cf53 := mm_met hl (by decide +kernel) (ok_J9_min_7cf53 hl)
/-! java/util/Arrays.fill([BB)V -/
noncomputable def tb_J7_fill_031fb : List (Nat × mm_I) := [(0, mm_k 1 (.int 0)), (1, mm_stI 2 2), (2, mm_ldR 3 0), (3, mm_aln 4 2), (4, mm_stI 5 3), (5, mm_ldI 6 2), (6, mm_ldI 7 3), (7, mm_ge2 20 10), (10, mm_ldR 11 0), (11, mm_ldI 12 2), (12, mm_ldI 13 1), (13, mm_ast 14 2 (fun v => v.toInt8.toInt32)), (14, mm_inc 17 2 1), (17, mm_go 5), (20, mm_rtV)]
noncomputable def f_J7_fill_031fb : mm_F := mm_do (mm_pr tb_J7_fill_031fb) 4
theorem mn_J7_fill_031fb : mm_alln tb_J7_fill_031fb := ⟨mm_n_k _ _, mm_n_stI _ _, mm_n_ldR _ _, mm_n_aln _ _, mm_n_stI _ _, mm_n_ldI _ _, mm_n_ldI _ _, mm_n_ge2 _ _, mm_n_ldR _ _, mm_n_ldI _ _, mm_n_ldI _ _, mm_n_ast _ _ _, mm_n_inc _ _ _, mm_n_go _, mm_n_rtV, trivial⟩
theorem mo_J7_fill_031fb : mm_Mo f_J7_fill_031fb := mm_do_mo (mm_alln_mem mn_J7_fill_031fb)
set_option maxRecDepth 10000 in
theorem ok_J7_fill_031fb {l : Launch} (hl : l.stackTraces = false) : mm_Ok l yJ7_fill_031fb cJ7_fill_031fb 4 none 1 20 tb_J7_fill_031fb := by
  refine ⟨mm_alln_mem mn_J7_fill_031fb, fun p e cells slots s m args below meth c D tc A S ad Tg X hret hname htab hth => mm_allr_mem ?_⟩
  exact ⟨mm_r_iconst X (show decode cJ7_fill_031fb 0 = .ok (.iconst 0, 1) by decide +kernel) rfl,
    mm_r_istore_n X (show decode cJ7_fill_031fb 1 = .ok (.istore_n 2, 1) by decide +kernel) rfl (Nat.le_of_ble_eq_true rfl),
    mm_r_aload_n X (show decode cJ7_fill_031fb 2 = .ok (.aload_n 0, 1) by decide +kernel) rfl,
    mm_r_aln X (t := 2) (Nat.le_of_ble_eq_true rfl) (show decode cJ7_fill_031fb 3 = .ok (.arraylength, 1) by decide +kernel),
    mm_r_istore_n X (show decode cJ7_fill_031fb 4 = .ok (.istore_n 3, 1) by decide +kernel) rfl (Nat.le_of_ble_eq_true rfl),
    mm_r_iload_n X (show decode cJ7_fill_031fb 5 = .ok (.iload_n 2, 1) by decide +kernel) rfl,
    mm_r_iload_n X (show decode cJ7_fill_031fb 6 = .ok (.iload_n 3, 1) by decide +kernel) rfl,
    mm_r_ge2 X (show decode cJ7_fill_031fb 7 = .ok (.if_icmp .ge 13, 3) by decide +kernel) (by decide),
    mm_r_aload_n X (show decode cJ7_fill_031fb 10 = .ok (.aload_n 0, 1) by decide +kernel) rfl,
    mm_r_iload_n X (show decode cJ7_fill_031fb 11 = .ok (.iload_n 2, 1) by decide +kernel) rfl,
    mm_r_iload_n X (show decode cJ7_fill_031fb 12 = .ok (.iload_n 1, 1) by decide +kernel) rfl,
    mm_r_bast X (show decode cJ7_fill_031fb 13 = .ok (.bastore, 1) by decide +kernel),
    mm_r_iinc X (show decode cJ7_fill_031fb 14 = .ok (.iinc 2 1, 3) by decide +kernel) rfl (Nat.le_of_ble_eq_true rfl),
    mm_r_goto X (show decode cJ7_fill_031fb 17 = .ok (.goto (-12), 3) by decide +kernel) (by decide),
    mm_r_vret X hret (show decode cJ7_fill_031fb 20 = .ok (.return_, 1) by decide +kernel), trivial⟩
theorem sn_J7_fill_031fb {l : Launch} (hl : l.stackTraces = false) : mm_Snd l yJ7_fill_031fb (.code yJ7_fill_031fb cJ7_fill_031fb 4 none) 1 20 f_J7_fill_031fb := mm_met hl (by decide +kernel) (ok_J7_fill_031fb hl)
/-! java/util/Arrays.fill([II)V -/
noncomputable def tb_J7_fill_53178 : List (Nat × mm_I) := [(0, mm_k 1 (.int 0)), (1, mm_stI 2 2), (2, mm_ldR 3 0), (3, mm_aln 4 0), (4, mm_stI 5 3), (5, mm_ldI 6 2), (6, mm_ldI 7 3), (7, mm_ge2 20 10), (10, mm_ldR 11 0), (11, mm_ldI 12 2), (12, mm_ldI 13 1), (13, mm_ast 14 0 (fun v => v)), (14, mm_inc 17 2 1), (17, mm_go 5), (20, mm_rtV)]
noncomputable def f_J7_fill_53178 : mm_F := mm_do (mm_pr tb_J7_fill_53178) 4
theorem mn_J7_fill_53178 : mm_alln tb_J7_fill_53178 := ⟨mm_n_k _ _, mm_n_stI _ _, mm_n_ldR _ _, mm_n_aln _ _, mm_n_stI _ _, mm_n_ldI _ _, mm_n_ldI _ _, mm_n_ge2 _ _, mm_n_ldR _ _, mm_n_ldI _ _, mm_n_ldI _ _, mm_n_ast _ _ _, mm_n_inc _ _ _, mm_n_go _, mm_n_rtV, trivial⟩
theorem mo_J7_fill_53178 : mm_Mo f_J7_fill_53178 := mm_do_mo (mm_alln_mem mn_J7_fill_53178)
set_option maxRecDepth 10000 in
theorem ok_J7_fill_53178 {l : Launch} (hl : l.stackTraces = false) : mm_Ok l yJ7_fill_53178 cJ7_fill_53178 4 none 1 20 tb_J7_fill_53178 := by
  refine ⟨mm_alln_mem mn_J7_fill_53178, fun p e cells slots s m args below meth c D tc A S ad Tg X hret hname htab hth => mm_allr_mem ?_⟩
  exact ⟨mm_r_iconst X (show decode cJ7_fill_53178 0 = .ok (.iconst 0, 1) by decide +kernel) rfl,
    mm_r_istore_n X (show decode cJ7_fill_53178 1 = .ok (.istore_n 2, 1) by decide +kernel) rfl (Nat.le_of_ble_eq_true rfl),
    mm_r_aload_n X (show decode cJ7_fill_53178 2 = .ok (.aload_n 0, 1) by decide +kernel) rfl,
    mm_r_aln X (t := 0) (Nat.le_of_ble_eq_true rfl) (show decode cJ7_fill_53178 3 = .ok (.arraylength, 1) by decide +kernel),
    mm_r_istore_n X (show decode cJ7_fill_53178 4 = .ok (.istore_n 3, 1) by decide +kernel) rfl (Nat.le_of_ble_eq_true rfl),
    mm_r_iload_n X (show decode cJ7_fill_53178 5 = .ok (.iload_n 2, 1) by decide +kernel) rfl,
    mm_r_iload_n X (show decode cJ7_fill_53178 6 = .ok (.iload_n 3, 1) by decide +kernel) rfl,
    mm_r_ge2 X (show decode cJ7_fill_53178 7 = .ok (.if_icmp .ge 13, 3) by decide +kernel) (by decide),
    mm_r_aload_n X (show decode cJ7_fill_53178 10 = .ok (.aload_n 0, 1) by decide +kernel) rfl,
    mm_r_iload_n X (show decode cJ7_fill_53178 11 = .ok (.iload_n 2, 1) by decide +kernel) rfl,
    mm_r_iload_n X (show decode cJ7_fill_53178 12 = .ok (.iload_n 1, 1) by decide +kernel) rfl,
    mm_r_iast X (show decode cJ7_fill_53178 13 = .ok (.iastore, 1) by decide +kernel),
    mm_r_iinc X (show decode cJ7_fill_53178 14 = .ok (.iinc 2 1, 3) by decide +kernel) rfl (Nat.le_of_ble_eq_true rfl),
    mm_r_goto X (show decode cJ7_fill_53178 17 = .ok (.goto (-12), 3) by decide +kernel) (by decide),
    mm_r_vret X hret (show decode cJ7_fill_53178 20 = .ok (.return_, 1) by decide +kernel), trivial⟩
theorem sn_J7_fill_53178 {l : Launch} (hl : l.stackTraces = false) : mm_Snd l yJ7_fill_53178 (.code yJ7_fill_53178 cJ7_fill_53178 4 none) 1 20 f_J7_fill_53178 := mm_met hl (by decide +kernel) (ok_J7_fill_53178 hl)
