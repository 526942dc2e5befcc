/-! codes: by program (wip/p32/gen/gencode.py) -/
/-! Linkcourt$Board.sidesOf(J)I -/
noncomputable def tb_X1_sidesOf : List (Nat × mm_I) := [(0, mm_k 1 (.int 0)), (1, mm_stI 2 3), (2, mm_k 3 (.int 0)), (3, mm_stI 5 4), (5, mm_ldI 7 4), (7, mm_ldR 8 0), (8, mm_gfI 11 1 9), (11, mm_ge2 44 14), (14, mm_ldI 15 3), (15, mm_ldJ 16 1), (16, mm_ldR 17 0), (17, mm_ldI 19 4), (19, mm_clV 22 1 1 f_X1_side), (22, mm_l2 23 (fun a b => a &&& b)), (23, mm_k 24 (.long 0)), (24, mm_cmp 25), (25, mm_eq1 35 28), (28, mm_k 29 (.int 1)), (29, mm_ldI 31 4), (31, mm_i2 32 (fun a b => a <<< (b &&& 31))), (32, mm_go 36), (35, mm_k 36 (.int 0)), (36, mm_i2 37 (fun a b => a ||| b)), (37, mm_stI 38 3), (38, mm_inc 41 4 1), (41, mm_go 5), (44, mm_ldI 45 3), (45, mm_rtI)]
noncomputable def f_X1_sidesOf : mm_F := mm_do (mm_pr tb_X1_sidesOf) 5
theorem mn_X1_sidesOf : mm_alln tb_X1_sidesOf := ⟨mm_n_k _ _, mm_n_stI _ _, mm_n_k _ _, mm_n_stI _ _, mm_n_ldI _ _, mm_n_ldR _ _, mm_n_gfI _ _ _, mm_n_ge2 _ _, mm_n_ldI _ _, mm_n_ldJ _ _, mm_n_ldR _ _, mm_n_ldI _ _, mm_n_clV _ _ _ (mo_X1_side), mm_n_l2 _ _, mm_n_k _ _, mm_n_cmp _, mm_n_eq1 _ _, mm_n_k _ _, mm_n_ldI _ _, mm_n_i2 _ _, mm_n_go _, mm_n_k _ _, mm_n_i2 _ _, mm_n_stI _ _, mm_n_inc _ _ _, mm_n_go _, mm_n_ldI _ _, mm_n_rtI, trivial⟩
theorem mo_X1_sidesOf : mm_Mo f_X1_sidesOf := mm_do_mo (mm_alln_mem mn_X1_sidesOf)
set_option maxRecDepth 10000 in
theorem ok_X1_sidesOf {l : Launch} (hl : l.stackTraces = false) : mm_Ok l yX1_sidesOf cX1_sidesOf 5 (some .int) 2 41 tb_X1_sidesOf := by
  refine ⟨mm_alln_mem mn_X1_sidesOf, fun p e cells slots s m args below meth c D tc A S ad Tg X hret hname htab hth => mm_allr_mem ?_⟩
  exact ⟨mm_r_iconst X (show decode cX1_sidesOf 0 = .ok (.iconst 0, 1) by decide +kernel) rfl,
    mm_r_istore_n X (show decode cX1_sidesOf 1 = .ok (.istore_n 3, 1) by decide +kernel) rfl (Nat.le_of_ble_eq_true rfl),
    mm_r_iconst X (show decode cX1_sidesOf 2 = .ok (.iconst 0, 1) by decide +kernel) rfl,
    mm_r_istore X (show decode cX1_sidesOf 3 = .ok (.istore 4, 2) by decide +kernel) (Nat.le_of_ble_eq_true rfl),
    mm_r_iload X (show decode cX1_sidesOf 5 = .ok (.iload 4, 2) by decide +kernel),
    mm_r_aload_n X (show decode cX1_sidesOf 7 = .ok (.aload_n 0, 1) by decide +kernel) rfl,
    mm_r_gfI X (ci := 1) (p := 9) (show mm_kd 1 9 = 0 by decide +kernel) rfl (Nat.le_of_ble_eq_true rfl) (show decode cX1_sidesOf 8 = .ok (.getfield 38, 3) by decide +kernel) mw_93 rfl,
    mm_r_ge2 X (show decode cX1_sidesOf 11 = .ok (.if_icmp .ge 33, 3) by decide +kernel) (by decide),
    mm_r_iload_n X (show decode cX1_sidesOf 14 = .ok (.iload_n 3, 1) by decide +kernel) rfl,
    mm_r_lload_n X (show decode cX1_sidesOf 15 = .ok (.lload_n 1, 1) by decide +kernel) rfl,
    mm_r_aload_n X (show decode cX1_sidesOf 16 = .ok (.aload_n 0, 1) by decide +kernel) rfl,
    mm_r_iload X (show decode cX1_sidesOf 17 = .ok (.iload 4, 2) by decide +kernel),
    mm_r_clV X hth (ci := 1) (na := 1) (sn_X1_side hl) rfl (show decode cX1_sidesOf 19 = .ok (.invokevirtual 97, 3) by decide +kernel) mw_222 mw_219 mw_220 mw_221 mw_45 hd_X1_side ⟨(Nat.le_of_ble_eq_true rfl), (Nat.le_of_ble_eq_true rfl)⟩,
    mm_r_land X (show decode cX1_sidesOf 22 = .ok (.land, 1) by decide +kernel),
    mm_r_lconst X (show decode cX1_sidesOf 23 = .ok (.lconst 0, 1) by decide +kernel) rfl,
    mm_r_lcmp X (show decode cX1_sidesOf 24 = .ok (.lcmp, 1) by decide +kernel),
    mm_r_eq1 X (show decode cX1_sidesOf 25 = .ok (.ifCond .eq 10, 3) by decide +kernel) (by decide),
    mm_r_iconst X (show decode cX1_sidesOf 28 = .ok (.iconst 1, 1) by decide +kernel) rfl,
    mm_r_iload X (show decode cX1_sidesOf 29 = .ok (.iload 4, 2) by decide +kernel),
    mm_r_ishl X (show decode cX1_sidesOf 31 = .ok (.ishl, 1) by decide +kernel),
    mm_r_goto X (show decode cX1_sidesOf 32 = .ok (.goto 4, 3) by decide +kernel) (by decide),
    mm_r_iconst X (show decode cX1_sidesOf 35 = .ok (.iconst 0, 1) by decide +kernel) rfl,
    mm_r_ior X (show decode cX1_sidesOf 36 = .ok (.ior, 1) by decide +kernel),
    mm_r_istore_n X (show decode cX1_sidesOf 37 = .ok (.istore_n 3, 1) by decide +kernel) rfl (Nat.le_of_ble_eq_true rfl),
    mm_r_iinc X (show decode cX1_sidesOf 38 = .ok (.iinc 4 1, 3) by decide +kernel) rfl (Nat.le_of_ble_eq_true rfl),
    mm_r_goto X (show decode cX1_sidesOf 41 = .ok (.goto (-36), 3) by decide +kernel) (by decide),
    mm_r_iload_n X (show decode cX1_sidesOf 44 = .ok (.iload_n 3, 1) by decide +kernel) rfl,
    mm_r_iret X hret (show decode cX1_sidesOf 45 = .ok (.ireturn, 1) by decide +kernel), trivial⟩
theorem sn_X1_sidesOf {l : Launch} (hl : l.stackTraces = false) : mm_Snd l yX1_sidesOf (.code yX1_sidesOf cX1_sidesOf 5 (some .int)) 2 41 f_X1_sidesOf := mm_met hl (plainFor_of_name (by decide +kernel)) (ok_X1_sidesOf hl)
/-! Linkcourt.lowest(J)I -/
noncomputable def tb_X10_lowest : List (Nat × mm_I) := [(0, mm_ldJ 1 0), (1, mm_ldJ 2 0), (2, mm_l1 3 (fun a => -a)), (3, mm_l2 4 (fun a b => a &&& b)), (4, mm_k 5 (.long 1)), (5, mm_l2 6 (fun a b => a - b)), (6, mm_clS 9 1 f_J13_bitCount_95d88), (9, mm_rtI)]
noncomputable def f_X10_lowest : mm_F := mm_do (mm_pr tb_X10_lowest) 2
theorem mn_X10_lowest : mm_alln tb_X10_lowest := ⟨mm_n_ldJ _ _, mm_n_ldJ _ _, mm_n_l1 _ _, mm_n_l2 _ _, mm_n_k _ _, mm_n_l2 _ _, mm_n_clS _ _ (mo_J13_bitCount_95d88), mm_n_rtI, trivial⟩
theorem mo_X10_lowest : mm_Mo f_X10_lowest := mm_do_mo (mm_alln_mem mn_X10_lowest)
set_option maxRecDepth 10000 in
theorem ok_X10_lowest {l : Launch} (hl : l.stackTraces = false) : mm_Ok l yX10_lowest cX10_lowest 2 (some .int) 2 41 tb_X10_lowest := by
  refine ⟨mm_alln_mem mn_X10_lowest, fun p e cells slots s m args below meth c D tc A S ad Tg X hret hname htab hth => mm_allr_mem ?_⟩
  exact ⟨mm_r_lload_n X (show decode cX10_lowest 0 = .ok (.lload_n 0, 1) by decide +kernel) rfl,
    mm_r_lload_n X (show decode cX10_lowest 1 = .ok (.lload_n 0, 1) by decide +kernel) rfl,
    mm_r_lneg X (show decode cX10_lowest 2 = .ok (.lneg, 1) by decide +kernel),
    mm_r_land X (show decode cX10_lowest 3 = .ok (.land, 1) by decide +kernel),
    mm_r_lconst X (show decode cX10_lowest 4 = .ok (.lconst 1, 1) by decide +kernel) rfl,
    mm_r_lsub X (show decode cX10_lowest 5 = .ok (.lsub, 1) by decide +kernel),
    mm_r_clS X hth (na := 1) (sn_J13_bitCount_95d88 hl) (show decode cX10_lowest 6 = .ok (.invokestatic 160, 3) by decide +kernel) mw_229 mw_485 mw_228 mw_47 hd_J13_bitCount_95d88.2 ⟨(Nat.le_of_ble_eq_true rfl), (Nat.le_of_ble_eq_true rfl)⟩,
    mm_r_iret X hret (show decode cX10_lowest 9 = .ok (.ireturn, 1) by decide +kernel), trivial⟩
theorem sn_X10_lowest {l : Launch} (hl : l.stackTraces = false) : mm_Snd l yX10_lowest (.code yX10_lowest cX10_lowest 2 (some .int)) 2 41 f_X10_lowest := mm_met hl (plainFor_of_name (by decide +kernel)) (ok_X10_lowest hl)
/-! Linkcourt.cell(II)I -/
noncomputable def tb_X10_cell : List (Nat × mm_I) := [(0, mm_ldR 1 0), (1, mm_gfR 4 10 0), (4, mm_ldI 5 1), (5, mm_clV 8 1 1 f_X1_hasCell), (8, mm_ne1 21 11), (11, mm_thr 1), (21, mm_ldI 22 2), (22, mm_lt1 31 25), (25, mm_ldI 26 2), (26, mm_k 28 (.int 6)), (28, mm_le2 41 31), (31, mm_thr 2), (41, mm_ldI 42 2), (42, mm_k 43 (.int 4)), (43, mm_ne2 55 46), (46, mm_ldR 47 0), (47, mm_gfR 50 10 0), (50, mm_ldI 51 1), (51, mm_clV 54 1 1 f_X1_row), (54, mm_rtI), (55, mm_ldI 56 2), (56, mm_k 57 (.int 5)), (57, mm_ne2 69 60), (60, mm_ldR 61 0), (61, mm_gfR 64 10 0), (64, mm_ldI 65 1), (65, mm_clV 68 1 1 f_X1_column), (68, mm_rtI), (69, mm_ldR 70 0), (70, mm_gfR 73 10 1), (73, mm_ldI 74 1), (74, mm_clV 77 6 1 f_X6_owner), (77, mm_stI 78 3), (78, mm_ldI 79 3), (79, mm_k 80 (.int (-1))), (80, mm_eq2 87 83), (83, mm_ldI 84 2), (84, mm_ne1 89 87), (87, mm_ldI 88 3), (88, mm_rtI), (89, mm_ldI 90 2), (90, mm_k 92 (.int 6)), (92, mm_ne2 104 95), (95, mm_ldR 96 0), (96, mm_gfR 99 10 1), (99, mm_ldI 100 1), (100, mm_clV 103 6 1 f_X6_numberOf), (103, mm_rtI), (104, mm_ldR 105 0), (105, mm_gfR 108 10 0), (108, mm_k 109 (.long 1)), (109, mm_ldI 110 1), (110, mm_ls 111 (fun a b => a <<< (b.toInt64 &&& 63))), (111, mm_ldR 112 0), (112, mm_gfR 115 10 1), (115, mm_ldI 116 3), (116, mm_clV 119 6 1 f_X6_stones), (119, mm_clV 122 1 2 f_X1_reach), (122, mm_stJ 124 4), (124, mm_ldI 125 2), (125, mm_k 126 (.int 1)), (126, mm_ne2 137 129), (129, mm_ldJ 131 4), (131, mm_clS 134 1 f_J13_bitCount_95d88), (134, mm_go 159), (137, mm_ldI 138 2), (138, mm_k 139 (.int 2)), (139, mm_ne2 154 142), (142, mm_ldR 143 0), (143, mm_gfR 146 10 0), (146, mm_ldJ 148 4), (148, mm_clV 151 1 1 f_X1_sidesOf), (151, mm_go 159), (154, mm_ldJ 156 4), (156, mm_clS 159 1 f_X10_lowest), (159, mm_rtI)]
noncomputable def f_X10_cell : mm_F := mm_do (mm_pr tb_X10_cell) 6
theorem mn_X10_cell : mm_alln tb_X10_cell := ⟨mm_n_ldR _ _, mm_n_gfR _ _ _, mm_n_ldI _ _, mm_n_clV _ _ _ (mo_X1_hasCell), mm_n_ne1 _ _, mm_n_thr _, mm_n_ldI _ _, mm_n_lt1 _ _, mm_n_ldI _ _, mm_n_k _ _, mm_n_le2 _ _, mm_n_thr _, mm_n_ldI _ _, mm_n_k _ _, mm_n_ne2 _ _, mm_n_ldR _ _, mm_n_gfR _ _ _, mm_n_ldI _ _, mm_n_clV _ _ _ (mo_X1_row), mm_n_rtI, mm_n_ldI _ _, mm_n_k _ _, mm_n_ne2 _ _, mm_n_ldR _ _, mm_n_gfR _ _ _, mm_n_ldI _ _, mm_n_clV _ _ _ (mo_X1_column), mm_n_rtI, mm_n_ldR _ _, mm_n_gfR _ _ _, mm_n_ldI _ _, mm_n_clV _ _ _ (mo_X6_owner), mm_n_stI _ _, mm_n_ldI _ _, mm_n_k _ _, mm_n_eq2 _ _, mm_n_ldI _ _, mm_n_ne1 _ _, mm_n_ldI _ _, mm_n_rtI, mm_n_ldI _ _, mm_n_k _ _, mm_n_ne2 _ _, mm_n_ldR _ _, mm_n_gfR _ _ _, mm_n_ldI _ _, mm_n_clV _ _ _ (mo_X6_numberOf), mm_n_rtI, mm_n_ldR _ _, mm_n_gfR _ _ _, mm_n_k _ _, mm_n_ldI _ _, mm_n_ls _ _, mm_n_ldR _ _, mm_n_gfR _ _ _, mm_n_ldI _ _, mm_n_clV _ _ _ (mo_X6_stones), mm_n_clV _ _ _ (mo_X1_reach), mm_n_stJ _ _, mm_n_ldI _ _, mm_n_k _ _, mm_n_ne2 _ _, mm_n_ldJ _ _, mm_n_clS _ _ (mo_J13_bitCount_95d88), mm_n_go _, mm_n_ldI _ _, mm_n_k _ _, mm_n_ne2 _ _, mm_n_ldR _ _, mm_n_gfR _ _ _, mm_n_ldJ _ _, mm_n_clV _ _ _ (mo_X1_sidesOf), mm_n_go _, mm_n_ldJ _ _, mm_n_clS _ _ (mo_X10_lowest), mm_n_rtI, trivial⟩
theorem mo_X10_cell : mm_Mo f_X10_cell := mm_do_mo (mm_alln_mem mn_X10_cell)
set_option maxRecDepth 10000 in
theorem ok_X10_cell {l : Launch} (hl : l.stackTraces = false) : mm_Ok l yX10_cell cX10_cell 6 (some .int) 6 90 tb_X10_cell := by
  refine ⟨mm_alln_mem mn_X10_cell, fun p e cells slots s m args below meth c D tc A S ad Tg X hret hname htab hth => mm_allr_mem ?_⟩
  exact ⟨mm_r_aload_n X (show decode cX10_cell 0 = .ok (.aload_n 0, 1) by decide +kernel) rfl,
    mm_r_gfR X (ci := 10) (p := 0) (show mm_kd 10 0 = 2 by decide +kernel) rfl (Nat.le_of_ble_eq_true rfl) (show decode cX10_cell 1 = .ok (.getfield 24, 3) by decide +kernel) mw_428 rfl,
    mm_r_iload_n X (show decode cX10_cell 4 = .ok (.iload_n 1, 1) by decide +kernel) rfl,
    mm_r_clV X hth (ci := 1) (na := 1) (sn_X1_hasCell hl) rfl (show decode cX10_cell 5 = .ok (.invokevirtual 106, 3) by decide +kernel) mw_568 mw_565 mw_566 mw_567 mw_45 hd_X1_hasCell ⟨(Nat.le_of_ble_eq_true rfl), (Nat.le_of_ble_eq_true rfl)⟩,
    mm_r_ne1 X (show decode cX10_cell 8 = .ok (.ifCond .ne 13, 3) by decide +kernel) (by decide),
    mm_r_thr X htab (E := 1) (ik := 110) (is := 112) (ic := 114) (text := "there is no such cell") (by decide) rfl mm_aw1 mw_569 mw_60 (by decide +kernel) (show decode cX10_cell 11 = .ok (.new 110, 3) by decide +kernel) (show decode cX10_cell 14 = .ok (.dup, 1) by decide +kernel) (show decode cX10_cell 15 = .ok (.ldc 112, 2) by decide +kernel) (show decode cX10_cell 17 = .ok (.invokespecial 114, 3) by decide +kernel) (show decode cX10_cell 20 = .ok (.athrow, 1) by decide +kernel) (Nat.le_of_ble_eq_true rfl) (Nat.le_of_ble_eq_true rfl),
    mm_r_iload_n X (show decode cX10_cell 21 = .ok (.iload_n 2, 1) by decide +kernel) rfl,
    mm_r_lt1 X (show decode cX10_cell 22 = .ok (.ifCond .lt 9, 3) by decide +kernel) (by decide),
    mm_r_iload_n X (show decode cX10_cell 25 = .ok (.iload_n 2, 1) by decide +kernel) rfl,
    mm_r_bipush X (show decode cX10_cell 26 = .ok (.bipush 6, 2) by decide +kernel) rfl,
    mm_r_le2 X (show decode cX10_cell 28 = .ok (.if_icmp .le 13, 3) by decide +kernel) (by decide),
    mm_r_thr X htab (E := 2) (ik := 85) (is := 179) (ic := 89) (text := "what is out of range") (by decide) rfl mm_aw2 mw_494 mw_59 (by decide +kernel) (show decode cX10_cell 31 = .ok (.new 85, 3) by decide +kernel) (show decode cX10_cell 34 = .ok (.dup, 1) by decide +kernel) (show decode cX10_cell 35 = .ok (.ldc 179, 2) by decide +kernel) (show decode cX10_cell 37 = .ok (.invokespecial 89, 3) by decide +kernel) (show decode cX10_cell 40 = .ok (.athrow, 1) by decide +kernel) (Nat.le_of_ble_eq_true rfl) (Nat.le_of_ble_eq_true rfl),
    mm_r_iload_n X (show decode cX10_cell 41 = .ok (.iload_n 2, 1) by decide +kernel) rfl,
    mm_r_iconst X (show decode cX10_cell 42 = .ok (.iconst 4, 1) by decide +kernel) rfl,
    mm_r_ne2 X (show decode cX10_cell 43 = .ok (.if_icmp .ne 12, 3) by decide +kernel) (by decide),
    mm_r_aload_n X (show decode cX10_cell 46 = .ok (.aload_n 0, 1) by decide +kernel) rfl,
    mm_r_gfR X (ci := 10) (p := 0) (show mm_kd 10 0 = 2 by decide +kernel) rfl (Nat.le_of_ble_eq_true rfl) (show decode cX10_cell 47 = .ok (.getfield 24, 3) by decide +kernel) mw_428 rfl,
    mm_r_iload_n X (show decode cX10_cell 50 = .ok (.iload_n 1, 1) by decide +kernel) rfl,
    mm_r_clV X hth (ci := 1) (na := 1) (sn_X1_row hl) rfl (show decode cX10_cell 51 = .ok (.invokevirtual 181, 3) by decide +kernel) mw_157 mw_585 mw_155 mw_156 mw_45 hd_X1_row ⟨(Nat.le_of_ble_eq_true rfl), (Nat.le_of_ble_eq_true rfl)⟩,
    mm_r_iret X hret (show decode cX10_cell 54 = .ok (.ireturn, 1) by decide +kernel),
    mm_r_iload_n X (show decode cX10_cell 55 = .ok (.iload_n 2, 1) by decide +kernel) rfl,
    mm_r_iconst X (show decode cX10_cell 56 = .ok (.iconst 5, 1) by decide +kernel) rfl,
    mm_r_ne2 X (show decode cX10_cell 57 = .ok (.if_icmp .ne 12, 3) by decide +kernel) (by decide),
    mm_r_aload_n X (show decode cX10_cell 60 = .ok (.aload_n 0, 1) by decide +kernel) rfl,
    mm_r_gfR X (ci := 10) (p := 0) (show mm_kd 10 0 = 2 by decide +kernel) rfl (Nat.le_of_ble_eq_true rfl) (show decode cX10_cell 61 = .ok (.getfield 24, 3) by decide +kernel) mw_428 rfl,
    mm_r_iload_n X (show decode cX10_cell 64 = .ok (.iload_n 1, 1) by decide +kernel) rfl,
    mm_r_clV X hth (ci := 1) (na := 1) (sn_X1_column hl) rfl (show decode cX10_cell 65 = .ok (.invokevirtual 185, 3) by decide +kernel) mw_161 mw_586 mw_159 mw_160 mw_45 hd_X1_column ⟨(Nat.le_of_ble_eq_true rfl), (Nat.le_of_ble_eq_true rfl)⟩,
    mm_r_iret X hret (show decode cX10_cell 68 = .ok (.ireturn, 1) by decide +kernel),
    mm_r_aload_n X (show decode cX10_cell 69 = .ok (.aload_n 0, 1) by decide +kernel) rfl,
    mm_r_gfR X (ci := 10) (p := 1) (show mm_kd 10 1 = 2 by decide +kernel) rfl (Nat.le_of_ble_eq_true rfl) (show decode cX10_cell 70 = .ok (.getfield 28, 3) by decide +kernel) mw_429 rfl,
    mm_r_iload_n X (show decode cX10_cell 73 = .ok (.iload_n 1, 1) by decide +kernel) rfl,
    mm_r_clV X hth (ci := 6) (na := 1) (sn_X6_owner hl) rfl (show decode cX10_cell 74 = .ok (.invokevirtual 188, 3) by decide +kernel) mw_590 mw_587 mw_588 mw_589 mw_46 hd_X6_owner ⟨(Nat.le_of_ble_eq_true rfl), (Nat.le_of_ble_eq_true rfl)⟩,
    mm_r_istore_n X (show decode cX10_cell 77 = .ok (.istore_n 3, 1) by decide +kernel) rfl (Nat.le_of_ble_eq_true rfl),
    mm_r_iload_n X (show decode cX10_cell 78 = .ok (.iload_n 3, 1) by decide +kernel) rfl,
    mm_r_iconst X (show decode cX10_cell 79 = .ok (.iconst (-1), 1) by decide +kernel) rfl,
    mm_r_eq2 X (show decode cX10_cell 80 = .ok (.if_icmp .eq 7, 3) by decide +kernel) (by decide),
    mm_r_iload_n X (show decode cX10_cell 83 = .ok (.iload_n 2, 1) by decide +kernel) rfl,
    mm_r_ne1 X (show decode cX10_cell 84 = .ok (.ifCond .ne 5, 3) by decide +kernel) (by decide),
    mm_r_iload_n X (show decode cX10_cell 87 = .ok (.iload_n 3, 1) by decide +kernel) rfl,
    mm_r_iret X hret (show decode cX10_cell 88 = .ok (.ireturn, 1) by decide +kernel),
    mm_r_iload_n X (show decode cX10_cell 89 = .ok (.iload_n 2, 1) by decide +kernel) rfl,
    mm_r_bipush X (show decode cX10_cell 90 = .ok (.bipush 6, 2) by decide +kernel) rfl,
    mm_r_ne2 X (show decode cX10_cell 92 = .ok (.if_icmp .ne 12, 3) by decide +kernel) (by decide),
    mm_r_aload_n X (show decode cX10_cell 95 = .ok (.aload_n 0, 1) by decide +kernel) rfl,
    mm_r_gfR X (ci := 10) (p := 1) (show mm_kd 10 1 = 2 by decide +kernel) rfl (Nat.le_of_ble_eq_true rfl) (show decode cX10_cell 96 = .ok (.getfield 28, 3) by decide +kernel) mw_429 rfl,
    mm_r_iload_n X (show decode cX10_cell 99 = .ok (.iload_n 1, 1) by decide +kernel) rfl,
    mm_r_clV X hth (ci := 6) (na := 1) (sn_X6_numberOf hl) rfl (show decode cX10_cell 100 = .ok (.invokevirtual 191, 3) by decide +kernel) mw_597 mw_594 mw_595 mw_596 mw_46 hd_X6_numberOf ⟨(Nat.le_of_ble_eq_true rfl), (Nat.le_of_ble_eq_true rfl)⟩,
    mm_r_iret X hret (show decode cX10_cell 103 = .ok (.ireturn, 1) by decide +kernel),
    mm_r_aload_n X (show decode cX10_cell 104 = .ok (.aload_n 0, 1) by decide +kernel) rfl,
    mm_r_gfR X (ci := 10) (p := 0) (show mm_kd 10 0 = 2 by decide +kernel) rfl (Nat.le_of_ble_eq_true rfl) (show decode cX10_cell 105 = .ok (.getfield 24, 3) by decide +kernel) mw_428 rfl,
    mm_r_lconst X (show decode cX10_cell 108 = .ok (.lconst 1, 1) by decide +kernel) rfl,
    mm_r_iload_n X (show decode cX10_cell 109 = .ok (.iload_n 1, 1) by decide +kernel) rfl,
    mm_r_lshl X (show decode cX10_cell 110 = .ok (.lshl, 1) by decide +kernel),
    mm_r_aload_n X (show decode cX10_cell 111 = .ok (.aload_n 0, 1) by decide +kernel) rfl,
    mm_r_gfR X (ci := 10) (p := 1) (show mm_kd 10 1 = 2 by decide +kernel) rfl (Nat.le_of_ble_eq_true rfl) (show decode cX10_cell 112 = .ok (.getfield 28, 3) by decide +kernel) mw_429 rfl,
    mm_r_iload_n X (show decode cX10_cell 115 = .ok (.iload_n 3, 1) by decide +kernel) rfl,
    mm_r_clV X hth (ci := 6) (na := 1) (sn_X6_stones hl) rfl (show decode cX10_cell 116 = .ok (.invokevirtual 194, 3) by decide +kernel) mw_601 mw_598 mw_599 mw_600 mw_46 hd_X6_stones ⟨(Nat.le_of_ble_eq_true rfl), (Nat.le_of_ble_eq_true rfl)⟩,
    mm_r_clV X hth (ci := 1) (na := 2) (sn_X1_reach hl) rfl (show decode cX10_cell 119 = .ok (.invokevirtual 198, 3) by decide +kernel) mw_226 mw_602 mw_224 mw_225 mw_45 hd_X1_reach ⟨(Nat.le_of_ble_eq_true rfl), (Nat.le_of_ble_eq_true rfl)⟩,
    mm_r_lstore X (show decode cX10_cell 122 = .ok (.lstore 4, 2) by decide +kernel) (Nat.le_of_ble_eq_true rfl),
    mm_r_iload_n X (show decode cX10_cell 124 = .ok (.iload_n 2, 1) by decide +kernel) rfl,
    mm_r_iconst X (show decode cX10_cell 125 = .ok (.iconst 1, 1) by decide +kernel) rfl,
    mm_r_ne2 X (show decode cX10_cell 126 = .ok (.if_icmp .ne 11, 3) by decide +kernel) (by decide),
    mm_r_lload X (show decode cX10_cell 129 = .ok (.lload 4, 2) by decide +kernel),
    mm_r_clS X hth (na := 1) (sn_J13_bitCount_95d88 hl) (show decode cX10_cell 131 = .ok (.invokestatic 160, 3) by decide +kernel) mw_229 mw_485 mw_228 mw_47 hd_J13_bitCount_95d88.2 ⟨(Nat.le_of_ble_eq_true rfl), (Nat.le_of_ble_eq_true rfl)⟩,
    mm_r_goto X (show decode cX10_cell 134 = .ok (.goto 25, 3) by decide +kernel) (by decide),
    mm_r_iload_n X (show decode cX10_cell 137 = .ok (.iload_n 2, 1) by decide +kernel) rfl,
    mm_r_iconst X (show decode cX10_cell 138 = .ok (.iconst 2, 1) by decide +kernel) rfl,
    mm_r_ne2 X (show decode cX10_cell 139 = .ok (.if_icmp .ne 15, 3) by decide +kernel) (by decide),
    mm_r_aload_n X (show decode cX10_cell 142 = .ok (.aload_n 0, 1) by decide +kernel) rfl,
    mm_r_gfR X (ci := 10) (p := 0) (show mm_kd 10 0 = 2 by decide +kernel) rfl (Nat.le_of_ble_eq_true rfl) (show decode cX10_cell 143 = .ok (.getfield 24, 3) by decide +kernel) mw_428 rfl,
    mm_r_lload X (show decode cX10_cell 146 = .ok (.lload 4, 2) by decide +kernel),
    mm_r_clV X hth (ci := 1) (na := 1) (sn_X1_sidesOf hl) rfl (show decode cX10_cell 148 = .ok (.invokevirtual 202, 3) by decide +kernel) mw_606 mw_603 mw_604 mw_605 mw_45 hd_X1_sidesOf ⟨(Nat.le_of_ble_eq_true rfl), (Nat.le_of_ble_eq_true rfl)⟩,
    mm_r_goto X (show decode cX10_cell 151 = .ok (.goto 8, 3) by decide +kernel) (by decide),
    mm_r_lload X (show decode cX10_cell 154 = .ok (.lload 4, 2) by decide +kernel),
    mm_r_clS X hth (na := 1) (sn_X10_lowest hl) (show decode cX10_cell 156 = .ok (.invokestatic 205, 3) by decide +kernel) mw_609 mw_607 mw_608 mw_44 hd_X10_lowest.2 ⟨(Nat.le_of_ble_eq_true rfl), (Nat.le_of_ble_eq_true rfl)⟩,
    mm_r_iret X hret (show decode cX10_cell 159 = .ok (.ireturn, 1) by decide +kernel), trivial⟩
theorem sn_X10_cell {l : Launch} (hl : l.stackTraces = false) : mm_Snd l yX10_cell (.code yX10_cell cX10_cell 6 (some .int)) 6 90 f_X10_cell := mm_met hl (plainFor_of_name (by decide +kernel)) (ok_X10_cell hl)
/-! Linkcourt$Board.next(II)I -/
noncomputable def tb_X1_next : List (Nat × mm_I) := [(0, mm_ldR 1 0), (1, mm_ldI 2 1), (2, mm_clV 5 1 1 f_X1_hasCell), (5, mm_eq1 32 8), (8, mm_ldI 9 2), (9, mm_lt1 32 12), (12, mm_ldI 13 2), (13, mm_k 15 (.int 6)), (15, mm_ge2 32 18), (18, mm_ldR 19 0), (19, mm_gfR 22 1 2), (22, mm_ldI 23 1), (23, mm_k 25 (.int 6)), (25, mm_i2 26 (fun a b => a * b)), (26, mm_ldI 27 2), (27, mm_i2 28 (fun a b => a + b)), (28, mm_ald 29 0), (29, mm_go 33), (32, mm_k 33 (.int (-1))), (33, mm_rtI)]
noncomputable def f_X1_next : mm_F := mm_do (mm_pr tb_X1_next) 3
theorem mn_X1_next : mm_alln tb_X1_next := ⟨mm_n_ldR _ _, mm_n_ldI _ _, mm_n_clV _ _ _ (mo_X1_hasCell), mm_n_eq1 _ _, mm_n_ldI _ _, mm_n_lt1 _ _, mm_n_ldI _ _, mm_n_k _ _, mm_n_ge2 _ _, mm_n_ldR _ _, mm_n_gfR _ _ _, mm_n_ldI _ _, mm_n_k _ _, mm_n_i2 _ _, mm_n_ldI _ _, mm_n_i2 _ _, mm_n_ald _ _, mm_n_go _, mm_n_k _ _, mm_n_rtI, trivial⟩
theorem mo_X1_next : mm_Mo f_X1_next := mm_do_mo (mm_alln_mem mn_X1_next)
set_option maxRecDepth 10000 in
theorem ok_X1_next {l : Launch} (hl : l.stackTraces = false) : mm_Ok l yX1_next cX1_next 3 (some .int) 2 41 tb_X1_next := by
  refine ⟨mm_alln_mem mn_X1_next, fun p e cells slots s m args below meth c D tc A S ad Tg X hret hname htab hth => mm_allr_mem ?_⟩
  exact ⟨mm_r_aload_n X (show decode cX1_next 0 = .ok (.aload_n 0, 1) by decide +kernel) rfl,
    mm_r_iload_n X (show decode cX1_next 1 = .ok (.iload_n 1, 1) by decide +kernel) rfl,
    mm_r_clV X hth (ci := 1) (na := 1) (sn_X1_hasCell hl) rfl (show decode cX1_next 2 = .ok (.invokevirtual 81, 3) by decide +kernel) mw_568 mw_636 mw_566 mw_567 mw_45 hd_X1_hasCell ⟨(Nat.le_of_ble_eq_true rfl), (Nat.le_of_ble_eq_true rfl)⟩,
    mm_r_eq1 X (show decode cX1_next 5 = .ok (.ifCond .eq 27, 3) by decide +kernel) (by decide),
    mm_r_iload_n X (show decode cX1_next 8 = .ok (.iload_n 2, 1) by decide +kernel) rfl,
    mm_r_lt1 X (show decode cX1_next 9 = .ok (.ifCond .lt 23, 3) by decide +kernel) (by decide),
    mm_r_iload_n X (show decode cX1_next 12 = .ok (.iload_n 2, 1) by decide +kernel) rfl,
    mm_r_bipush X (show decode cX1_next 13 = .ok (.bipush 6, 2) by decide +kernel) rfl,
    mm_r_ge2 X (show decode cX1_next 15 = .ok (.if_icmp .ge 17, 3) by decide +kernel) (by decide),
    mm_r_aload_n X (show decode cX1_next 18 = .ok (.aload_n 0, 1) by decide +kernel) rfl,
    mm_r_gfR X (ci := 1) (p := 2) (show mm_kd 1 2 = 2 by decide +kernel) rfl (Nat.le_of_ble_eq_true rfl) (show decode cX1_next 19 = .ok (.getfield 18, 3) by decide +kernel) mw_81 rfl,
    mm_r_iload_n X (show decode cX1_next 22 = .ok (.iload_n 1, 1) by decide +kernel) rfl,
    mm_r_bipush X (show decode cX1_next 23 = .ok (.bipush 6, 2) by decide +kernel) rfl,
    mm_r_imul X (show decode cX1_next 25 = .ok (.imul, 1) by decide +kernel),
    mm_r_iload_n X (show decode cX1_next 26 = .ok (.iload_n 2, 1) by decide +kernel) rfl,
    mm_r_iadd X (show decode cX1_next 27 = .ok (.iadd, 1) by decide +kernel),
    mm_r_iald X (show decode cX1_next 28 = .ok (.iaload, 1) by decide +kernel),
    mm_r_goto X (show decode cX1_next 29 = .ok (.goto 4, 3) by decide +kernel) (by decide),
    mm_r_iconst X (show decode cX1_next 32 = .ok (.iconst (-1), 1) by decide +kernel) rfl,
    mm_r_iret X hret (show decode cX1_next 33 = .ok (.ireturn, 1) by decide +kernel), trivial⟩
theorem sn_X1_next {l : Launch} (hl : l.stackTraces = false) : mm_Snd l yX1_next (.code yX1_next cX1_next 3 (some .int)) 2 41 f_X1_next := mm_met hl (plainFor_of_name (by decide +kernel)) (ok_X1_next hl)
/-! Linkcourt.neighbour(II)I -/
noncomputable def tb_X10_neighbour : List (Nat × mm_I) := [(0, mm_ldR 1 0), (1, mm_gfR 4 10 0), (4, mm_ldI 5 1), (5, mm_clV 8 1 1 f_X1_hasCell), (8, mm_ne1 21 11), (11, mm_thr 1), (21, mm_ldI 22 2), (22, mm_lt1 31 25), (25, mm_ldI 26 2), (26, mm_k 28 (.int 6)), (28, mm_lt2 41 31), (31, mm_thr 2), (41, mm_ldR 42 0), (42, mm_gfR 45 10 0), (45, mm_ldI 46 1), (46, mm_ldI 47 2), (47, mm_clV 50 1 2 f_X1_next), (50, mm_rtI)]
noncomputable def f_X10_neighbour : mm_F := mm_do (mm_pr tb_X10_neighbour) 3
theorem mn_X10_neighbour : mm_alln tb_X10_neighbour := ⟨mm_n_ldR _ _, mm_n_gfR _ _ _, mm_n_ldI _ _, mm_n_clV _ _ _ (mo_X1_hasCell), mm_n_ne1 _ _, mm_n_thr _, mm_n_ldI _ _, mm_n_lt1 _ _, mm_n_ldI _ _, mm_n_k _ _, mm_n_lt2 _ _, mm_n_thr _, mm_n_ldR _ _, mm_n_gfR _ _ _, mm_n_ldI _ _, mm_n_ldI _ _, mm_n_clV _ _ _ (mo_X1_next), mm_n_rtI, trivial⟩
theorem mo_X10_neighbour : mm_Mo f_X10_neighbour := mm_do_mo (mm_alln_mem mn_X10_neighbour)
set_option maxRecDepth 10000 in
theorem ok_X10_neighbour {l : Launch} (hl : l.stackTraces = false) : mm_Ok l yX10_neighbour cX10_neighbour 3 (some .int) 6 90 tb_X10_neighbour := by
  refine ⟨mm_alln_mem mn_X10_neighbour, fun p e cells slots s m args below meth c D tc A S ad Tg X hret hname htab hth => mm_allr_mem ?_⟩
  exact ⟨mm_r_aload_n X (show decode cX10_neighbour 0 = .ok (.aload_n 0, 1) by decide +kernel) rfl,
    mm_r_gfR X (ci := 10) (p := 0) (show mm_kd 10 0 = 2 by decide +kernel) rfl (Nat.le_of_ble_eq_true rfl) (show decode cX10_neighbour 1 = .ok (.getfield 24, 3) by decide +kernel) mw_428 rfl,
    mm_r_iload_n X (show decode cX10_neighbour 4 = .ok (.iload_n 1, 1) by decide +kernel) rfl,
    mm_r_clV X hth (ci := 1) (na := 1) (sn_X1_hasCell hl) rfl (show decode cX10_neighbour 5 = .ok (.invokevirtual 106, 3) by decide +kernel) mw_568 mw_565 mw_566 mw_567 mw_45 hd_X1_hasCell ⟨(Nat.le_of_ble_eq_true rfl), (Nat.le_of_ble_eq_true rfl)⟩,
    mm_r_ne1 X (show decode cX10_neighbour 8 = .ok (.ifCond .ne 13, 3) by decide +kernel) (by decide),
    mm_r_thr X htab (E := 1) (ik := 110) (is := 112) (ic := 114) (text := "there is no such cell") (by decide) rfl mm_aw1 mw_569 mw_60 (by decide +kernel) (show decode cX10_neighbour 11 = .ok (.new 110, 3) by decide +kernel) (show decode cX10_neighbour 14 = .ok (.dup, 1) by decide +kernel) (show decode cX10_neighbour 15 = .ok (.ldc 112, 2) by decide +kernel) (show decode cX10_neighbour 17 = .ok (.invokespecial 114, 3) by decide +kernel) (show decode cX10_neighbour 20 = .ok (.athrow, 1) by decide +kernel) (Nat.le_of_ble_eq_true rfl) (Nat.le_of_ble_eq_true rfl),
    mm_r_iload_n X (show decode cX10_neighbour 21 = .ok (.iload_n 2, 1) by decide +kernel) rfl,
    mm_r_lt1 X (show decode cX10_neighbour 22 = .ok (.ifCond .lt 9, 3) by decide +kernel) (by decide),
    mm_r_iload_n X (show decode cX10_neighbour 25 = .ok (.iload_n 2, 1) by decide +kernel) rfl,
    mm_r_bipush X (show decode cX10_neighbour 26 = .ok (.bipush 6, 2) by decide +kernel) rfl,
    mm_r_lt2 X (show decode cX10_neighbour 28 = .ok (.if_icmp .lt 13, 3) by decide +kernel) (by decide),
    mm_r_thr X htab (E := 2) (ik := 85) (is := 208) (ic := 89) (text := "direction is out of range") (by decide) rfl mm_aw2 mw_494 mw_59 (by decide +kernel) (show decode cX10_neighbour 31 = .ok (.new 85, 3) by decide +kernel) (show decode cX10_neighbour 34 = .ok (.dup, 1) by decide +kernel) (show decode cX10_neighbour 35 = .ok (.ldc 208, 2) by decide +kernel) (show decode cX10_neighbour 37 = .ok (.invokespecial 89, 3) by decide +kernel) (show decode cX10_neighbour 40 = .ok (.athrow, 1) by decide +kernel) (Nat.le_of_ble_eq_true rfl) (Nat.le_of_ble_eq_true rfl),
    mm_r_aload_n X (show decode cX10_neighbour 41 = .ok (.aload_n 0, 1) by decide +kernel) rfl,
    mm_r_gfR X (ci := 10) (p := 0) (show mm_kd 10 0 = 2 by decide +kernel) rfl (Nat.le_of_ble_eq_true rfl) (show decode cX10_neighbour 42 = .ok (.getfield 24, 3) by decide +kernel) mw_428 rfl,
    mm_r_iload_n X (show decode cX10_neighbour 45 = .ok (.iload_n 1, 1) by decide +kernel) rfl,
    mm_r_iload_n X (show decode cX10_neighbour 46 = .ok (.iload_n 2, 1) by decide +kernel) rfl,
    mm_r_clV X hth (ci := 1) (na := 2) (sn_X1_next hl) rfl (show decode cX10_neighbour 47 = .ok (.invokevirtual 210, 3) by decide +kernel) mw_635 mw_781 mw_633 mw_634 mw_45 hd_X1_next ⟨(Nat.le_of_ble_eq_true rfl), (Nat.le_of_ble_eq_true rfl)⟩,
    mm_r_iret X hret (show decode cX10_neighbour 50 = .ok (.ireturn, 1) by decide +kernel), trivial⟩
theorem sn_X10_neighbour {l : Launch} (hl : l.stackTraces = false) : mm_Snd l yX10_neighbour (.code yX10_neighbour cX10_neighbour 3 (some .int)) 6 90 f_X10_neighbour := mm_met hl (plainFor_of_name (by decide +kernel)) (ok_X10_neighbour hl)
/-! Linkcourt.needFewGaps()V -/
noncomputable def tb_X10_needFewGaps : List (Nat × mm_I) := [(0, mm_ldR 1 0), (1, mm_gfR 4 10 1), (4, mm_clV 7 6 0 f_X6_empty), (7, mm_clS 10 1 f_J13_bitCount_95d88), (10, mm_k 12 (.int 9)), (12, mm_le2 26 15), (15, mm_thr 3), (26, mm_rtV)]
noncomputable def f_X10_needFewGaps : mm_F := mm_do (mm_pr tb_X10_needFewGaps) 1
theorem mn_X10_needFewGaps : mm_alln tb_X10_needFewGaps := ⟨mm_n_ldR _ _, mm_n_gfR _ _ _, mm_n_clV _ _ _ (mo_X6_empty), mm_n_clS _ _ (mo_J13_bitCount_95d88), mm_n_k _ _, mm_n_le2 _ _, mm_n_thr _, mm_n_rtV, trivial⟩
theorem mo_X10_needFewGaps : mm_Mo f_X10_needFewGaps := mm_do_mo (mm_alln_mem mn_X10_needFewGaps)
set_option maxRecDepth 10000 in
theorem ok_X10_needFewGaps {l : Launch} (hl : l.stackTraces = false) : mm_Ok l yX10_needFewGaps cX10_needFewGaps 1 none 6 90 tb_X10_needFewGaps := by
  refine ⟨mm_alln_mem mn_X10_needFewGaps, fun p e cells slots s m args below meth c D tc A S ad Tg X hret hname htab hth => mm_allr_mem ?_⟩
  exact ⟨mm_r_aload_n X (show decode cX10_needFewGaps 0 = .ok (.aload_n 0, 1) by decide +kernel) rfl,
    mm_r_gfR X (ci := 10) (p := 1) (show mm_kd 10 1 = 2 by decide +kernel) rfl (Nat.le_of_ble_eq_true rfl) (show decode cX10_needFewGaps 1 = .ok (.getfield 28, 3) by decide +kernel) mw_429 rfl,
    mm_r_clV X hth (ci := 6) (na := 0) (sn_X6_empty hl) rfl (show decode cX10_needFewGaps 4 = .ok (.invokevirtual 115, 3) by decide +kernel) mw_483 mw_480 mw_481 mw_482 mw_46 hd_X6_empty ⟨(Nat.le_of_ble_eq_true rfl), (Nat.le_of_ble_eq_true rfl)⟩,
    mm_r_clS X hth (na := 1) (sn_J13_bitCount_95d88 hl) (show decode cX10_needFewGaps 7 = .ok (.invokestatic 160, 3) by decide +kernel) mw_229 mw_485 mw_228 mw_47 hd_J13_bitCount_95d88.2 ⟨(Nat.le_of_ble_eq_true rfl), (Nat.le_of_ble_eq_true rfl)⟩,
    mm_r_bipush X (show decode cX10_needFewGaps 10 = .ok (.bipush 9, 2) by decide +kernel) rfl,
    mm_r_le2 X (show decode cX10_needFewGaps 12 = .ok (.if_icmp .le 14, 3) by decide +kernel) (by decide),
    mm_r_thrW X htab (E := 3) (ik := 129) (is := 364) (ic := 133) (text := "more than 9 cells are empty") (by decide) rfl mm_aw3 mw_729 mw_62 (by decide +kernel) (show decode cX10_needFewGaps 15 = .ok (.new 129, 3) by decide +kernel) (show decode cX10_needFewGaps 18 = .ok (.dup, 1) by decide +kernel) (show decode cX10_needFewGaps 19 = .ok (.ldc_w 364, 3) by decide +kernel) (show decode cX10_needFewGaps 22 = .ok (.invokespecial 133, 3) by decide +kernel) (show decode cX10_needFewGaps 25 = .ok (.athrow, 1) by decide +kernel) (Nat.le_of_ble_eq_true rfl) (Nat.le_of_ble_eq_true rfl),
    mm_r_vret X hret (show decode cX10_needFewGaps 26 = .ok (.return_, 1) by decide +kernel), trivial⟩
theorem sn_X10_needFewGaps {l : Launch} (hl : l.stackTraces = false) : mm_Snd l yX10_needFewGaps (.code yX10_needFewGaps cX10_needFewGaps 1 none) 6 90 f_X10_needFewGaps := mm_met hl (plainFor_of_name (by decide +kernel)) (ok_X10_needFewGaps hl)
/-! Linkcourt$Gaps.take(J)V -/
noncomputable def tb_X2_take : List (Nat × mm_I) := [(0, mm_ldR 1 0), (1, mm_k 2 (.int 0)), (2, mm_pfI 5 2 2), (5, mm_k 6 (.int 0)), (6, mm_stI 7 3), (7, mm_ldI 8 3), (8, mm_k 10 (.int 36)), (10, mm_ge2 56 13), (13, mm_ldR 14 0), (14, mm_gfI 17 2 2), (17, mm_k 19 (.int 9)), (19, mm_ge2 56 22), (22, mm_ldJ 23 1), (23, mm_ldI 24 3), (24, mm_clS 27 2 f_X10_has), (27, mm_eq1 50 30), (30, mm_ldR 31 0), (31, mm_gfR 34 2 0), (34, mm_ldR 35 0), (35, mm_gfI 38 2 2), (38, mm_ldI 39 3), (39, mm_ast 40 0 (fun v => v)), (40, mm_ldR 41 0), (41, mm_dup 42), (42, mm_gfI 45 2 2), (45, mm_k 46 (.int 1)), (46, mm_i2 47 (fun a b => a + b)), (47, mm_pfI 50 2 2), (50, mm_inc 53 3 1), (53, mm_go 7), (56, mm_rtV)]
noncomputable def f_X2_take : mm_F := mm_do (mm_pr tb_X2_take) 4
theorem mn_X2_take : mm_alln tb_X2_take := ⟨mm_n_ldR _ _, mm_n_k _ _, mm_n_pfI _ _ _, mm_n_k _ _, mm_n_stI _ _, mm_n_ldI _ _, mm_n_k _ _, mm_n_ge2 _ _, mm_n_ldR _ _, mm_n_gfI _ _ _, mm_n_k _ _, mm_n_ge2 _ _, mm_n_ldJ _ _, mm_n_ldI _ _, mm_n_clS _ _ (mo_X10_has), mm_n_eq1 _ _, mm_n_ldR _ _, mm_n_gfR _ _ _, mm_n_ldR _ _, mm_n_gfI _ _ _, mm_n_ldI _ _, mm_n_ast _ _ _, mm_n_ldR _ _, mm_n_dup _, mm_n_gfI _ _ _, mm_n_k _ _, mm_n_i2 _ _, mm_n_pfI _ _ _, mm_n_inc _ _ _, mm_n_go _, mm_n_rtV, trivial⟩
theorem mo_X2_take : mm_Mo f_X2_take := mm_do_mo (mm_alln_mem mn_X2_take)
set_option maxRecDepth 10000 in
theorem ok_X2_take {l : Launch} (hl : l.stackTraces = false) : mm_Ok l yX2_take cX2_take 4 none 2 42 tb_X2_take := by
  refine ⟨mm_alln_mem mn_X2_take, fun p e cells slots s m args below meth c D tc A S ad Tg X hret hname htab hth => mm_allr_mem ?_⟩
  exact ⟨mm_r_aload_n X (show decode cX2_take 0 = .ok (.aload_n 0, 1) by decide +kernel) rfl,
    mm_r_iconst X (show decode cX2_take 1 = .ok (.iconst 0, 1) by decide +kernel) rfl,
    mm_r_pfI X (ci := 2) (p := 2) (show mm_kd 2 2 = 0 by decide +kernel) rfl rfl (Nat.le_of_ble_eq_true rfl) (show decode cX2_take 2 = .ok (.putfield 18, 3) by decide +kernel) mw_252 rfl rfl,
    mm_r_iconst X (show decode cX2_take 5 = .ok (.iconst 0, 1) by decide +kernel) rfl,
    mm_r_istore_n X (show decode cX2_take 6 = .ok (.istore_n 3, 1) by decide +kernel) rfl (Nat.le_of_ble_eq_true rfl),
    mm_r_iload_n X (show decode cX2_take 7 = .ok (.iload_n 3, 1) by decide +kernel) rfl,
    mm_r_bipush X (show decode cX2_take 8 = .ok (.bipush 36, 2) by decide +kernel) rfl,
    mm_r_ge2 X (show decode cX2_take 10 = .ok (.if_icmp .ge 46, 3) by decide +kernel) (by decide),
    mm_r_aload_n X (show decode cX2_take 13 = .ok (.aload_n 0, 1) by decide +kernel) rfl,
    mm_r_gfI X (ci := 2) (p := 2) (show mm_kd 2 2 = 0 by decide +kernel) rfl (Nat.le_of_ble_eq_true rfl) (show decode cX2_take 14 = .ok (.getfield 18, 3) by decide +kernel) mw_252 rfl,
    mm_r_bipush X (show decode cX2_take 17 = .ok (.bipush 9, 2) by decide +kernel) rfl,
    mm_r_ge2 X (show decode cX2_take 19 = .ok (.if_icmp .ge 37, 3) by decide +kernel) (by decide),
    mm_r_lload_n X (show decode cX2_take 22 = .ok (.lload_n 1, 1) by decide +kernel) rfl,
    mm_r_iload_n X (show decode cX2_take 23 = .ok (.iload_n 3, 1) by decide +kernel) rfl,
    mm_r_clSN X hth (na := 2) (sn_X10_has hl) (show decode cX2_take 24 = .ok (.invokestatic 22, 3) by decide +kernel) mw_593 (show ("Linkcourt$Gaps", 22, yX10_has) ∈ mm_nest by decide +kernel) mw_592 mw_44 hd_X10_has.2 ⟨(Nat.le_of_ble_eq_true rfl), (Nat.le_of_ble_eq_true rfl)⟩,
    mm_r_eq1 X (show decode cX2_take 27 = .ok (.ifCond .eq 23, 3) by decide +kernel) (by decide),
    mm_r_aload_n X (show decode cX2_take 30 = .ok (.aload_n 0, 1) by decide +kernel) rfl,
    mm_r_gfR X (ci := 2) (p := 0) (show mm_kd 2 0 = 2 by decide +kernel) rfl (Nat.le_of_ble_eq_true rfl) (show decode cX2_take 31 = .ok (.getfield 9, 3) by decide +kernel) mw_250 rfl,
    mm_r_aload_n X (show decode cX2_take 34 = .ok (.aload_n 0, 1) by decide +kernel) rfl,
    mm_r_gfI X (ci := 2) (p := 2) (show mm_kd 2 2 = 0 by decide +kernel) rfl (Nat.le_of_ble_eq_true rfl) (show decode cX2_take 35 = .ok (.getfield 18, 3) by decide +kernel) mw_252 rfl,
    mm_r_iload_n X (show decode cX2_take 38 = .ok (.iload_n 3, 1) by decide +kernel) rfl,
    mm_r_iast X (show decode cX2_take 39 = .ok (.iastore, 1) by decide +kernel),
    mm_r_aload_n X (show decode cX2_take 40 = .ok (.aload_n 0, 1) by decide +kernel) rfl,
    mm_r_dup X (show decode cX2_take 41 = .ok (.dup, 1) by decide +kernel),
    mm_r_gfI X (ci := 2) (p := 2) (show mm_kd 2 2 = 0 by decide +kernel) rfl (Nat.le_of_ble_eq_true rfl) (show decode cX2_take 42 = .ok (.getfield 18, 3) by decide +kernel) mw_252 rfl,
    mm_r_iconst X (show decode cX2_take 45 = .ok (.iconst 1, 1) by decide +kernel) rfl,
    mm_r_iadd X (show decode cX2_take 46 = .ok (.iadd, 1) by decide +kernel),
    mm_r_pfI X (ci := 2) (p := 2) (show mm_kd 2 2 = 0 by decide +kernel) rfl rfl (Nat.le_of_ble_eq_true rfl) (show decode cX2_take 47 = .ok (.putfield 18, 3) by decide +kernel) mw_252 rfl rfl,
    mm_r_iinc X (show decode cX2_take 50 = .ok (.iinc 3 1, 3) by decide +kernel) rfl (Nat.le_of_ble_eq_true rfl),
    mm_r_goto X (show decode cX2_take 53 = .ok (.goto (-46), 3) by decide +kernel) (by decide),
    mm_r_vret X hret (show decode cX2_take 56 = .ok (.return_, 1) by decide +kernel), trivial⟩
theorem sn_X2_take {l : Launch} (hl : l.stackTraces = false) : mm_Snd l yX2_take (.code yX2_take cX2_take 4 none) 2 42 f_X2_take := mm_met hl (plainFor_of_name (by decide +kernel)) (ok_X2_take hl)
/-! Linkcourt$BestPlay.take(JJI)V -/
noncomputable def tb_X0_take : List (Nat × mm_I) := [(0, mm_ldR 1 0), (1, mm_gfI 4 0 4), (4, mm_eq1 35 7), (7, mm_ldR 8 0), (8, mm_gfJ 11 0 5), (11, mm_ldJ 12 1), (12, mm_cmp 13), (13, mm_ne1 35 16), (16, mm_ldR 17 0), (17, mm_gfJ 20 0 6), (20, mm_ldJ 21 3), (21, mm_cmp 22), (22, mm_ne1 35 25), (25, mm_ldR 26 0), (26, mm_gfI 29 0 7), (29, mm_ldI 31 5), (31, mm_ne2 35 34), (34, mm_rtV), (35, mm_ldR 36 0), (36, mm_k 37 (.int 1)), (37, mm_pfZ 40 0 4), (40, mm_ldR 41 0), (41, mm_ldJ 42 1), (42, mm_pfJ 45 0 5), (45, mm_ldR 46 0), (46, mm_ldJ 47 3), (47, mm_pfJ 50 0 6), (50, mm_ldR 51 0), (51, mm_ldI 53 5), (53, mm_pfI 56 0 7), (56, mm_ldR 57 0), (57, mm_gfR 60 0 1), (60, mm_ldR 61 0), (61, mm_gfR 64 0 0), (64, mm_gfJ 67 1 10), (67, mm_ldJ 68 1), (68, mm_ldJ 69 3), (69, mm_l2 70 (fun a b => a ||| b)), (70, mm_k 73 (.long (-1))), (73, mm_l2 74 (fun a b => a ^^^ b)), (74, mm_l2 75 (fun a b => a &&& b)), (75, mm_clV 78 2 1 f_X2_take), (78, mm_ldR 79 0), (79, mm_gfR 82 0 2), (82, mm_k 83 (.int 0)), (83, mm_clS 86 2 f_J7_fill_031fb), (86, mm_ldR 87 0), (87, mm_gfR 90 0 3), (90, mm_k 91 (.int 0)), (91, mm_clS 94 2 f_J7_fill_031fb), (94, mm_rtV)]
noncomputable def f_X0_take : mm_F := mm_do (mm_pr tb_X0_take) 6
theorem mn_X0_take : mm_alln tb_X0_take := ⟨mm_n_ldR _ _, mm_n_gfI _ _ _, mm_n_eq1 _ _, mm_n_ldR _ _, mm_n_gfJ _ _ _, mm_n_ldJ _ _, mm_n_cmp _, mm_n_ne1 _ _, mm_n_ldR _ _, mm_n_gfJ _ _ _, mm_n_ldJ _ _, mm_n_cmp _, mm_n_ne1 _ _, mm_n_ldR _ _, mm_n_gfI _ _ _, mm_n_ldI _ _, mm_n_ne2 _ _, mm_n_rtV, mm_n_ldR _ _, mm_n_k _ _, mm_n_pfZ _ _ _, mm_n_ldR _ _, mm_n_ldJ _ _, mm_n_pfJ _ _ _, mm_n_ldR _ _, mm_n_ldJ _ _, mm_n_pfJ _ _ _, mm_n_ldR _ _, mm_n_ldI _ _, mm_n_pfI _ _ _, mm_n_ldR _ _, mm_n_gfR _ _ _, mm_n_ldR _ _, mm_n_gfR _ _ _, mm_n_gfJ _ _ _, mm_n_ldJ _ _, mm_n_ldJ _ _, mm_n_l2 _ _, mm_n_k _ _, mm_n_l2 _ _, mm_n_l2 _ _, mm_n_clV _ _ _ (mo_X2_take), mm_n_ldR _ _, mm_n_gfR _ _ _, mm_n_k _ _, mm_n_clS _ _ (mo_J7_fill_031fb), mm_n_ldR _ _, mm_n_gfR _ _ _, mm_n_k _ _, mm_n_clS _ _ (mo_J7_fill_031fb), mm_n_rtV, trivial⟩
theorem mo_X0_take : mm_Mo f_X0_take := mm_do_mo (mm_alln_mem mn_X0_take)
set_option maxRecDepth 10000 in
theorem ok_X0_take {l : Launch} (hl : l.stackTraces = false) : mm_Ok l yX0_take cX0_take 6 none 3 65 tb_X0_take := by
  refine ⟨mm_alln_mem mn_X0_take, fun p e cells slots s m args below meth c D tc A S ad Tg X hret hname htab hth => mm_allr_mem ?_⟩
  exact ⟨mm_r_aload_n X (show decode cX0_take 0 = .ok (.aload_n 0, 1) by decide +kernel) rfl,
    mm_r_gfI X (ci := 0) (p := 4) (show mm_kd 0 4 = 0 by decide +kernel) rfl (Nat.le_of_ble_eq_true rfl) (show decode cX0_take 1 = .ok (.getfield 29, 3) by decide +kernel) mw_266 rfl,
    mm_r_eq1 X (show decode cX0_take 4 = .ok (.ifCond .eq 31, 3) by decide +kernel) (by decide),
    mm_r_aload_n X (show decode cX0_take 7 = .ok (.aload_n 0, 1) by decide +kernel) rfl,
    mm_r_gfJ X (ci := 0) (p := 5) (show mm_kd 0 5 = 1 by decide +kernel) rfl (Nat.le_of_ble_eq_true rfl) (show decode cX0_take 8 = .ok (.getfield 76, 3) by decide +kernel) mw_267 rfl,
    mm_r_lload_n X (show decode cX0_take 11 = .ok (.lload_n 1, 1) by decide +kernel) rfl,
    mm_r_lcmp X (show decode cX0_take 12 = .ok (.lcmp, 1) by decide +kernel),
    mm_r_ne1 X (show decode cX0_take 13 = .ok (.ifCond .ne 22, 3) by decide +kernel) (by decide),
    mm_r_aload_n X (show decode cX0_take 16 = .ok (.aload_n 0, 1) by decide +kernel) rfl,
    mm_r_gfJ X (ci := 0) (p := 6) (show mm_kd 0 6 = 1 by decide +kernel) rfl (Nat.le_of_ble_eq_true rfl) (show decode cX0_take 17 = .ok (.getfield 80, 3) by decide +kernel) mw_268 rfl,
    mm_r_lload_n X (show decode cX0_take 20 = .ok (.lload_n 3, 1) by decide +kernel) rfl,
    mm_r_lcmp X (show decode cX0_take 21 = .ok (.lcmp, 1) by decide +kernel),
    mm_r_ne1 X (show decode cX0_take 22 = .ok (.ifCond .ne 13, 3) by decide +kernel) (by decide),
    mm_r_aload_n X (show decode cX0_take 25 = .ok (.aload_n 0, 1) by decide +kernel) rfl,
    mm_r_gfI X (ci := 0) (p := 7) (show mm_kd 0 7 = 0 by decide +kernel) rfl (Nat.le_of_ble_eq_true rfl) (show decode cX0_take 26 = .ok (.getfield 41, 3) by decide +kernel) mw_269 rfl,
    mm_r_iload X (show decode cX0_take 29 = .ok (.iload 5, 2) by decide +kernel),
    mm_r_ne2 X (show decode cX0_take 31 = .ok (.if_icmp .ne 4, 3) by decide +kernel) (by decide),
    mm_r_vret X hret (show decode cX0_take 34 = .ok (.return_, 1) by decide +kernel),
    mm_r_aload_n X (show decode cX0_take 35 = .ok (.aload_n 0, 1) by decide +kernel) rfl,
    mm_r_iconst X (show decode cX0_take 36 = .ok (.iconst 1, 1) by decide +kernel) rfl,
    mm_r_pfZ X (ci := 0) (p := 4) (show mm_kd 0 4 = 0 by decide +kernel) rfl rfl (Nat.le_of_ble_eq_true rfl) (show decode cX0_take 37 = .ok (.putfield 29, 3) by decide +kernel) mw_266 rfl rfl,
    mm_r_aload_n X (show decode cX0_take 40 = .ok (.aload_n 0, 1) by decide +kernel) rfl,
    mm_r_lload_n X (show decode cX0_take 41 = .ok (.lload_n 1, 1) by decide +kernel) rfl,
    mm_r_pfJ X (ci := 0) (p := 5) (show mm_kd 0 5 = 1 by decide +kernel) rfl rfl (Nat.le_of_ble_eq_true rfl) (show decode cX0_take 42 = .ok (.putfield 76, 3) by decide +kernel) mw_267 rfl rfl,
    mm_r_aload_n X (show decode cX0_take 45 = .ok (.aload_n 0, 1) by decide +kernel) rfl,
    mm_r_lload_n X (show decode cX0_take 46 = .ok (.lload_n 3, 1) by decide +kernel) rfl,
    mm_r_pfJ X (ci := 0) (p := 6) (show mm_kd 0 6 = 1 by decide +kernel) rfl rfl (Nat.le_of_ble_eq_true rfl) (show decode cX0_take 47 = .ok (.putfield 80, 3) by decide +kernel) mw_268 rfl rfl,
    mm_r_aload_n X (show decode cX0_take 50 = .ok (.aload_n 0, 1) by decide +kernel) rfl,
    mm_r_iload X (show decode cX0_take 51 = .ok (.iload 5, 2) by decide +kernel),
    mm_r_pfI X (ci := 0) (p := 7) (show mm_kd 0 7 = 0 by decide +kernel) rfl rfl (Nat.le_of_ble_eq_true rfl) (show decode cX0_take 53 = .ok (.putfield 41, 3) by decide +kernel) mw_269 rfl rfl,
    mm_r_aload_n X (show decode cX0_take 56 = .ok (.aload_n 0, 1) by decide +kernel) rfl,
    mm_r_gfR X (ci := 0) (p := 1) (show mm_kd 0 1 = 2 by decide +kernel) rfl (Nat.le_of_ble_eq_true rfl) (show decode cX0_take 57 = .ok (.getfield 12, 3) by decide +kernel) mw_263 rfl,
    mm_r_aload_n X (show decode cX0_take 60 = .ok (.aload_n 0, 1) by decide +kernel) rfl,
    mm_r_gfR X (ci := 0) (p := 0) (show mm_kd 0 0 = 2 by decide +kernel) rfl (Nat.le_of_ble_eq_true rfl) (show decode cX0_take 61 = .ok (.getfield 25, 3) by decide +kernel) mw_262 rfl,
    mm_r_gfJ X (ci := 1) (p := 10) (show mm_kd 1 10 = 1 by decide +kernel) rfl (Nat.le_of_ble_eq_true rfl) (show decode cX0_take 64 = .ok (.getfield 83, 3) by decide +kernel) mw_97 rfl,
    mm_r_lload_n X (show decode cX0_take 67 = .ok (.lload_n 1, 1) by decide +kernel) rfl,
    mm_r_lload_n X (show decode cX0_take 68 = .ok (.lload_n 3, 1) by decide +kernel) rfl,
    mm_r_lor X (show decode cX0_take 69 = .ok (.lor, 1) by decide +kernel),
    mm_r_ldc2 X (show decode cX0_take 70 = .ok (.ldc2_w 88, 3) by decide +kernel) mw_799,
    mm_r_lxor X (show decode cX0_take 73 = .ok (.lxor, 1) by decide +kernel),
    mm_r_land X (show decode cX0_take 74 = .ok (.land, 1) by decide +kernel),
    mm_r_clV X hth (ci := 2) (na := 1) (sn_X2_take hl) rfl (show decode cX0_take 75 = .ok (.invokevirtual 90, 3) by decide +kernel) mw_803 mw_800 mw_801 mw_802 mw_49 hd_X2_take ⟨(Nat.le_of_ble_eq_true rfl), (Nat.le_of_ble_eq_true rfl)⟩,
    mm_r_aload_n X (show decode cX0_take 78 = .ok (.aload_n 0, 1) by decide +kernel) rfl,
    mm_r_gfR X (ci := 0) (p := 2) (show mm_kd 0 2 = 2 by decide +kernel) rfl (Nat.le_of_ble_eq_true rfl) (show decode cX0_take 79 = .ok (.getfield 18, 3) by decide +kernel) mw_264 rfl,
    mm_r_iconst X (show decode cX0_take 82 = .ok (.iconst 0, 1) by decide +kernel) rfl,
    mm_r_clS X hth (na := 2) (sn_J7_fill_031fb hl) (show decode cX0_take 83 = .ok (.invokestatic 93, 3) by decide +kernel) mw_807 mw_805 mw_806 mw_61 hd_J7_fill_031fb.2 ⟨(Nat.le_of_ble_eq_true rfl), (Nat.le_of_ble_eq_true rfl)⟩,
    mm_r_aload_n X (show decode cX0_take 86 = .ok (.aload_n 0, 1) by decide +kernel) rfl,
    mm_r_gfR X (ci := 0) (p := 3) (show mm_kd 0 3 = 2 by decide +kernel) rfl (Nat.le_of_ble_eq_true rfl) (show decode cX0_take 87 = .ok (.getfield 22, 3) by decide +kernel) mw_265 rfl,
    mm_r_iconst X (show decode cX0_take 90 = .ok (.iconst 0, 1) by decide +kernel) rfl,
    mm_r_clS X hth (na := 2) (sn_J7_fill_031fb hl) (show decode cX0_take 91 = .ok (.invokestatic 93, 3) by decide +kernel) mw_807 mw_805 mw_806 mw_61 hd_J7_fill_031fb.2 ⟨(Nat.le_of_ble_eq_true rfl), (Nat.le_of_ble_eq_true rfl)⟩,
    mm_r_vret X hret (show decode cX0_take 94 = .ok (.return_, 1) by decide +kernel), trivial⟩
theorem sn_X0_take {l : Launch} (hl : l.stackTraces = false) : mm_Snd l yX0_take (.code yX0_take cX0_take 6 none) 3 65 f_X0_take := mm_met hl (plainFor_of_name (by decide +kernel)) (ok_X0_take hl)
/-! Linkcourt$Gaps.spread(I)J -/
noncomputable def tb_X2_spread : List (Nat × mm_I) := [(0, mm_k 1 (.long 0)), (1, mm_stJ 2 2), (2, mm_k 3 (.int 0)), (3, mm_stI 5 4), (5, mm_ldI 7 4), (7, mm_ldR 8 0), (8, mm_gfI 11 2 2), (11, mm_ge2 53 14), (14, mm_ldI 16 4), (16, mm_k 18 (.int 9)), (18, mm_ge2 53 21), (21, mm_ldJ 22 2), (22, mm_ldI 23 1), (23, mm_il 24 (fun a => a.toInt64)), (24, mm_ldI 26 4), (26, mm_clS 29 2 f_X10_has), (29, mm_eq1 44 32), (32, mm_k 33 (.long 1)), (33, mm_ldR 34 0), (34, mm_gfR 37 2 0), (37, mm_ldI 39 4), (39, mm_ald 40 0), (40, mm_ls 41 (fun a b => a <<< (b.toInt64 &&& 63))), (41, mm_go 45), (44, mm_k 45 (.long 0)), (45, mm_l2 46 (fun a b => a ||| b)), (46, mm_stJ 47 2), (47, mm_inc 50 4 1), (50, mm_go 5), (53, mm_ldJ 54 2), (54, mm_rtJ)]
noncomputable def f_X2_spread : mm_F := mm_do (mm_pr tb_X2_spread) 5
theorem mn_X2_spread : mm_alln tb_X2_spread := ⟨mm_n_k _ _, mm_n_stJ _ _, mm_n_k _ _, mm_n_stI _ _, mm_n_ldI _ _, mm_n_ldR _ _, mm_n_gfI _ _ _, mm_n_ge2 _ _, mm_n_ldI _ _, mm_n_k _ _, mm_n_ge2 _ _, mm_n_ldJ _ _, mm_n_ldI _ _, mm_n_il _ _, mm_n_ldI _ _, mm_n_clS _ _ (mo_X10_has), mm_n_eq1 _ _, mm_n_k _ _, mm_n_ldR _ _, mm_n_gfR _ _ _, mm_n_ldI _ _, mm_n_ald _ _, mm_n_ls _ _, mm_n_go _, mm_n_k _ _, mm_n_l2 _ _, mm_n_stJ _ _, mm_n_inc _ _ _, mm_n_go _, mm_n_ldJ _ _, mm_n_rtJ, trivial⟩
theorem mo_X2_spread : mm_Mo f_X2_spread := mm_do_mo (mm_alln_mem mn_X2_spread)
set_option maxRecDepth 10000 in
theorem ok_X2_spread {l : Launch} (hl : l.stackTraces = false) : mm_Ok l yX2_spread cX2_spread 5 (some .long) 2 42 tb_X2_spread := by
  refine ⟨mm_alln_mem mn_X2_spread, fun p e cells slots s m args below meth c D tc A S ad Tg X hret hname htab hth => mm_allr_mem ?_⟩
  exact ⟨mm_r_lconst X (show decode cX2_spread 0 = .ok (.lconst 0, 1) by decide +kernel) rfl,
    mm_r_lstore_n X (show decode cX2_spread 1 = .ok (.lstore_n 2, 1) by decide +kernel) rfl (Nat.le_of_ble_eq_true rfl),
    mm_r_iconst X (show decode cX2_spread 2 = .ok (.iconst 0, 1) by decide +kernel) rfl,
    mm_r_istore X (show decode cX2_spread 3 = .ok (.istore 4, 2) by decide +kernel) (Nat.le_of_ble_eq_true rfl),
    mm_r_iload X (show decode cX2_spread 5 = .ok (.iload 4, 2) by decide +kernel),
    mm_r_aload_n X (show decode cX2_spread 7 = .ok (.aload_n 0, 1) by decide +kernel) rfl,
    mm_r_gfI X (ci := 2) (p := 2) (show mm_kd 2 2 = 0 by decide +kernel) rfl (Nat.le_of_ble_eq_true rfl) (show decode cX2_spread 8 = .ok (.getfield 18, 3) by decide +kernel) mw_252 rfl,
    mm_r_ge2 X (show decode cX2_spread 11 = .ok (.if_icmp .ge 42, 3) by decide +kernel) (by decide),
    mm_r_iload X (show decode cX2_spread 14 = .ok (.iload 4, 2) by decide +kernel),
    mm_r_bipush X (show decode cX2_spread 16 = .ok (.bipush 9, 2) by decide +kernel) rfl,
    mm_r_ge2 X (show decode cX2_spread 18 = .ok (.if_icmp .ge 35, 3) by decide +kernel) (by decide),
    mm_r_lload_n X (show decode cX2_spread 21 = .ok (.lload_n 2, 1) by decide +kernel) rfl,
    mm_r_iload_n X (show decode cX2_spread 22 = .ok (.iload_n 1, 1) by decide +kernel) rfl,
    mm_r_i2l X (show decode cX2_spread 23 = .ok (.i2l, 1) by decide +kernel),
    mm_r_iload X (show decode cX2_spread 24 = .ok (.iload 4, 2) by decide +kernel),
    mm_r_clSN X hth (na := 2) (sn_X10_has hl) (show decode cX2_spread 26 = .ok (.invokestatic 22, 3) by decide +kernel) mw_593 (show ("Linkcourt$Gaps", 22, yX10_has) ∈ mm_nest by decide +kernel) mw_592 mw_44 hd_X10_has.2 ⟨(Nat.le_of_ble_eq_true rfl), (Nat.le_of_ble_eq_true rfl)⟩,
    mm_r_eq1 X (show decode cX2_spread 29 = .ok (.ifCond .eq 15, 3) by decide +kernel) (by decide),
    mm_r_lconst X (show decode cX2_spread 32 = .ok (.lconst 1, 1) by decide +kernel) rfl,
    mm_r_aload_n X (show decode cX2_spread 33 = .ok (.aload_n 0, 1) by decide +kernel) rfl,
    mm_r_gfR X (ci := 2) (p := 0) (show mm_kd 2 0 = 2 by decide +kernel) rfl (Nat.le_of_ble_eq_true rfl) (show decode cX2_spread 34 = .ok (.getfield 9, 3) by decide +kernel) mw_250 rfl,
    mm_r_iload X (show decode cX2_spread 37 = .ok (.iload 4, 2) by decide +kernel),
    mm_r_iald X (show decode cX2_spread 39 = .ok (.iaload, 1) by decide +kernel),
    mm_r_lshl X (show decode cX2_spread 40 = .ok (.lshl, 1) by decide +kernel),
    mm_r_goto X (show decode cX2_spread 41 = .ok (.goto 4, 3) by decide +kernel) (by decide),
    mm_r_lconst X (show decode cX2_spread 44 = .ok (.lconst 0, 1) by decide +kernel) rfl,
    mm_r_lor X (show decode cX2_spread 45 = .ok (.lor, 1) by decide +kernel),
    mm_r_lstore_n X (show decode cX2_spread 46 = .ok (.lstore_n 2, 1) by decide +kernel) rfl (Nat.le_of_ble_eq_true rfl),
    mm_r_iinc X (show decode cX2_spread 47 = .ok (.iinc 4 1, 3) by decide +kernel) rfl (Nat.le_of_ble_eq_true rfl),
    mm_r_goto X (show decode cX2_spread 50 = .ok (.goto (-45), 3) by decide +kernel) (by decide),
    mm_r_lload_n X (show decode cX2_spread 53 = .ok (.lload_n 2, 1) by decide +kernel) rfl,
    mm_r_lret X hret (show decode cX2_spread 54 = .ok (.lreturn, 1) by decide +kernel), trivial⟩
theorem sn_X2_spread {l : Launch} (hl : l.stackTraces = false) : mm_Snd l yX2_spread (.code yX2_spread cX2_spread 5 (some .long)) 2 42 f_X2_spread := mm_met hl (plainFor_of_name (by decide +kernel)) (ok_X2_spread hl)
/-! Linkcourt$BestPlay.joins(II)Z -/
noncomputable def tb_X0_joins : List (Nat × mm_I) := [(0, mm_ldI 1 1), (1, mm_k 4 (.int 512)), (4, mm_i2 5 (fun a b => a * b)), (5, mm_ldI 6 2), (6, mm_i2 7 (fun a b => a + b)), (7, mm_stI 8 3), (8, mm_ldI 9 3), (9, mm_lt1 21 12), (12, mm_ldI 13 3), (13, mm_ldR 14 0), (14, mm_gfR 17 0 2), (17, mm_aln 18 2), (18, mm_lt2 23 21), (21, mm_k 22 (.int 0)), (22, mm_rtZ), (23, mm_ldR 24 0), (24, mm_gfR 27 0 2), (27, mm_ldI 28 3), (28, mm_ald 29 2), (29, mm_ne1 83 32), (32, mm_ldI 33 1), (33, mm_ne1 43 36), (36, mm_ldR 37 0), (37, mm_gfJ 40 0 5), (40, mm_go 47), (43, mm_ldR 44 0), (44, mm_gfJ 47 0 6), (47, mm_ldR 48 0), (48, mm_gfR 51 0 1), (51, mm_ldI 52 2), (52, mm_clV 55 2 1 f_X2_spread), (55, mm_l2 56 (fun a b => a ||| b)), (56, mm_stJ 58 4), (58, mm_ldR 59 0), (59, mm_gfR 62 0 2), (62, mm_ldI 63 3), (63, mm_ldR 64 0), (64, mm_gfR 67 0 0), (67, mm_ldI 68 1), (68, mm_ldJ 70 4), (70, mm_clV 73 1 2 f_X1_hasJoined), (73, mm_eq1 80 76), (76, mm_k 77 (.int 2)), (77, mm_go 81), (80, mm_k 81 (.int 1)), (81, mm_i1 82 (fun a => a.toInt8.toInt32)), (82, mm_ast 83 2 (fun v => v.toInt8.toInt32)), (83, mm_ldR 84 0), (84, mm_gfR 87 0 2), (87, mm_ldI 88 3), (88, mm_ald 89 2), (89, mm_k 90 (.int 2)), (90, mm_ne2 97 93), (93, mm_k 94 (.int 1)), (94, mm_go 98), (97, mm_k 98 (.int 0)), (98, mm_rtZ)]
noncomputable def f_X0_joins : mm_F := mm_do (mm_pr tb_X0_joins) 6
theorem mn_X0_joins : mm_alln tb_X0_joins := ⟨mm_n_ldI _ _, mm_n_k _ _, mm_n_i2 _ _, mm_n_ldI _ _, mm_n_i2 _ _, mm_n_stI _ _, mm_n_ldI _ _, mm_n_lt1 _ _, mm_n_ldI _ _, mm_n_ldR _ _, mm_n_gfR _ _ _, mm_n_aln _ _, mm_n_lt2 _ _, mm_n_k _ _, mm_n_rtZ, mm_n_ldR _ _, mm_n_gfR _ _ _, mm_n_ldI _ _, mm_n_ald _ _, mm_n_ne1 _ _, mm_n_ldI _ _, mm_n_ne1 _ _, mm_n_ldR _ _, mm_n_gfJ _ _ _, mm_n_go _, mm_n_ldR _ _, mm_n_gfJ _ _ _, mm_n_ldR _ _, mm_n_gfR _ _ _, mm_n_ldI _ _, mm_n_clV _ _ _ (mo_X2_spread), mm_n_l2 _ _, mm_n_stJ _ _, mm_n_ldR _ _, mm_n_gfR _ _ _, mm_n_ldI _ _, mm_n_ldR _ _, mm_n_gfR _ _ _, mm_n_ldI _ _, mm_n_ldJ _ _, mm_n_clV _ _ _ (mo_X1_hasJoined), mm_n_eq1 _ _, mm_n_k _ _, mm_n_go _, mm_n_k _ _, mm_n_i1 _ _, mm_n_ast _ _ _, mm_n_ldR _ _, mm_n_gfR _ _ _, mm_n_ldI _ _, mm_n_ald _ _, mm_n_k _ _, mm_n_ne2 _ _, mm_n_k _ _, mm_n_go _, mm_n_k _ _, mm_n_rtZ, trivial⟩
theorem mo_X0_joins : mm_Mo f_X0_joins := mm_do_mo (mm_alln_mem mn_X0_joins)
set_option maxRecDepth 10000 in
theorem ok_X0_joins {l : Launch} (hl : l.stackTraces = false) : mm_Ok l yX0_joins cX0_joins 6 (some .boolean) 5 123 tb_X0_joins := by
  refine ⟨mm_alln_mem mn_X0_joins, fun p e cells slots s m args below meth c D tc A S ad Tg X hret hname htab hth => mm_allr_mem ?_⟩
  exact ⟨mm_r_iload_n X (show decode cX0_joins 0 = .ok (.iload_n 1, 1) by decide +kernel) rfl,
    mm_r_sipush X (show decode cX0_joins 1 = .ok (.sipush 512, 3) by decide +kernel) rfl,
    mm_r_imul X (show decode cX0_joins 4 = .ok (.imul, 1) by decide +kernel),
    mm_r_iload_n X (show decode cX0_joins 5 = .ok (.iload_n 2, 1) by decide +kernel) rfl,
    mm_r_iadd X (show decode cX0_joins 6 = .ok (.iadd, 1) by decide +kernel),
    mm_r_istore_n X (show decode cX0_joins 7 = .ok (.istore_n 3, 1) by decide +kernel) rfl (Nat.le_of_ble_eq_true rfl),
    mm_r_iload_n X (show decode cX0_joins 8 = .ok (.iload_n 3, 1) by decide +kernel) rfl,
    mm_r_lt1 X (show decode cX0_joins 9 = .ok (.ifCond .lt 12, 3) by decide +kernel) (by decide),
    mm_r_iload_n X (show decode cX0_joins 12 = .ok (.iload_n 3, 1) by decide +kernel) rfl,
    mm_r_aload_n X (show decode cX0_joins 13 = .ok (.aload_n 0, 1) by decide +kernel) rfl,
    mm_r_gfR X (ci := 0) (p := 2) (show mm_kd 0 2 = 2 by decide +kernel) rfl (Nat.le_of_ble_eq_true rfl) (show decode cX0_joins 14 = .ok (.getfield 18, 3) by decide +kernel) mw_264 rfl,
    mm_r_aln X (t := 2) (Nat.le_of_ble_eq_true rfl) (show decode cX0_joins 17 = .ok (.arraylength, 1) by decide +kernel),
    mm_r_lt2 X (show decode cX0_joins 18 = .ok (.if_icmp .lt 5, 3) by decide +kernel) (by decide),
    mm_r_iconst X (show decode cX0_joins 21 = .ok (.iconst 0, 1) by decide +kernel) rfl,
    mm_r_zret X hret (show decode cX0_joins 22 = .ok (.ireturn, 1) by decide +kernel),
    mm_r_aload_n X (show decode cX0_joins 23 = .ok (.aload_n 0, 1) by decide +kernel) rfl,
    mm_r_gfR X (ci := 0) (p := 2) (show mm_kd 0 2 = 2 by decide +kernel) rfl (Nat.le_of_ble_eq_true rfl) (show decode cX0_joins 24 = .ok (.getfield 18, 3) by decide +kernel) mw_264 rfl,
    mm_r_iload_n X (show decode cX0_joins 27 = .ok (.iload_n 3, 1) by decide +kernel) rfl,
    mm_r_bald X (show decode cX0_joins 28 = .ok (.baload, 1) by decide +kernel),
    mm_r_ne1 X (show decode cX0_joins 29 = .ok (.ifCond .ne 54, 3) by decide +kernel) (by decide),
    mm_r_iload_n X (show decode cX0_joins 32 = .ok (.iload_n 1, 1) by decide +kernel) rfl,
    mm_r_ne1 X (show decode cX0_joins 33 = .ok (.ifCond .ne 10, 3) by decide +kernel) (by decide),
    mm_r_aload_n X (show decode cX0_joins 36 = .ok (.aload_n 0, 1) by decide +kernel) rfl,
    mm_r_gfJ X (ci := 0) (p := 5) (show mm_kd 0 5 = 1 by decide +kernel) rfl (Nat.le_of_ble_eq_true rfl) (show decode cX0_joins 37 = .ok (.getfield 76, 3) by decide +kernel) mw_267 rfl,
    mm_r_goto X (show decode cX0_joins 40 = .ok (.goto 7, 3) by decide +kernel) (by decide),
    mm_r_aload_n X (show decode cX0_joins 43 = .ok (.aload_n 0, 1) by decide +kernel) rfl,
    mm_r_gfJ X (ci := 0) (p := 6) (show mm_kd 0 6 = 1 by decide +kernel) rfl (Nat.le_of_ble_eq_true rfl) (show decode cX0_joins 44 = .ok (.getfield 80, 3) by decide +kernel) mw_268 rfl,
    mm_r_aload_n X (show decode cX0_joins 47 = .ok (.aload_n 0, 1) by decide +kernel) rfl,
    mm_r_gfR X (ci := 0) (p := 1) (show mm_kd 0 1 = 2 by decide +kernel) rfl (Nat.le_of_ble_eq_true rfl) (show decode cX0_joins 48 = .ok (.getfield 12, 3) by decide +kernel) mw_263 rfl,
    mm_r_iload_n X (show decode cX0_joins 51 = .ok (.iload_n 2, 1) by decide +kernel) rfl,
    mm_r_clV X hth (ci := 2) (na := 1) (sn_X2_spread hl) rfl (show decode cX0_joins 52 = .ok (.invokevirtual 61, 3) by decide +kernel) mw_819 mw_816 mw_817 mw_818 mw_49 hd_X2_spread ⟨(Nat.le_of_ble_eq_true rfl), (Nat.le_of_ble_eq_true rfl)⟩,
    mm_r_lor X (show decode cX0_joins 55 = .ok (.lor, 1) by decide +kernel),
    mm_r_lstore X (show decode cX0_joins 56 = .ok (.lstore 4, 2) by decide +kernel) (Nat.le_of_ble_eq_true rfl),
    mm_r_aload_n X (show decode cX0_joins 58 = .ok (.aload_n 0, 1) by decide +kernel) rfl,
    mm_r_gfR X (ci := 0) (p := 2) (show mm_kd 0 2 = 2 by decide +kernel) rfl (Nat.le_of_ble_eq_true rfl) (show decode cX0_joins 59 = .ok (.getfield 18, 3) by decide +kernel) mw_264 rfl,
    mm_r_iload_n X (show decode cX0_joins 62 = .ok (.iload_n 3, 1) by decide +kernel) rfl,
    mm_r_aload_n X (show decode cX0_joins 63 = .ok (.aload_n 0, 1) by decide +kernel) rfl,
    mm_r_gfR X (ci := 0) (p := 0) (show mm_kd 0 0 = 2 by decide +kernel) rfl (Nat.le_of_ble_eq_true rfl) (show decode cX0_joins 64 = .ok (.getfield 25, 3) by decide +kernel) mw_262 rfl,
    mm_r_iload_n X (show decode cX0_joins 67 = .ok (.iload_n 1, 1) by decide +kernel) rfl,
    mm_r_lload X (show decode cX0_joins 68 = .ok (.lload 4, 2) by decide +kernel),
    mm_r_clV X hth (ci := 1) (na := 2) (sn_X1_hasJoined hl) rfl (show decode cX0_joins 70 = .ok (.invokevirtual 99, 3) by decide +kernel) mw_214 mw_820 mw_212 mw_213 mw_45 hd_X1_hasJoined ⟨(Nat.le_of_ble_eq_true rfl), (Nat.le_of_ble_eq_true rfl)⟩,
    mm_r_eq1 X (show decode cX0_joins 73 = .ok (.ifCond .eq 7, 3) by decide +kernel) (by decide),
    mm_r_iconst X (show decode cX0_joins 76 = .ok (.iconst 2, 1) by decide +kernel) rfl,
    mm_r_goto X (show decode cX0_joins 77 = .ok (.goto 4, 3) by decide +kernel) (by decide),
    mm_r_iconst X (show decode cX0_joins 80 = .ok (.iconst 1, 1) by decide +kernel) rfl,
    mm_r_i2b X (show decode cX0_joins 81 = .ok (.i2b, 1) by decide +kernel),
    mm_r_bast X (show decode cX0_joins 82 = .ok (.bastore, 1) by decide +kernel),
    mm_r_aload_n X (show decode cX0_joins 83 = .ok (.aload_n 0, 1) by decide +kernel) rfl,
    mm_r_gfR X (ci := 0) (p := 2) (show mm_kd 0 2 = 2 by decide +kernel) rfl (Nat.le_of_ble_eq_true rfl) (show decode cX0_joins 84 = .ok (.getfield 18, 3) by decide +kernel) mw_264 rfl,
    mm_r_iload_n X (show decode cX0_joins 87 = .ok (.iload_n 3, 1) by decide +kernel) rfl,
    mm_r_bald X (show decode cX0_joins 88 = .ok (.baload, 1) by decide +kernel),
    mm_r_iconst X (show decode cX0_joins 89 = .ok (.iconst 2, 1) by decide +kernel) rfl,
    mm_r_ne2 X (show decode cX0_joins 90 = .ok (.if_icmp .ne 7, 3) by decide +kernel) (by decide),
    mm_r_iconst X (show decode cX0_joins 93 = .ok (.iconst 1, 1) by decide +kernel) rfl,
    mm_r_goto X (show decode cX0_joins 94 = .ok (.goto 4, 3) by decide +kernel) (by decide),
    mm_r_iconst X (show decode cX0_joins 97 = .ok (.iconst 0, 1) by decide +kernel) rfl,
    mm_r_zret X hret (show decode cX0_joins 98 = .ok (.ireturn, 1) by decide +kernel), trivial⟩
theorem sn_X0_joins {l : Launch} (hl : l.stackTraces = false) : mm_Snd l yX0_joins (.code yX0_joins cX0_joins 6 (some .boolean)) 5 123 f_X0_joins := mm_met hl (plainFor_of_name (by decide +kernel)) (ok_X0_joins hl)
/-! Linkcourt$BestPlay.joinedAlready()I -/
noncomputable def tb_X0_joinedAlready : List (Nat × mm_I) := [(0, mm_ldR 1 0), (1, mm_k 2 (.int 0)), (2, mm_k 3 (.int 0)), (3, mm_clV 6 0 2 f_X0_joins), (6, mm_eq1 13 9), (9, mm_k 10 (.int 0)), (10, mm_go 27), (13, mm_ldR 14 0), (14, mm_k 15 (.int 1)), (15, mm_k 16 (.int 0)), (16, mm_clV 19 0 2 f_X0_joins), (19, mm_eq1 26 22), (22, mm_k 23 (.int 1)), (23, mm_go 27), (26, mm_k 27 (.int (-1))), (27, mm_rtI)]
noncomputable def f_X0_joinedAlready : mm_F := mm_do (mm_pr tb_X0_joinedAlready) 1
theorem mn_X0_joinedAlready : mm_alln tb_X0_joinedAlready := ⟨mm_n_ldR _ _, mm_n_k _ _, mm_n_k _ _, mm_n_clV _ _ _ (mo_X0_joins), mm_n_eq1 _ _, mm_n_k _ _, mm_n_go _, mm_n_ldR _ _, mm_n_k _ _, mm_n_k _ _, mm_n_clV _ _ _ (mo_X0_joins), mm_n_eq1 _ _, mm_n_k _ _, mm_n_go _, mm_n_k _ _, mm_n_rtI, trivial⟩
theorem mo_X0_joinedAlready : mm_Mo f_X0_joinedAlready := mm_do_mo (mm_alln_mem mn_X0_joinedAlready)
set_option maxRecDepth 10000 in
theorem ok_X0_joinedAlready {l : Launch} (hl : l.stackTraces = false) : mm_Ok l yX0_joinedAlready cX0_joinedAlready 1 (some .int) 6 148 tb_X0_joinedAlready := by
  refine ⟨mm_alln_mem mn_X0_joinedAlready, fun p e cells slots s m args below meth c D tc A S ad Tg X hret hname htab hth => mm_allr_mem ?_⟩
  exact ⟨mm_r_aload_n X (show decode cX0_joinedAlready 0 = .ok (.aload_n 0, 1) by decide +kernel) rfl,
    mm_r_iconst X (show decode cX0_joinedAlready 1 = .ok (.iconst 0, 1) by decide +kernel) rfl,
    mm_r_iconst X (show decode cX0_joinedAlready 2 = .ok (.iconst 0, 1) by decide +kernel) rfl,
    mm_r_clV X hth (ci := 0) (na := 2) (sn_X0_joins hl) rfl (show decode cX0_joinedAlready 3 = .ok (.invokevirtual 72, 3) by decide +kernel) mw_815 mw_812 mw_814 mw_16 mw_48 hd_X0_joins ⟨(Nat.le_of_ble_eq_true rfl), (Nat.le_of_ble_eq_true rfl)⟩,
    mm_r_eq1 X (show decode cX0_joinedAlready 6 = .ok (.ifCond .eq 7, 3) by decide +kernel) (by decide),
    mm_r_iconst X (show decode cX0_joinedAlready 9 = .ok (.iconst 0, 1) by decide +kernel) rfl,
    mm_r_goto X (show decode cX0_joinedAlready 10 = .ok (.goto 17, 3) by decide +kernel) (by decide),
    mm_r_aload_n X (show decode cX0_joinedAlready 13 = .ok (.aload_n 0, 1) by decide +kernel) rfl,
    mm_r_iconst X (show decode cX0_joinedAlready 14 = .ok (.iconst 1, 1) by decide +kernel) rfl,
    mm_r_iconst X (show decode cX0_joinedAlready 15 = .ok (.iconst 0, 1) by decide +kernel) rfl,
    mm_r_clV X hth (ci := 0) (na := 2) (sn_X0_joins hl) rfl (show decode cX0_joinedAlready 16 = .ok (.invokevirtual 72, 3) by decide +kernel) mw_815 mw_812 mw_814 mw_16 mw_48 hd_X0_joins ⟨(Nat.le_of_ble_eq_true rfl), (Nat.le_of_ble_eq_true rfl)⟩,
    mm_r_eq1 X (show decode cX0_joinedAlready 19 = .ok (.ifCond .eq 7, 3) by decide +kernel) (by decide),
    mm_r_iconst X (show decode cX0_joinedAlready 22 = .ok (.iconst 1, 1) by decide +kernel) rfl,
    mm_r_goto X (show decode cX0_joinedAlready 23 = .ok (.goto 4, 3) by decide +kernel) (by decide),
    mm_r_iconst X (show decode cX0_joinedAlready 26 = .ok (.iconst (-1), 1) by decide +kernel) rfl,
    mm_r_iret X hret (show decode cX0_joinedAlready 27 = .ok (.ireturn, 1) by decide +kernel), trivial⟩
theorem sn_X0_joinedAlready {l : Launch} (hl : l.stackTraces = false) : mm_Snd l yX0_joinedAlready (.code yX0_joinedAlready cX0_joinedAlready 1 (some .int)) 6 148 f_X0_joinedAlready := mm_met hl (plainFor_of_name (by decide +kernel)) (ok_X0_joinedAlready hl)
/-! Linkcourt$Gaps.pair(II)I -/
noncomputable def tb_X2_pair : List (Nat × mm_I) := [(0, mm_ldI 1 1), (1, mm_lt1 28 4), (4, mm_ldI 5 1), (5, mm_k 8 (.int 512)), (8, mm_ge2 28 11), (11, mm_ldI 12 2), (12, mm_lt1 28 15), (15, mm_ldI 16 2), (16, mm_k 19 (.int 512)), (19, mm_ge2 28 22), (22, mm_ldI 23 1), (23, mm_ldI 24 2), (24, mm_i2 25 (fun a b => a &&& b)), (25, mm_eq1 30 28), (28, mm_k 29 (.int (-1))), (29, mm_rtI), (30, mm_ldR 31 0), (31, mm_gfR 34 2 1), (34, mm_ldI 35 1), (35, mm_ald 36 0), (36, mm_k 37 (.int 2)), (37, mm_ldR 38 0), (38, mm_gfR 41 2 1), (41, mm_ldI 42 2), (42, mm_ald 43 0), (43, mm_i2 44 (fun a b => a * b)), (44, mm_i2 45 (fun a b => a + b)), (45, mm_rtI)]
noncomputable def f_X2_pair : mm_F := mm_do (mm_pr tb_X2_pair) 3
theorem mn_X2_pair : mm_alln tb_X2_pair := ⟨mm_n_ldI _ _, mm_n_lt1 _ _, mm_n_ldI _ _, mm_n_k _ _, mm_n_ge2 _ _, mm_n_ldI _ _, mm_n_lt1 _ _, mm_n_ldI _ _, mm_n_k _ _, mm_n_ge2 _ _, mm_n_ldI _ _, mm_n_ldI _ _, mm_n_i2 _ _, mm_n_eq1 _ _, mm_n_k _ _, mm_n_rtI, mm_n_ldR _ _, mm_n_gfR _ _ _, mm_n_ldI _ _, mm_n_ald _ _, mm_n_k _ _, mm_n_ldR _ _, mm_n_gfR _ _ _, mm_n_ldI _ _, mm_n_ald _ _, mm_n_i2 _ _, mm_n_i2 _ _, mm_n_rtI, trivial⟩
theorem mo_X2_pair : mm_Mo f_X2_pair := mm_do_mo (mm_alln_mem mn_X2_pair)
set_option maxRecDepth 10000 in
theorem ok_X2_pair {l : Launch} (hl : l.stackTraces = false) : mm_Ok l yX2_pair cX2_pair 3 (some .int) 1 20 tb_X2_pair := by
  refine ⟨mm_alln_mem mn_X2_pair, fun p e cells slots s m args below meth c D tc A S ad Tg X hret hname htab hth => mm_allr_mem ?_⟩
  exact ⟨mm_r_iload_n X (show decode cX2_pair 0 = .ok (.iload_n 1, 1) by decide +kernel) rfl,
    mm_r_lt1 X (show decode cX2_pair 1 = .ok (.ifCond .lt 27, 3) by decide +kernel) (by decide),
    mm_r_iload_n X (show decode cX2_pair 4 = .ok (.iload_n 1, 1) by decide +kernel) rfl,
    mm_r_sipush X (show decode cX2_pair 5 = .ok (.sipush 512, 3) by decide +kernel) rfl,
    mm_r_ge2 X (show decode cX2_pair 8 = .ok (.if_icmp .ge 20, 3) by decide +kernel) (by decide),
    mm_r_iload_n X (show decode cX2_pair 11 = .ok (.iload_n 2, 1) by decide +kernel) rfl,
    mm_r_lt1 X (show decode cX2_pair 12 = .ok (.ifCond .lt 16, 3) by decide +kernel) (by decide),
    mm_r_iload_n X (show decode cX2_pair 15 = .ok (.iload_n 2, 1) by decide +kernel) rfl,
    mm_r_sipush X (show decode cX2_pair 16 = .ok (.sipush 512, 3) by decide +kernel) rfl,
    mm_r_ge2 X (show decode cX2_pair 19 = .ok (.if_icmp .ge 9, 3) by decide +kernel) (by decide),
    mm_r_iload_n X (show decode cX2_pair 22 = .ok (.iload_n 1, 1) by decide +kernel) rfl,
    mm_r_iload_n X (show decode cX2_pair 23 = .ok (.iload_n 2, 1) by decide +kernel) rfl,
    mm_r_iand X (show decode cX2_pair 24 = .ok (.iand, 1) by decide +kernel),
    mm_r_eq1 X (show decode cX2_pair 25 = .ok (.ifCond .eq 5, 3) by decide +kernel) (by decide),
    mm_r_iconst X (show decode cX2_pair 28 = .ok (.iconst (-1), 1) by decide +kernel) rfl,
    mm_r_iret X hret (show decode cX2_pair 29 = .ok (.ireturn, 1) by decide +kernel),
    mm_r_aload_n X (show decode cX2_pair 30 = .ok (.aload_n 0, 1) by decide +kernel) rfl,
    mm_r_gfR X (ci := 2) (p := 1) (show mm_kd 2 1 = 2 by decide +kernel) rfl (Nat.le_of_ble_eq_true rfl) (show decode cX2_pair 31 = .ok (.getfield 15, 3) by decide +kernel) mw_251 rfl,
    mm_r_iload_n X (show decode cX2_pair 34 = .ok (.iload_n 1, 1) by decide +kernel) rfl,
    mm_r_iald X (show decode cX2_pair 35 = .ok (.iaload, 1) by decide +kernel),
    mm_r_iconst X (show decode cX2_pair 36 = .ok (.iconst 2, 1) by decide +kernel) rfl,
    mm_r_aload_n X (show decode cX2_pair 37 = .ok (.aload_n 0, 1) by decide +kernel) rfl,
    mm_r_gfR X (ci := 2) (p := 1) (show mm_kd 2 1 = 2 by decide +kernel) rfl (Nat.le_of_ble_eq_true rfl) (show decode cX2_pair 38 = .ok (.getfield 15, 3) by decide +kernel) mw_251 rfl,
    mm_r_iload_n X (show decode cX2_pair 41 = .ok (.iload_n 2, 1) by decide +kernel) rfl,
    mm_r_iald X (show decode cX2_pair 42 = .ok (.iaload, 1) by decide +kernel),
    mm_r_imul X (show decode cX2_pair 43 = .ok (.imul, 1) by decide +kernel),
    mm_r_iadd X (show decode cX2_pair 44 = .ok (.iadd, 1) by decide +kernel),
    mm_r_iret X hret (show decode cX2_pair 45 = .ok (.ireturn, 1) by decide +kernel), trivial⟩
theorem sn_X2_pair {l : Launch} (hl : l.stackTraces = false) : mm_Snd l yX2_pair (.code yX2_pair cX2_pair 3 (some .int)) 1 20 f_X2_pair := mm_met hl (plainFor_of_name (by decide +kernel)) (ok_X2_pair hl)
/-! Linkcourt$Gaps.full()I -/
noncomputable def tb_X2_full : List (Nat × mm_I) := [(0, mm_k 1 (.int 1)), (1, mm_ldR 2 0), (2, mm_gfI 5 2 2), (5, mm_i2 6 (fun a b => a <<< (b &&& 31))), (6, mm_k 7 (.int 1)), (7, mm_i2 8 (fun a b => a - b)), (8, mm_rtI)]
noncomputable def f_X2_full : mm_F := mm_do (mm_pr tb_X2_full) 1
theorem mn_X2_full : mm_alln tb_X2_full := ⟨mm_n_k _ _, mm_n_ldR _ _, mm_n_gfI _ _ _, mm_n_i2 _ _, mm_n_k _ _, mm_n_i2 _ _, mm_n_rtI, trivial⟩
theorem mo_X2_full : mm_Mo f_X2_full := mm_do_mo (mm_alln_mem mn_X2_full)
set_option maxRecDepth 10000 in
theorem ok_X2_full {l : Launch} (hl : l.stackTraces = false) : mm_Ok l yX2_full cX2_full 1 (some .int) 1 20 tb_X2_full := by
  refine ⟨mm_alln_mem mn_X2_full, fun p e cells slots s m args below meth c D tc A S ad Tg X hret hname htab hth => mm_allr_mem ?_⟩
  exact ⟨mm_r_iconst X (show decode cX2_full 0 = .ok (.iconst 1, 1) by decide +kernel) rfl,
    mm_r_aload_n X (show decode cX2_full 1 = .ok (.aload_n 0, 1) by decide +kernel) rfl,
    mm_r_gfI X (ci := 2) (p := 2) (show mm_kd 2 2 = 0 by decide +kernel) rfl (Nat.le_of_ble_eq_true rfl) (show decode cX2_full 2 = .ok (.getfield 18, 3) by decide +kernel) mw_252 rfl,
    mm_r_ishl X (show decode cX2_full 5 = .ok (.ishl, 1) by decide +kernel),
    mm_r_iconst X (show decode cX2_full 6 = .ok (.iconst 1, 1) by decide +kernel) rfl,
    mm_r_isub X (show decode cX2_full 7 = .ok (.isub, 1) by decide +kernel),
    mm_r_iret X hret (show decode cX2_full 8 = .ok (.ireturn, 1) by decide +kernel), trivial⟩
theorem sn_X2_full {l : Launch} (hl : l.stackTraces = false) : mm_Snd l yX2_full (.code yX2_full cX2_full 1 (some .int)) 1 20 f_X2_full := mm_met hl (plainFor_of_name (by decide +kernel)) (ok_X2_full hl)
/-! a recursion: X0_score, X0_scoreBehind -/
noncomputable def tb_X0_scoreBehind (g : mm_F) : List (Nat × mm_I) := [(0, mm_ldR 1 0), (1, mm_ldI 2 3), (2, mm_ldI 3 1), (3, mm_clV 6 0 2 f_X0_joins), (6, mm_eq1 12 9), (9, mm_k 11 (.int 99)), (11, mm_rtI), (12, mm_ldR 13 0), (13, mm_ldI 14 2), (14, mm_ldI 15 1), (15, mm_k 16 (.int 1)), (16, mm_ldI 17 3), (17, mm_i2 18 (fun a b => a - b)), (18, mm_ldI 20 4), (20, mm_k 21 (.int 1)), (21, mm_i2 22 (fun a b => a + b)), (22, mm_clV 25 0 4 g), (25, mm_stI 27 5), (27, mm_ldI 29 5), (29, mm_le1 39 32), (32, mm_k 33 (.int 1)), (33, mm_ldI 35 5), (35, mm_i2 36 (fun a b => a - b)), (36, mm_go 43), (39, mm_k 40 (.int (-1))), (40, mm_ldI 42 5), (42, mm_i2 43 (fun a b => a - b)), (43, mm_rtI)]
noncomputable def f_X0_scoreBehind (g : mm_F) : mm_F := mm_do (mm_pr (tb_X0_scoreBehind g)) 6
theorem mn_X0_scoreBehind {g : mm_F} (hg : mm_Mo g) : mm_alln (tb_X0_scoreBehind g) := ⟨mm_n_ldR _ _, mm_n_ldI _ _, mm_n_ldI _ _, mm_n_clV _ _ _ (mo_X0_joins), mm_n_eq1 _ _, mm_n_k _ _, mm_n_rtI, mm_n_ldR _ _, mm_n_ldI _ _, mm_n_ldI _ _, mm_n_k _ _, mm_n_ldI _ _, mm_n_i2 _ _, mm_n_ldI _ _, mm_n_k _ _, mm_n_i2 _ _, mm_n_clV _ _ _ hg, mm_n_stI _ _, mm_n_ldI _ _, mm_n_le1 _ _, mm_n_k _ _, mm_n_ldI _ _, mm_n_i2 _ _, mm_n_go _, mm_n_k _ _, mm_n_ldI _ _, mm_n_i2 _ _, mm_n_rtI, trivial⟩
theorem mo_X0_scoreBehind {g : mm_F} (hg : mm_Mo g) : mm_Mo (f_X0_scoreBehind g) := mm_do_mo (mm_alln_mem (mn_X0_scoreBehind hg))
set_option maxRecDepth 10000 in
theorem ok_X0_scoreBehind {l : Launch} (hl : l.stackTraces = false) {g : mm_F} {fr lo : Nat} (hg : mm_Snd l yX0_score (.code yX0_score cX0_score 9 (some .int)) fr lo g) (h30 : 40 ≤ fr ∧ 2000 ≤ lo) : mm_Ok l yX0_scoreBehind cX0_scoreBehind 6 (some .int) (fr + 1) (lo + 28) (tb_X0_scoreBehind g) := by
  refine ⟨mm_alln_mem (mn_X0_scoreBehind hg.1), fun p e cells slots s m args below meth c D tc A S ad Tg X hret hname htab hth => mm_allr_mem ?_⟩
  exact ⟨mm_r_aload_n X (show decode cX0_scoreBehind 0 = .ok (.aload_n 0, 1) by decide +kernel) rfl,
    mm_r_iload_n X (show decode cX0_scoreBehind 1 = .ok (.iload_n 3, 1) by decide +kernel) rfl,
    mm_r_iload_n X (show decode cX0_scoreBehind 2 = .ok (.iload_n 1, 1) by decide +kernel) rfl,
    mm_r_clV X hth (ci := 0) (na := 2) (sn_X0_joins hl) rfl (show decode cX0_scoreBehind 3 = .ok (.invokevirtual 72, 3) by decide +kernel) mw_815 mw_812 mw_814 mw_16 mw_48 hd_X0_joins ⟨by show 5 + 1 ≤ fr + 1; omega, by show 8 + (6 + 11) + 123 ≤ lo + 28; omega⟩,
    mm_r_eq1 X (show decode cX0_scoreBehind 6 = .ok (.ifCond .eq 6, 3) by decide +kernel) (by decide),
    mm_r_bipush X (show decode cX0_scoreBehind 9 = .ok (.bipush 99, 2) by decide +kernel) rfl,
    mm_r_iret X hret (show decode cX0_scoreBehind 11 = .ok (.ireturn, 1) by decide +kernel),
    mm_r_aload_n X (show decode cX0_scoreBehind 12 = .ok (.aload_n 0, 1) by decide +kernel) rfl,
    mm_r_iload_n X (show decode cX0_scoreBehind 13 = .ok (.iload_n 2, 1) by decide +kernel) rfl,
    mm_r_iload_n X (show decode cX0_scoreBehind 14 = .ok (.iload_n 1, 1) by decide +kernel) rfl,
    mm_r_iconst X (show decode cX0_scoreBehind 15 = .ok (.iconst 1, 1) by decide +kernel) rfl,
    mm_r_iload_n X (show decode cX0_scoreBehind 16 = .ok (.iload_n 3, 1) by decide +kernel) rfl,
    mm_r_isub X (show decode cX0_scoreBehind 17 = .ok (.isub, 1) by decide +kernel),
    mm_r_iload X (show decode cX0_scoreBehind 18 = .ok (.iload 4, 2) by decide +kernel),
    mm_r_iconst X (show decode cX0_scoreBehind 20 = .ok (.iconst 1, 1) by decide +kernel) rfl,
    mm_r_iadd X (show decode cX0_scoreBehind 21 = .ok (.iadd, 1) by decide +kernel),
    mm_r_clV X hth (ci := 0) (na := 4) hg rfl (show decode cX0_scoreBehind 22 = .ok (.invokevirtual 45, 3) by decide +kernel) mw_824 mw_821 mw_823 mw_17 mw_48 hd_X0_score ⟨by show fr + 1 ≤ fr + 1; omega, by show 8 + (9 + 11) + lo ≤ lo + 28; omega⟩,
    mm_r_istore X (show decode cX0_scoreBehind 25 = .ok (.istore 5, 2) by decide +kernel) (Nat.le_of_ble_eq_true rfl),
    mm_r_iload X (show decode cX0_scoreBehind 27 = .ok (.iload 5, 2) by decide +kernel),
    mm_r_le1 X (show decode cX0_scoreBehind 29 = .ok (.ifCond .le 10, 3) by decide +kernel) (by decide),
    mm_r_iconst X (show decode cX0_scoreBehind 32 = .ok (.iconst 1, 1) by decide +kernel) rfl,
    mm_r_iload X (show decode cX0_scoreBehind 33 = .ok (.iload 5, 2) by decide +kernel),
    mm_r_isub X (show decode cX0_scoreBehind 35 = .ok (.isub, 1) by decide +kernel),
    mm_r_goto X (show decode cX0_scoreBehind 36 = .ok (.goto 7, 3) by decide +kernel) (by decide),
    mm_r_iconst X (show decode cX0_scoreBehind 39 = .ok (.iconst (-1), 1) by decide +kernel) rfl,
    mm_r_iload X (show decode cX0_scoreBehind 40 = .ok (.iload 5, 2) by decide +kernel),
    mm_r_isub X (show decode cX0_scoreBehind 42 = .ok (.isub, 1) by decide +kernel),
    mm_r_iret X hret (show decode cX0_scoreBehind 43 = .ok (.ireturn, 1) by decide +kernel), trivial⟩
theorem sn_X0_scoreBehind {l : Launch} (hl : l.stackTraces = false) {g : mm_F} {fr lo : Nat} (hg : mm_Snd l yX0_score (.code yX0_score cX0_score 9 (some .int)) fr lo g) (h30 : 40 ≤ fr ∧ 2000 ≤ lo) : mm_Snd l yX0_scoreBehind (.code yX0_scoreBehind cX0_scoreBehind 6 (some .int)) (fr + 1) (lo + 28) (f_X0_scoreBehind g) := mm_met hl (plainFor_of_name (by decide +kernel)) (ok_X0_scoreBehind hl hg h30)
noncomputable def tb_X0_score (g : mm_F) : List (Nat × mm_I) := [(0, mm_ldI 1 3), (1, mm_ne1 16 4), (4, mm_ldR 5 0), (5, mm_gfR 8 0 1), (8, mm_ldI 9 1), (9, mm_ldI 10 2), (10, mm_clV 13 2 2 f_X2_pair), (13, mm_go 25), (16, mm_ldR 17 0), (17, mm_gfR 20 0 1), (20, mm_ldI 21 2), (21, mm_ldI 22 1), (22, mm_clV 25 2 2 f_X2_pair), (25, mm_stI 27 5), (27, mm_ldI 29 5), (29, mm_lt1 49 32), (32, mm_ldI 34 5), (34, mm_ldR 35 0), (35, mm_gfR 38 0 3), (38, mm_aln 39 2), (39, mm_ge2 49 42), (42, mm_ldI 44 4), (44, mm_k 46 (.int 9)), (46, mm_le2 52 49), (49, mm_k 51 (.int (-100))), (51, mm_rtI), (52, mm_ldR 53 0), (53, mm_gfR 56 0 3), (56, mm_ldI 58 5), (58, mm_ald 59 2), (59, mm_eq1 70 62), (62, mm_ldR 63 0), (63, mm_gfR 66 0 3), (66, mm_ldI 68 5), (68, mm_ald 69 2), (69, mm_rtI), (70, mm_ldR 71 0), (71, mm_gfR 74 0 1), (74, mm_clV 77 2 0 f_X2_full), (77, mm_ldI 78 1), (78, mm_ldI 79 2), (79, mm_i2 80 (fun a b => a ||| b)), (80, mm_k 81 (.int (-1))), (81, mm_i2 82 (fun a b => a ^^^ b)), (82, mm_i2 83 (fun a b => a &&& b)), (83, mm_stI 85 6), (85, mm_k 87 (.int (-100))), (87, mm_stI 89 7), (89, mm_k 90 (.int 0)), (90, mm_stI 92 8), (92, mm_ldI 94 8), (94, mm_ldR 95 0), (95, mm_gfR 98 0 1), (98, mm_gfI 101 2 2), (101, mm_ge2 151 104), (104, mm_ldI 106 7), (106, mm_k 108 (.int 99)), (108, mm_ge2 151 111), (111, mm_ldI 113 6), (113, mm_il 114 (fun a => a.toInt64)), (114, mm_ldI 116 8), (116, mm_clS 119 2 f_X10_has), (119, mm_eq1 141 122), (122, mm_ldR 123 0), (123, mm_ldI 124 3), (124, mm_ldI 125 1), (125, mm_k 126 (.int 1)), (126, mm_ldI 128 8), (128, mm_i2 129 (fun a b => a <<< (b &&& 31))), (129, mm_i2 130 (fun a b => a ||| b)), (130, mm_clV 133 0 2 f_X0_joins), (133, mm_eq1 141 136), (136, mm_k 138 (.int 99)), (138, mm_go 143), (141, mm_ldI 143 7), (143, mm_stI 145 7), (145, mm_inc 148 8 1), (148, mm_go 92), (151, mm_k 152 (.int 0)), (152, mm_stI 154 8), (154, mm_ldI 156 8), (156, mm_ldR 157 0), (157, mm_gfR 160 0 1), (160, mm_gfI 163 2 2), (163, mm_ge2 211 166), (166, mm_ldI 168 7), (168, mm_k 170 (.int 97)), (170, mm_ge2 211 173), (173, mm_ldI 175 6), (175, mm_il 176 (fun a => a.toInt64)), (176, mm_ldI 178 8), (178, mm_clS 181 2 f_X10_has), (181, mm_eq1 205 184), (184, mm_ldI 186 7), (186, mm_ldR 187 0), (187, mm_ldI 188 1), (188, mm_k 189 (.int 1)), (189, mm_ldI 191 8), (191, mm_i2 192 (fun a b => a <<< (b &&& 31))), (192, mm_i2 193 (fun a b => a ||| b)), (193, mm_ldI 194 2), (194, mm_ldI 195 3), (195, mm_ldI 197 4), (197, mm_clV 200 0 4 (f_X0_scoreBehind g)), (200, mm_clS 203 2 f_J9_max_7cf53), (203, mm_stI 205 7), (205, mm_inc 208 8 1), (208, mm_go 154), (211, mm_ldR 212 0), (212, mm_gfR 215 0 3), (215, mm_ldI 217 5), (217, mm_ldI 219 7), (219, mm_i1 220 (fun a => a.toInt8.toInt32)), (220, mm_ast 221 2 (fun v => v.toInt8.toInt32)), (221, mm_ldI 223 7), (223, mm_rtI)]
theorem mn_X0_score {g : mm_F} (hg : mm_Mo g) : mm_alln (tb_X0_score g) := ⟨mm_n_ldI _ _, mm_n_ne1 _ _, mm_n_ldR _ _, mm_n_gfR _ _ _, mm_n_ldI _ _, mm_n_ldI _ _, mm_n_clV _ _ _ (mo_X2_pair), mm_n_go _, mm_n_ldR _ _, mm_n_gfR _ _ _, mm_n_ldI _ _, mm_n_ldI _ _, mm_n_clV _ _ _ (mo_X2_pair), mm_n_stI _ _, mm_n_ldI _ _, mm_n_lt1 _ _, mm_n_ldI _ _, mm_n_ldR _ _, mm_n_gfR _ _ _, mm_n_aln _ _, mm_n_ge2 _ _, mm_n_ldI _ _, mm_n_k _ _, mm_n_le2 _ _, mm_n_k _ _, mm_n_rtI, mm_n_ldR _ _, mm_n_gfR _ _ _, mm_n_ldI _ _, mm_n_ald _ _, mm_n_eq1 _ _, mm_n_ldR _ _, mm_n_gfR _ _ _, mm_n_ldI _ _, mm_n_ald _ _, mm_n_rtI, mm_n_ldR _ _, mm_n_gfR _ _ _, mm_n_clV _ _ _ (mo_X2_full), mm_n_ldI _ _, mm_n_ldI _ _, mm_n_i2 _ _, mm_n_k _ _, mm_n_i2 _ _, mm_n_i2 _ _, mm_n_stI _ _, mm_n_k _ _, mm_n_stI _ _, mm_n_k _ _, mm_n_stI _ _, mm_n_ldI _ _, mm_n_ldR _ _, mm_n_gfR _ _ _, mm_n_gfI _ _ _, mm_n_ge2 _ _, mm_n_ldI _ _, mm_n_k _ _, mm_n_ge2 _ _, mm_n_ldI _ _, mm_n_il _ _, mm_n_ldI _ _, mm_n_clS _ _ (mo_X10_has), mm_n_eq1 _ _, mm_n_ldR _ _, mm_n_ldI _ _, mm_n_ldI _ _, mm_n_k _ _, mm_n_ldI _ _, mm_n_i2 _ _, mm_n_i2 _ _, mm_n_clV _ _ _ (mo_X0_joins), mm_n_eq1 _ _, mm_n_k _ _, mm_n_go _, mm_n_ldI _ _, mm_n_stI _ _, mm_n_inc _ _ _, mm_n_go _, mm_n_k _ _, mm_n_stI _ _, mm_n_ldI _ _, mm_n_ldR _ _, mm_n_gfR _ _ _, mm_n_gfI _ _ _, mm_n_ge2 _ _, mm_n_ldI _ _, mm_n_k _ _, mm_n_ge2 _ _, mm_n_ldI _ _, mm_n_il _ _, mm_n_ldI _ _, mm_n_clS _ _ (mo_X10_has), mm_n_eq1 _ _, mm_n_ldI _ _, mm_n_ldR _ _, mm_n_ldI _ _, mm_n_k _ _, mm_n_ldI _ _, mm_n_i2 _ _, mm_n_i2 _ _, mm_n_ldI _ _, mm_n_ldI _ _, mm_n_ldI _ _, mm_n_clV _ _ _ (mo_X0_scoreBehind hg), mm_n_clS _ _ (mo_J9_max_7cf53), mm_n_stI _ _, mm_n_inc _ _ _, mm_n_go _, mm_n_ldR _ _, mm_n_gfR _ _ _, mm_n_ldI _ _, mm_n_ldI _ _, mm_n_i1 _ _, mm_n_ast _ _ _, mm_n_ldI _ _, mm_n_rtI, trivial⟩
theorem mo_X0_score {g : mm_F} (hg : mm_Mo g) : mm_Mo (mm_do (mm_pr (tb_X0_score g)) 9) := mm_do_mo (mm_alln_mem (mn_X0_score hg))
set_option maxRecDepth 10000 in
theorem ok_X0_score {l : Launch} (hl : l.stackTraces = false) {g : mm_F} {fr lo : Nat} (hg : mm_Snd l yX0_score (.code yX0_score cX0_score 9 (some .int)) fr lo g) (h30 : 40 ≤ fr ∧ 2000 ≤ lo) : mm_Ok l yX0_score cX0_score 9 (some .int) (fr + 2) (lo + 53) (tb_X0_score g) := by
  refine ⟨mm_alln_mem (mn_X0_score hg.1), fun p e cells slots s m args below meth c D tc A S ad Tg X hret hname htab hth => mm_allr_mem ?_⟩
  exact ⟨mm_r_iload_n X (show decode cX0_score 0 = .ok (.iload_n 3, 1) by decide +kernel) rfl,
    mm_r_ne1 X (show decode cX0_score 1 = .ok (.ifCond .ne 15, 3) by decide +kernel) (by decide),
    mm_r_aload_n X (show decode cX0_score 4 = .ok (.aload_n 0, 1) by decide +kernel) rfl,
    mm_r_gfR X (ci := 0) (p := 1) (show mm_kd 0 1 = 2 by decide +kernel) rfl (Nat.le_of_ble_eq_true rfl) (show decode cX0_score 5 = .ok (.getfield 12, 3) by decide +kernel) mw_263 rfl,
    mm_r_iload_n X (show decode cX0_score 8 = .ok (.iload_n 1, 1) by decide +kernel) rfl,
    mm_r_iload_n X (show decode cX0_score 9 = .ok (.iload_n 2, 1) by decide +kernel) rfl,
    mm_r_clV X hth (ci := 2) (na := 2) (sn_X2_pair hl) rfl (show decode cX0_score 10 = .ok (.invokevirtual 103, 3) by decide +kernel) mw_828 mw_825 mw_826 mw_827 mw_49 hd_X2_pair ⟨by show 1 + 1 ≤ fr + 2; omega, by show 8 + (3 + 11) + 20 ≤ lo + 53; omega⟩,
    mm_r_goto X (show decode cX0_score 13 = .ok (.goto 12, 3) by decide +kernel) (by decide),
    mm_r_aload_n X (show decode cX0_score 16 = .ok (.aload_n 0, 1) by decide +kernel) rfl,
    mm_r_gfR X (ci := 0) (p := 1) (show mm_kd 0 1 = 2 by decide +kernel) rfl (Nat.le_of_ble_eq_true rfl) (show decode cX0_score 17 = .ok (.getfield 12, 3) by decide +kernel) mw_263 rfl,
    mm_r_iload_n X (show decode cX0_score 20 = .ok (.iload_n 2, 1) by decide +kernel) rfl,
    mm_r_iload_n X (show decode cX0_score 21 = .ok (.iload_n 1, 1) by decide +kernel) rfl,
    mm_r_clV X hth (ci := 2) (na := 2) (sn_X2_pair hl) rfl (show decode cX0_score 22 = .ok (.invokevirtual 103, 3) by decide +kernel) mw_828 mw_825 mw_826 mw_827 mw_49 hd_X2_pair ⟨by show 1 + 1 ≤ fr + 2; omega, by show 8 + (3 + 11) + 20 ≤ lo + 53; omega⟩,
    mm_r_istore X (show decode cX0_score 25 = .ok (.istore 5, 2) by decide +kernel) (Nat.le_of_ble_eq_true rfl),
    mm_r_iload X (show decode cX0_score 27 = .ok (.iload 5, 2) by decide +kernel),
    mm_r_lt1 X (show decode cX0_score 29 = .ok (.ifCond .lt 20, 3) by decide +kernel) (by decide),
    mm_r_iload X (show decode cX0_score 32 = .ok (.iload 5, 2) by decide +kernel),
    mm_r_aload_n X (show decode cX0_score 34 = .ok (.aload_n 0, 1) by decide +kernel) rfl,
    mm_r_gfR X (ci := 0) (p := 3) (show mm_kd 0 3 = 2 by decide +kernel) rfl (Nat.le_of_ble_eq_true rfl) (show decode cX0_score 35 = .ok (.getfield 22, 3) by decide +kernel) mw_265 rfl,
    mm_r_aln X (t := 2) (Nat.le_of_ble_eq_true rfl) (show decode cX0_score 38 = .ok (.arraylength, 1) by decide +kernel),
    mm_r_ge2 X (show decode cX0_score 39 = .ok (.if_icmp .ge 10, 3) by decide +kernel) (by decide),
    mm_r_iload X (show decode cX0_score 42 = .ok (.iload 4, 2) by decide +kernel),
    mm_r_bipush X (show decode cX0_score 44 = .ok (.bipush 9, 2) by decide +kernel) rfl,
    mm_r_le2 X (show decode cX0_score 46 = .ok (.if_icmp .le 6, 3) by decide +kernel) (by decide),
    mm_r_bipush X (show decode cX0_score 49 = .ok (.bipush (-100), 2) by decide +kernel) rfl,
    mm_r_iret X hret (show decode cX0_score 51 = .ok (.ireturn, 1) by decide +kernel),
    mm_r_aload_n X (show decode cX0_score 52 = .ok (.aload_n 0, 1) by decide +kernel) rfl,
    mm_r_gfR X (ci := 0) (p := 3) (show mm_kd 0 3 = 2 by decide +kernel) rfl (Nat.le_of_ble_eq_true rfl) (show decode cX0_score 53 = .ok (.getfield 22, 3) by decide +kernel) mw_265 rfl,
    mm_r_iload X (show decode cX0_score 56 = .ok (.iload 5, 2) by decide +kernel),
    mm_r_bald X (show decode cX0_score 58 = .ok (.baload, 1) by decide +kernel),
    mm_r_eq1 X (show decode cX0_score 59 = .ok (.ifCond .eq 11, 3) by decide +kernel) (by decide),
    mm_r_aload_n X (show decode cX0_score 62 = .ok (.aload_n 0, 1) by decide +kernel) rfl,
    mm_r_gfR X (ci := 0) (p := 3) (show mm_kd 0 3 = 2 by decide +kernel) rfl (Nat.le_of_ble_eq_true rfl) (show decode cX0_score 63 = .ok (.getfield 22, 3) by decide +kernel) mw_265 rfl,
    mm_r_iload X (show decode cX0_score 66 = .ok (.iload 5, 2) by decide +kernel),
    mm_r_bald X (show decode cX0_score 68 = .ok (.baload, 1) by decide +kernel),
    mm_r_iret X hret (show decode cX0_score 69 = .ok (.ireturn, 1) by decide +kernel),
    mm_r_aload_n X (show decode cX0_score 70 = .ok (.aload_n 0, 1) by decide +kernel) rfl,
    mm_r_gfR X (ci := 0) (p := 1) (show mm_kd 0 1 = 2 by decide +kernel) rfl (Nat.le_of_ble_eq_true rfl) (show decode cX0_score 71 = .ok (.getfield 12, 3) by decide +kernel) mw_263 rfl,
    mm_r_clV X hth (ci := 2) (na := 0) (sn_X2_full hl) rfl (show decode cX0_score 74 = .ok (.invokevirtual 65, 3) by decide +kernel) mw_832 mw_829 mw_830 mw_831 mw_49 hd_X2_full ⟨by show 1 + 1 ≤ fr + 2; omega, by show 8 + (1 + 11) + 20 ≤ lo + 53; omega⟩,
    mm_r_iload_n X (show decode cX0_score 77 = .ok (.iload_n 1, 1) by decide +kernel) rfl,
    mm_r_iload_n X (show decode cX0_score 78 = .ok (.iload_n 2, 1) by decide +kernel) rfl,
    mm_r_ior X (show decode cX0_score 79 = .ok (.ior, 1) by decide +kernel),
    mm_r_iconst X (show decode cX0_score 80 = .ok (.iconst (-1), 1) by decide +kernel) rfl,
    mm_r_ixor X (show decode cX0_score 81 = .ok (.ixor, 1) by decide +kernel),
    mm_r_iand X (show decode cX0_score 82 = .ok (.iand, 1) by decide +kernel),
    mm_r_istore X (show decode cX0_score 83 = .ok (.istore 6, 2) by decide +kernel) (Nat.le_of_ble_eq_true rfl),
    mm_r_bipush X (show decode cX0_score 85 = .ok (.bipush (-100), 2) by decide +kernel) rfl,
    mm_r_istore X (show decode cX0_score 87 = .ok (.istore 7, 2) by decide +kernel) (Nat.le_of_ble_eq_true rfl),
    mm_r_iconst X (show decode cX0_score 89 = .ok (.iconst 0, 1) by decide +kernel) rfl,
    mm_r_istore X (show decode cX0_score 90 = .ok (.istore 8, 2) by decide +kernel) (Nat.le_of_ble_eq_true rfl),
    mm_r_iload X (show decode cX0_score 92 = .ok (.iload 8, 2) by decide +kernel),
    mm_r_aload_n X (show decode cX0_score 94 = .ok (.aload_n 0, 1) by decide +kernel) rfl,
    mm_r_gfR X (ci := 0) (p := 1) (show mm_kd 0 1 = 2 by decide +kernel) rfl (Nat.le_of_ble_eq_true rfl) (show decode cX0_score 95 = .ok (.getfield 12, 3) by decide +kernel) mw_263 rfl,
    mm_r_gfI X (ci := 2) (p := 2) (show mm_kd 2 2 = 0 by decide +kernel) rfl (Nat.le_of_ble_eq_true rfl) (show decode cX0_score 98 = .ok (.getfield 55, 3) by decide +kernel) mw_254 rfl,
    mm_r_ge2 X (show decode cX0_score 101 = .ok (.if_icmp .ge 50, 3) by decide +kernel) (by decide),
    mm_r_iload X (show decode cX0_score 104 = .ok (.iload 7, 2) by decide +kernel),
    mm_r_bipush X (show decode cX0_score 106 = .ok (.bipush 99, 2) by decide +kernel) rfl,
    mm_r_ge2 X (show decode cX0_score 108 = .ok (.if_icmp .ge 43, 3) by decide +kernel) (by decide),
    mm_r_iload X (show decode cX0_score 111 = .ok (.iload 6, 2) by decide +kernel),
    mm_r_i2l X (show decode cX0_score 113 = .ok (.i2l, 1) by decide +kernel),
    mm_r_iload X (show decode cX0_score 114 = .ok (.iload 8, 2) by decide +kernel),
    mm_r_clSN X hth (na := 2) (sn_X10_has hl) (show decode cX0_score 116 = .ok (.invokestatic 68, 3) by decide +kernel) mw_593 (show ("Linkcourt$BestPlay", 68, yX10_has) ∈ mm_nest by decide +kernel) mw_592 mw_44 hd_X10_has.2 ⟨by show 1 + 1 ≤ fr + 2; omega, by show 8 + (3 + 11) + 20 ≤ lo + 53; omega⟩,
    mm_r_eq1 X (show decode cX0_score 119 = .ok (.ifCond .eq 22, 3) by decide +kernel) (by decide),
    mm_r_aload_n X (show decode cX0_score 122 = .ok (.aload_n 0, 1) by decide +kernel) rfl,
    mm_r_iload_n X (show decode cX0_score 123 = .ok (.iload_n 3, 1) by decide +kernel) rfl,
    mm_r_iload_n X (show decode cX0_score 124 = .ok (.iload_n 1, 1) by decide +kernel) rfl,
    mm_r_iconst X (show decode cX0_score 125 = .ok (.iconst 1, 1) by decide +kernel) rfl,
    mm_r_iload X (show decode cX0_score 126 = .ok (.iload 8, 2) by decide +kernel),
    mm_r_ishl X (show decode cX0_score 128 = .ok (.ishl, 1) by decide +kernel),
    mm_r_ior X (show decode cX0_score 129 = .ok (.ior, 1) by decide +kernel),
    mm_r_clV X hth (ci := 0) (na := 2) (sn_X0_joins hl) rfl (show decode cX0_score 130 = .ok (.invokevirtual 72, 3) by decide +kernel) mw_815 mw_812 mw_814 mw_16 mw_48 hd_X0_joins ⟨by show 5 + 1 ≤ fr + 2; omega, by show 8 + (6 + 11) + 123 ≤ lo + 53; omega⟩,
    mm_r_eq1 X (show decode cX0_score 133 = .ok (.ifCond .eq 8, 3) by decide +kernel) (by decide),
    mm_r_bipush X (show decode cX0_score 136 = .ok (.bipush 99, 2) by decide +kernel) rfl,
    mm_r_goto X (show decode cX0_score 138 = .ok (.goto 5, 3) by decide +kernel) (by decide),
    mm_r_iload X (show decode cX0_score 141 = .ok (.iload 7, 2) by decide +kernel),
    mm_r_istore X (show decode cX0_score 143 = .ok (.istore 7, 2) by decide +kernel) (Nat.le_of_ble_eq_true rfl),
    mm_r_iinc X (show decode cX0_score 145 = .ok (.iinc 8 1, 3) by decide +kernel) rfl (Nat.le_of_ble_eq_true rfl),
    mm_r_goto X (show decode cX0_score 148 = .ok (.goto (-56), 3) by decide +kernel) (by decide),
    mm_r_iconst X (show decode cX0_score 151 = .ok (.iconst 0, 1) by decide +kernel) rfl,
    mm_r_istore X (show decode cX0_score 152 = .ok (.istore 8, 2) by decide +kernel) (Nat.le_of_ble_eq_true rfl),
    mm_r_iload X (show decode cX0_score 154 = .ok (.iload 8, 2) by decide +kernel),
    mm_r_aload_n X (show decode cX0_score 156 = .ok (.aload_n 0, 1) by decide +kernel) rfl,
    mm_r_gfR X (ci := 0) (p := 1) (show mm_kd 0 1 = 2 by decide +kernel) rfl (Nat.le_of_ble_eq_true rfl) (show decode cX0_score 157 = .ok (.getfield 12, 3) by decide +kernel) mw_263 rfl,
    mm_r_gfI X (ci := 2) (p := 2) (show mm_kd 2 2 = 0 by decide +kernel) rfl (Nat.le_of_ble_eq_true rfl) (show decode cX0_score 160 = .ok (.getfield 55, 3) by decide +kernel) mw_254 rfl,
    mm_r_ge2 X (show decode cX0_score 163 = .ok (.if_icmp .ge 48, 3) by decide +kernel) (by decide),
    mm_r_iload X (show decode cX0_score 166 = .ok (.iload 7, 2) by decide +kernel),
    mm_r_bipush X (show decode cX0_score 168 = .ok (.bipush 97, 2) by decide +kernel) rfl,
    mm_r_ge2 X (show decode cX0_score 170 = .ok (.if_icmp .ge 41, 3) by decide +kernel) (by decide),
    mm_r_iload X (show decode cX0_score 173 = .ok (.iload 6, 2) by decide +kernel),
    mm_r_i2l X (show decode cX0_score 175 = .ok (.i2l, 1) by decide +kernel),
    mm_r_iload X (show decode cX0_score 176 = .ok (.iload 8, 2) by decide +kernel),
    mm_r_clSN X hth (na := 2) (sn_X10_has hl) (show decode cX0_score 178 = .ok (.invokestatic 68, 3) by decide +kernel) mw_593 (show ("Linkcourt$BestPlay", 68, yX10_has) ∈ mm_nest by decide +kernel) mw_592 mw_44 hd_X10_has.2 ⟨by show 1 + 1 ≤ fr + 2; omega, by show 8 + (3 + 11) + 20 ≤ lo + 53; omega⟩,
    mm_r_eq1 X (show decode cX0_score 181 = .ok (.ifCond .eq 24, 3) by decide +kernel) (by decide),
    mm_r_iload X (show decode cX0_score 184 = .ok (.iload 7, 2) by decide +kernel),
    mm_r_aload_n X (show decode cX0_score 186 = .ok (.aload_n 0, 1) by decide +kernel) rfl,
    mm_r_iload_n X (show decode cX0_score 187 = .ok (.iload_n 1, 1) by decide +kernel) rfl,
    mm_r_iconst X (show decode cX0_score 188 = .ok (.iconst 1, 1) by decide +kernel) rfl,
    mm_r_iload X (show decode cX0_score 189 = .ok (.iload 8, 2) by decide +kernel),
    mm_r_ishl X (show decode cX0_score 191 = .ok (.ishl, 1) by decide +kernel),
    mm_r_ior X (show decode cX0_score 192 = .ok (.ior, 1) by decide +kernel),
    mm_r_iload_n X (show decode cX0_score 193 = .ok (.iload_n 2, 1) by decide +kernel) rfl,
    mm_r_iload_n X (show decode cX0_score 194 = .ok (.iload_n 3, 1) by decide +kernel) rfl,
    mm_r_iload X (show decode cX0_score 195 = .ok (.iload 4, 2) by decide +kernel),
    mm_r_clV X hth (ci := 0) (na := 4) (sn_X0_scoreBehind hl hg h30) rfl (show decode cX0_score 197 = .ok (.invokevirtual 58, 3) by decide +kernel) mw_837 mw_834 mw_836 mw_18 mw_48 hd_X0_scoreBehind ⟨by show fr + 1 + 1 ≤ fr + 2; omega, by show 8 + (6 + 11) + (lo + 28) ≤ lo + 53; omega⟩,
    mm_r_clS X hth (na := 2) (sn_J9_max_7cf53 hl) (show decode cX0_score 200 = .ok (.invokestatic 107, 3) by decide +kernel) mw_840 mw_838 mw_839 mw_63 hd_J9_max_7cf53.2 ⟨by show 1 + 1 ≤ fr + 2; omega, by show 8 + (2 + 11) + 20 ≤ lo + 53; omega⟩,
    mm_r_istore X (show decode cX0_score 203 = .ok (.istore 7, 2) by decide +kernel) (Nat.le_of_ble_eq_true rfl),
    mm_r_iinc X (show decode cX0_score 205 = .ok (.iinc 8 1, 3) by decide +kernel) rfl (Nat.le_of_ble_eq_true rfl),
    mm_r_goto X (show decode cX0_score 208 = .ok (.goto (-54), 3) by decide +kernel) (by decide),
    mm_r_aload_n X (show decode cX0_score 211 = .ok (.aload_n 0, 1) by decide +kernel) rfl,
    mm_r_gfR X (ci := 0) (p := 3) (show mm_kd 0 3 = 2 by decide +kernel) rfl (Nat.le_of_ble_eq_true rfl) (show decode cX0_score 212 = .ok (.getfield 22, 3) by decide +kernel) mw_265 rfl,
    mm_r_iload X (show decode cX0_score 215 = .ok (.iload 5, 2) by decide +kernel),
    mm_r_iload X (show decode cX0_score 217 = .ok (.iload 7, 2) by decide +kernel),
    mm_r_i2b X (show decode cX0_score 219 = .ok (.i2b, 1) by decide +kernel),
    mm_r_bast X (show decode cX0_score 220 = .ok (.bastore, 1) by decide +kernel),
    mm_r_iload X (show decode cX0_score 221 = .ok (.iload 7, 2) by decide +kernel),
    mm_r_iret X hret (show decode cX0_score 223 = .ok (.ireturn, 1) by decide +kernel), trivial⟩
theorem sn_X0_score {l : Launch} (hl : l.stackTraces = false) {g : mm_F} {fr lo : Nat} (hg : mm_Snd l yX0_score (.code yX0_score cX0_score 9 (some .int)) fr lo g) (h30 : 40 ≤ fr ∧ 2000 ≤ lo) : mm_Snd l yX0_score (.code yX0_score cX0_score 9 (some .int)) (fr + 2) (lo + 53) (mm_do (mm_pr (tb_X0_score g)) 9) := mm_met hl (plainFor_of_name (by decide +kernel)) (ok_X0_score hl hg h30)
noncomputable def f_X0_score : Nat → mm_F
  | 0 => fun _ _ => none
  | d + 1 => mm_do (mm_pr (tb_X0_score (f_X0_score d))) 9
theorem sn_X0_score_all {l : Launch} (hl : l.stackTraces = false) : ∀ d : Nat, mm_Snd l yX0_score (.code yX0_score cX0_score 9 (some .int)) (40 + 2 * d) (2000 + 53 * d) (f_X0_score d)
  | 0 => ⟨fun _ _ _ h => (by cases h), fun _ _ _ _ _ _ _ h => (by cases h)⟩
  | d + 1 => by
    have := sn_X0_score hl (sn_X0_score_all hl d) ⟨by omega, by omega⟩
    rw [show 40 + 2 * (d + 1) = 40 + 2 * d + 2 by omega, show 2000 + 53 * (d + 1) = 2000 + 53 * d + 53 by omega]
    exact this
theorem mo_X0_score_all : ∀ d : Nat, mm_Mo (f_X0_score d)
  | 0 => fun _ _ _ h => (by cases h)
  | d + 1 => mo_X0_score (mo_X0_score_all d)
theorem sn_X0_score_top {l : Launch} (hl : l.stackTraces = false) : mm_Snd l yX0_score (.code yX0_score cX0_score 9 (some .int)) 62 2583 (f_X0_score 11) := sn_X0_score_all hl 11
theorem mo_X0_score_top : mm_Mo (f_X0_score 11) := mo_X0_score_all 11
theorem mo_X0_scoreBehind_top : mm_Mo (f_X0_scoreBehind (f_X0_score 10)) := mo_X0_scoreBehind (mo_X0_score_all 10)
theorem sn_X0_scoreBehind_top {l : Launch} (hl : l.stackTraces = false) : mm_Snd l yX0_scoreBehind (.code yX0_scoreBehind cX0_scoreBehind 6 (some .int)) 61 2558 (f_X0_scoreBehind (f_X0_score 10)) := sn_X0_scoreBehind hl (sn_X0_score_all hl 10) ⟨by omega, by omega⟩
/-! Linkcourt$BestPlay.winnerOf(JJI)I -/
noncomputable def tb_X0_winnerOf : List (Nat × mm_I) := [(0, mm_ldR 1 0), (1, mm_ldJ 2 1), (2, mm_ldJ 3 3), (3, mm_ldI 5 5), (5, mm_clV 8 0 3 f_X0_take), (8, mm_ldR 9 0), (9, mm_clV 12 0 0 f_X0_joinedAlready), (12, mm_stI 14 6), (14, mm_ldI 16 6), (16, mm_k 17 (.int (-1))), (17, mm_eq2 25 20), (20, mm_ldI 22 6), (22, mm_go 52), (25, mm_ldR 26 0), (26, mm_k 27 (.int 0)), (27, mm_k 28 (.int 0)), (28, mm_ldR 29 0), (29, mm_gfI 32 0 7), (32, mm_k 33 (.int 0)), (33, mm_clV 36 0 4 (f_X0_score 11)), (36, mm_le1 46 39), (39, mm_ldR 40 0), (40, mm_gfI 43 0 7), (43, mm_go 52), (46, mm_k 47 (.int 1)), (47, mm_ldR 48 0), (48, mm_gfI 51 0 7), (51, mm_i2 52 (fun a b => a - b)), (52, mm_rtI)]
noncomputable def f_X0_winnerOf : mm_F := mm_do (mm_pr tb_X0_winnerOf) 7
theorem mn_X0_winnerOf : mm_alln tb_X0_winnerOf := ⟨mm_n_ldR _ _, mm_n_ldJ _ _, mm_n_ldJ _ _, mm_n_ldI _ _, mm_n_clV _ _ _ (mo_X0_take), mm_n_ldR _ _, mm_n_clV _ _ _ (mo_X0_joinedAlready), mm_n_stI _ _, mm_n_ldI _ _, mm_n_k _ _, mm_n_eq2 _ _, mm_n_ldI _ _, mm_n_go _, mm_n_ldR _ _, mm_n_k _ _, mm_n_k _ _, mm_n_ldR _ _, mm_n_gfI _ _ _, mm_n_k _ _, mm_n_clV _ _ _ (mo_X0_score_top), mm_n_le1 _ _, mm_n_ldR _ _, mm_n_gfI _ _ _, mm_n_go _, mm_n_k _ _, mm_n_ldR _ _, mm_n_gfI _ _ _, mm_n_i2 _ _, mm_n_rtI, trivial⟩
theorem mo_X0_winnerOf : mm_Mo f_X0_winnerOf := mm_do_mo (mm_alln_mem mn_X0_winnerOf)
set_option maxRecDepth 10000 in
theorem ok_X0_winnerOf {l : Launch} (hl : l.stackTraces = false) : mm_Ok l yX0_winnerOf cX0_winnerOf 7 (some .int) 63 2611 tb_X0_winnerOf := by
  refine ⟨mm_alln_mem mn_X0_winnerOf, fun p e cells slots s m args below meth c D tc A S ad Tg X hret hname htab hth => mm_allr_mem ?_⟩
  exact ⟨mm_r_aload_n X (show decode cX0_winnerOf 0 = .ok (.aload_n 0, 1) by decide +kernel) rfl,
    mm_r_lload_n X (show decode cX0_winnerOf 1 = .ok (.lload_n 1, 1) by decide +kernel) rfl,
    mm_r_lload_n X (show decode cX0_winnerOf 2 = .ok (.lload_n 3, 1) by decide +kernel) rfl,
    mm_r_iload X (show decode cX0_winnerOf 3 = .ok (.iload 5, 2) by decide +kernel),
    mm_r_clV X hth (ci := 0) (na := 3) (sn_X0_take hl) rfl (show decode cX0_winnerOf 5 = .ok (.invokevirtual 33, 3) by decide +kernel) mw_798 mw_795 mw_797 mw_14 mw_48 hd_X0_take ⟨(Nat.le_of_ble_eq_true rfl), (Nat.le_of_ble_eq_true rfl)⟩,
    mm_r_aload_n X (show decode cX0_winnerOf 8 = .ok (.aload_n 0, 1) by decide +kernel) rfl,
    mm_r_clV X hth (ci := 0) (na := 0) (sn_X0_joinedAlready hl) rfl (show decode cX0_winnerOf 9 = .ok (.invokevirtual 37, 3) by decide +kernel) mw_811 mw_808 mw_810 mw_15 mw_48 hd_X0_joinedAlready ⟨(Nat.le_of_ble_eq_true rfl), (Nat.le_of_ble_eq_true rfl)⟩,
    mm_r_istore X (show decode cX0_winnerOf 12 = .ok (.istore 6, 2) by decide +kernel) (Nat.le_of_ble_eq_true rfl),
    mm_r_iload X (show decode cX0_winnerOf 14 = .ok (.iload 6, 2) by decide +kernel),
    mm_r_iconst X (show decode cX0_winnerOf 16 = .ok (.iconst (-1), 1) by decide +kernel) rfl,
    mm_r_eq2 X (show decode cX0_winnerOf 17 = .ok (.if_icmp .eq 8, 3) by decide +kernel) (by decide),
    mm_r_iload X (show decode cX0_winnerOf 20 = .ok (.iload 6, 2) by decide +kernel),
    mm_r_goto X (show decode cX0_winnerOf 22 = .ok (.goto 30, 3) by decide +kernel) (by decide),
    mm_r_aload_n X (show decode cX0_winnerOf 25 = .ok (.aload_n 0, 1) by decide +kernel) rfl,
    mm_r_iconst X (show decode cX0_winnerOf 26 = .ok (.iconst 0, 1) by decide +kernel) rfl,
    mm_r_iconst X (show decode cX0_winnerOf 27 = .ok (.iconst 0, 1) by decide +kernel) rfl,
    mm_r_aload_n X (show decode cX0_winnerOf 28 = .ok (.aload_n 0, 1) by decide +kernel) rfl,
    mm_r_gfI X (ci := 0) (p := 7) (show mm_kd 0 7 = 0 by decide +kernel) rfl (Nat.le_of_ble_eq_true rfl) (show decode cX0_winnerOf 29 = .ok (.getfield 41, 3) by decide +kernel) mw_269 rfl,
    mm_r_iconst X (show decode cX0_winnerOf 32 = .ok (.iconst 0, 1) by decide +kernel) rfl,
    mm_r_clV X hth (ci := 0) (na := 4) (sn_X0_score_top hl) rfl (show decode cX0_winnerOf 33 = .ok (.invokevirtual 45, 3) by decide +kernel) mw_824 mw_821 mw_823 mw_17 mw_48 hd_X0_score ⟨(Nat.le_of_ble_eq_true rfl), (Nat.le_of_ble_eq_true rfl)⟩,
    mm_r_le1 X (show decode cX0_winnerOf 36 = .ok (.ifCond .le 10, 3) by decide +kernel) (by decide),
    mm_r_aload_n X (show decode cX0_winnerOf 39 = .ok (.aload_n 0, 1) by decide +kernel) rfl,
    mm_r_gfI X (ci := 0) (p := 7) (show mm_kd 0 7 = 0 by decide +kernel) rfl (Nat.le_of_ble_eq_true rfl) (show decode cX0_winnerOf 40 = .ok (.getfield 41, 3) by decide +kernel) mw_269 rfl,
    mm_r_goto X (show decode cX0_winnerOf 43 = .ok (.goto 9, 3) by decide +kernel) (by decide),
    mm_r_iconst X (show decode cX0_winnerOf 46 = .ok (.iconst 1, 1) by decide +kernel) rfl,
    mm_r_aload_n X (show decode cX0_winnerOf 47 = .ok (.aload_n 0, 1) by decide +kernel) rfl,
    mm_r_gfI X (ci := 0) (p := 7) (show mm_kd 0 7 = 0 by decide +kernel) rfl (Nat.le_of_ble_eq_true rfl) (show decode cX0_winnerOf 48 = .ok (.getfield 41, 3) by decide +kernel) mw_269 rfl,
    mm_r_isub X (show decode cX0_winnerOf 51 = .ok (.isub, 1) by decide +kernel),
    mm_r_iret X hret (show decode cX0_winnerOf 52 = .ok (.ireturn, 1) by decide +kernel), trivial⟩
theorem sn_X0_winnerOf {l : Launch} (hl : l.stackTraces = false) : mm_Snd l yX0_winnerOf (.code yX0_winnerOf cX0_winnerOf 7 (some .int)) 63 2611 f_X0_winnerOf := mm_met hl (plainFor_of_name (by decide +kernel)) (ok_X0_winnerOf hl)
/-! Linkcourt.best()I -/
noncomputable def tb_X10_best : List (Nat × mm_I) := [(0, mm_ldR 1 0), (1, mm_clV 4 10 0 f_X10_needFewGaps), (4, mm_ldR 5 0), (5, mm_gfR 8 10 2), (8, mm_ldR 9 0), (9, mm_gfR 12 10 1), (12, mm_gfJ 15 6 4), (15, mm_ldR 16 0), (16, mm_gfR 19 10 1), (19, mm_gfJ 22 6 5), (22, mm_ldR 23 0), (23, mm_gfR 26 10 1), (26, mm_clV 29 6 0 f_X6_mover), (29, mm_clV 32 0 3 f_X0_winnerOf), (32, mm_rtI)]
noncomputable def f_X10_best : mm_F := mm_do (mm_pr tb_X10_best) 1
theorem mn_X10_best : mm_alln tb_X10_best := ⟨mm_n_ldR _ _, mm_n_clV _ _ _ (mo_X10_needFewGaps), mm_n_ldR _ _, mm_n_gfR _ _ _, mm_n_ldR _ _, mm_n_gfR _ _ _, mm_n_gfJ _ _ _, mm_n_ldR _ _, mm_n_gfR _ _ _, mm_n_gfJ _ _ _, mm_n_ldR _ _, mm_n_gfR _ _ _, mm_n_clV _ _ _ (mo_X6_mover), mm_n_clV _ _ _ (mo_X0_winnerOf), mm_n_rtI, trivial⟩
theorem mo_X10_best : mm_Mo f_X10_best := mm_do_mo (mm_alln_mem mn_X10_best)
set_option maxRecDepth 10000 in
theorem ok_X10_best {l : Launch} (hl : l.stackTraces = false) : mm_Ok l yX10_best cX10_best 1 (some .int) 64 2637 tb_X10_best := by
  refine ⟨mm_alln_mem mn_X10_best, fun p e cells slots s m args below meth c D tc A S ad Tg X hret hname htab hth => mm_allr_mem ?_⟩
  exact ⟨mm_r_aload_n X (show decode cX10_best 0 = .ok (.aload_n 0, 1) by decide +kernel) rfl,
    mm_r_clV X hth (ci := 10) (na := 0) (sn_X10_needFewGaps hl) rfl (show decode cX10_best 1 = .ok (.invokevirtual 214, 3) by decide +kernel) mw_789 mw_786 mw_788 mw_13 mw_44 hd_X10_needFewGaps ⟨(Nat.le_of_ble_eq_true rfl), (Nat.le_of_ble_eq_true rfl)⟩,
    mm_r_aload_n X (show decode cX10_best 4 = .ok (.aload_n 0, 1) by decide +kernel) rfl,
    mm_r_gfR X (ci := 10) (p := 2) (show mm_kd 10 2 = 2 by decide +kernel) rfl (Nat.le_of_ble_eq_true rfl) (show decode cX10_best 5 = .ok (.getfield 35, 3) by decide +kernel) mw_430 rfl,
    mm_r_aload_n X (show decode cX10_best 8 = .ok (.aload_n 0, 1) by decide +kernel) rfl,
    mm_r_gfR X (ci := 10) (p := 1) (show mm_kd 10 1 = 2 by decide +kernel) rfl (Nat.le_of_ble_eq_true rfl) (show decode cX10_best 9 = .ok (.getfield 28, 3) by decide +kernel) mw_429 rfl,
    mm_r_gfJ X (ci := 6) (p := 4) (show mm_kd 6 4 = 1 by decide +kernel) rfl (Nat.le_of_ble_eq_true rfl) (show decode cX10_best 12 = .ok (.getfield 169, 3) by decide +kernel) mw_175 rfl,
    mm_r_aload_n X (show decode cX10_best 15 = .ok (.aload_n 0, 1) by decide +kernel) rfl,
    mm_r_gfR X (ci := 10) (p := 1) (show mm_kd 10 1 = 2 by decide +kernel) rfl (Nat.le_of_ble_eq_true rfl) (show decode cX10_best 16 = .ok (.getfield 28, 3) by decide +kernel) mw_429 rfl,
    mm_r_gfJ X (ci := 6) (p := 5) (show mm_kd 6 5 = 1 by decide +kernel) rfl (Nat.le_of_ble_eq_true rfl) (show decode cX10_best 19 = .ok (.getfield 176, 3) by decide +kernel) mw_177 rfl,
    mm_r_aload_n X (show decode cX10_best 22 = .ok (.aload_n 0, 1) by decide +kernel) rfl,
    mm_r_gfR X (ci := 10) (p := 1) (show mm_kd 10 1 = 2 by decide +kernel) rfl (Nat.le_of_ble_eq_true rfl) (show decode cX10_best 23 = .ok (.getfield 28, 3) by decide +kernel) mw_429 rfl,
    mm_r_clV X hth (ci := 6) (na := 0) (sn_X6_mover hl) rfl (show decode cX10_best 26 = .ok (.invokevirtual 134, 3) by decide +kernel) mw_479 mw_476 mw_477 mw_478 mw_46 hd_X6_mover ⟨(Nat.le_of_ble_eq_true rfl), (Nat.le_of_ble_eq_true rfl)⟩,
    mm_r_clV X hth (ci := 0) (na := 3) (sn_X0_winnerOf hl) rfl (show decode cX10_best 29 = .ok (.invokevirtual 217, 3) by decide +kernel) mw_794 mw_791 mw_792 mw_793 mw_48 hd_X0_winnerOf ⟨(Nat.le_of_ble_eq_true rfl), (Nat.le_of_ble_eq_true rfl)⟩,
    mm_r_iret X hret (show decode cX10_best 32 = .ok (.ireturn, 1) by decide +kernel), trivial⟩
theorem sn_X10_best {l : Launch} (hl : l.stackTraces = false) : mm_Snd l yX10_best (.code yX10_best cX10_best 1 (some .int)) 64 2637 f_X10_best := mm_met hl (plainFor_of_name (by decide +kernel)) (ok_X10_best hl)
/-! Linkcourt$BestPlay.winsOf(JJI)J -/
noncomputable def tb_X0_winsOf : List (Nat × mm_I) := [(0, mm_ldR 1 0), (1, mm_ldJ 2 1), (2, mm_ldJ 3 3), (3, mm_ldI 5 5), (5, mm_clV 8 0 3 f_X0_take), (8, mm_ldR 9 0), (9, mm_clV 12 0 0 f_X0_joinedAlready), (12, mm_k 13 (.int (-1))), (13, mm_eq2 18 16), (16, mm_k 17 (.long 0)), (17, mm_rtJ), (18, mm_k 19 (.int 0)), (19, mm_stI 21 6), (21, mm_k 22 (.int 0)), (22, mm_stI 24 7), (24, mm_ldI 26 7), (26, mm_ldR 27 0), (27, mm_gfR 30 0 1), (30, mm_gfI 33 2 2), (33, mm_ge2 72 36), (36, mm_ldI 38 6), (38, mm_ldR 39 0), (39, mm_k 40 (.int 1)), (40, mm_ldI 42 7), (42, mm_i2 43 (fun a b => a <<< (b &&& 31))), (43, mm_k 44 (.int 0)), (44, mm_ldR 45 0), (45, mm_gfI 48 0 7), (48, mm_k 49 (.int 0)), (49, mm_clV 52 0 4 (f_X0_scoreBehind (f_X0_score 10))), (52, mm_le1 62 55), (55, mm_k 56 (.int 1)), (56, mm_ldI 58 7), (58, mm_i2 59 (fun a b => a <<< (b &&& 31))), (59, mm_go 63), (62, mm_k 63 (.int 0)), (63, mm_i2 64 (fun a b => a ||| b)), (64, mm_stI 66 6), (66, mm_inc 69 7 1), (69, mm_go 24), (72, mm_ldR 73 0), (73, mm_gfR 76 0 1), (76, mm_ldI 78 6), (78, mm_clV 81 2 1 f_X2_spread), (81, mm_rtJ)]
noncomputable def f_X0_winsOf : mm_F := mm_do (mm_pr tb_X0_winsOf) 8
theorem mn_X0_winsOf : mm_alln tb_X0_winsOf := ⟨mm_n_ldR _ _, mm_n_ldJ _ _, mm_n_ldJ _ _, mm_n_ldI _ _, mm_n_clV _ _ _ (mo_X0_take), mm_n_ldR _ _, mm_n_clV _ _ _ (mo_X0_joinedAlready), mm_n_k _ _, mm_n_eq2 _ _, mm_n_k _ _, mm_n_rtJ, mm_n_k _ _, mm_n_stI _ _, mm_n_k _ _, mm_n_stI _ _, mm_n_ldI _ _, mm_n_ldR _ _, mm_n_gfR _ _ _, mm_n_gfI _ _ _, mm_n_ge2 _ _, mm_n_ldI _ _, mm_n_ldR _ _, mm_n_k _ _, mm_n_ldI _ _, mm_n_i2 _ _, mm_n_k _ _, mm_n_ldR _ _, mm_n_gfI _ _ _, mm_n_k _ _, mm_n_clV _ _ _ (mo_X0_scoreBehind_top), mm_n_le1 _ _, mm_n_k _ _, mm_n_ldI _ _, mm_n_i2 _ _, mm_n_go _, mm_n_k _ _, mm_n_i2 _ _, mm_n_stI _ _, mm_n_inc _ _ _, mm_n_go _, mm_n_ldR _ _, mm_n_gfR _ _ _, mm_n_ldI _ _, mm_n_clV _ _ _ (mo_X2_spread), mm_n_rtJ, trivial⟩
theorem mo_X0_winsOf : mm_Mo f_X0_winsOf := mm_do_mo (mm_alln_mem mn_X0_winsOf)
set_option maxRecDepth 10000 in
theorem ok_X0_winsOf {l : Launch} (hl : l.stackTraces = false) : mm_Ok l yX0_winsOf cX0_winsOf 8 (some .long) 62 2583 tb_X0_winsOf := by
  refine ⟨mm_alln_mem mn_X0_winsOf, fun p e cells slots s m args below meth c D tc A S ad Tg X hret hname htab hth => mm_allr_mem ?_⟩
  exact ⟨mm_r_aload_n X (show decode cX0_winsOf 0 = .ok (.aload_n 0, 1) by decide +kernel) rfl,
    mm_r_lload_n X (show decode cX0_winsOf 1 = .ok (.lload_n 1, 1) by decide +kernel) rfl,
    mm_r_lload_n X (show decode cX0_winsOf 2 = .ok (.lload_n 3, 1) by decide +kernel) rfl,
    mm_r_iload X (show decode cX0_winsOf 3 = .ok (.iload 5, 2) by decide +kernel),
    mm_r_clV X hth (ci := 0) (na := 3) (sn_X0_take hl) rfl (show decode cX0_winsOf 5 = .ok (.invokevirtual 33, 3) by decide +kernel) mw_798 mw_795 mw_797 mw_14 mw_48 hd_X0_take ⟨(Nat.le_of_ble_eq_true rfl), (Nat.le_of_ble_eq_true rfl)⟩,
    mm_r_aload_n X (show decode cX0_winsOf 8 = .ok (.aload_n 0, 1) by decide +kernel) rfl,
    mm_r_clV X hth (ci := 0) (na := 0) (sn_X0_joinedAlready hl) rfl (show decode cX0_winsOf 9 = .ok (.invokevirtual 37, 3) by decide +kernel) mw_811 mw_808 mw_810 mw_15 mw_48 hd_X0_joinedAlready ⟨(Nat.le_of_ble_eq_true rfl), (Nat.le_of_ble_eq_true rfl)⟩,
    mm_r_iconst X (show decode cX0_winsOf 12 = .ok (.iconst (-1), 1) by decide +kernel) rfl,
    mm_r_eq2 X (show decode cX0_winsOf 13 = .ok (.if_icmp .eq 5, 3) by decide +kernel) (by decide),
    mm_r_lconst X (show decode cX0_winsOf 16 = .ok (.lconst 0, 1) by decide +kernel) rfl,
    mm_r_lret X hret (show decode cX0_winsOf 17 = .ok (.lreturn, 1) by decide +kernel),
    mm_r_iconst X (show decode cX0_winsOf 18 = .ok (.iconst 0, 1) by decide +kernel) rfl,
    mm_r_istore X (show decode cX0_winsOf 19 = .ok (.istore 6, 2) by decide +kernel) (Nat.le_of_ble_eq_true rfl),
    mm_r_iconst X (show decode cX0_winsOf 21 = .ok (.iconst 0, 1) by decide +kernel) rfl,
    mm_r_istore X (show decode cX0_winsOf 22 = .ok (.istore 7, 2) by decide +kernel) (Nat.le_of_ble_eq_true rfl),
    mm_r_iload X (show decode cX0_winsOf 24 = .ok (.iload 7, 2) by decide +kernel),
    mm_r_aload_n X (show decode cX0_winsOf 26 = .ok (.aload_n 0, 1) by decide +kernel) rfl,
    mm_r_gfR X (ci := 0) (p := 1) (show mm_kd 0 1 = 2 by decide +kernel) rfl (Nat.le_of_ble_eq_true rfl) (show decode cX0_winsOf 27 = .ok (.getfield 12, 3) by decide +kernel) mw_263 rfl,
    mm_r_gfI X (ci := 2) (p := 2) (show mm_kd 2 2 = 0 by decide +kernel) rfl (Nat.le_of_ble_eq_true rfl) (show decode cX0_winsOf 30 = .ok (.getfield 55, 3) by decide +kernel) mw_254 rfl,
    mm_r_ge2 X (show decode cX0_winsOf 33 = .ok (.if_icmp .ge 39, 3) by decide +kernel) (by decide),
    mm_r_iload X (show decode cX0_winsOf 36 = .ok (.iload 6, 2) by decide +kernel),
    mm_r_aload_n X (show decode cX0_winsOf 38 = .ok (.aload_n 0, 1) by decide +kernel) rfl,
    mm_r_iconst X (show decode cX0_winsOf 39 = .ok (.iconst 1, 1) by decide +kernel) rfl,
    mm_r_iload X (show decode cX0_winsOf 40 = .ok (.iload 7, 2) by decide +kernel),
    mm_r_ishl X (show decode cX0_winsOf 42 = .ok (.ishl, 1) by decide +kernel),
    mm_r_iconst X (show decode cX0_winsOf 43 = .ok (.iconst 0, 1) by decide +kernel) rfl,
    mm_r_aload_n X (show decode cX0_winsOf 44 = .ok (.aload_n 0, 1) by decide +kernel) rfl,
    mm_r_gfI X (ci := 0) (p := 7) (show mm_kd 0 7 = 0 by decide +kernel) rfl (Nat.le_of_ble_eq_true rfl) (show decode cX0_winsOf 45 = .ok (.getfield 41, 3) by decide +kernel) mw_269 rfl,
    mm_r_iconst X (show decode cX0_winsOf 48 = .ok (.iconst 0, 1) by decide +kernel) rfl,
    mm_r_clV X hth (ci := 0) (na := 4) (sn_X0_scoreBehind_top hl) rfl (show decode cX0_winsOf 49 = .ok (.invokevirtual 58, 3) by decide +kernel) mw_837 mw_834 mw_836 mw_18 mw_48 hd_X0_scoreBehind ⟨(Nat.le_of_ble_eq_true rfl), (Nat.le_of_ble_eq_true rfl)⟩,
    mm_r_le1 X (show decode cX0_winsOf 52 = .ok (.ifCond .le 10, 3) by decide +kernel) (by decide),
    mm_r_iconst X (show decode cX0_winsOf 55 = .ok (.iconst 1, 1) by decide +kernel) rfl,
    mm_r_iload X (show decode cX0_winsOf 56 = .ok (.iload 7, 2) by decide +kernel),
    mm_r_ishl X (show decode cX0_winsOf 58 = .ok (.ishl, 1) by decide +kernel),
    mm_r_goto X (show decode cX0_winsOf 59 = .ok (.goto 4, 3) by decide +kernel) (by decide),
    mm_r_iconst X (show decode cX0_winsOf 62 = .ok (.iconst 0, 1) by decide +kernel) rfl,
    mm_r_ior X (show decode cX0_winsOf 63 = .ok (.ior, 1) by decide +kernel),
    mm_r_istore X (show decode cX0_winsOf 64 = .ok (.istore 6, 2) by decide +kernel) (Nat.le_of_ble_eq_true rfl),
    mm_r_iinc X (show decode cX0_winsOf 66 = .ok (.iinc 7 1, 3) by decide +kernel) rfl (Nat.le_of_ble_eq_true rfl),
    mm_r_goto X (show decode cX0_winsOf 69 = .ok (.goto (-45), 3) by decide +kernel) (by decide),
    mm_r_aload_n X (show decode cX0_winsOf 72 = .ok (.aload_n 0, 1) by decide +kernel) rfl,
    mm_r_gfR X (ci := 0) (p := 1) (show mm_kd 0 1 = 2 by decide +kernel) rfl (Nat.le_of_ble_eq_true rfl) (show decode cX0_winsOf 73 = .ok (.getfield 12, 3) by decide +kernel) mw_263 rfl,
    mm_r_iload X (show decode cX0_winsOf 76 = .ok (.iload 6, 2) by decide +kernel),
    mm_r_clV X hth (ci := 2) (na := 1) (sn_X2_spread hl) rfl (show decode cX0_winsOf 78 = .ok (.invokevirtual 61, 3) by decide +kernel) mw_819 mw_816 mw_817 mw_818 mw_49 hd_X2_spread ⟨(Nat.le_of_ble_eq_true rfl), (Nat.le_of_ble_eq_true rfl)⟩,
    mm_r_lret X hret (show decode cX0_winsOf 81 = .ok (.lreturn, 1) by decide +kernel), trivial⟩
theorem sn_X0_winsOf {l : Launch} (hl : l.stackTraces = false) : mm_Snd l yX0_winsOf (.code yX0_winsOf cX0_winsOf 8 (some .long)) 62 2583 f_X0_winsOf := mm_met hl (plainFor_of_name (by decide +kernel)) (ok_X0_winsOf hl)
/-! Linkcourt.wins()J -/
noncomputable def tb_X10_wins : List (Nat × mm_I) := [(0, mm_ldR 1 0), (1, mm_clV 4 10 0 f_X10_needFewGaps), (4, mm_ldR 5 0), (5, mm_gfR 8 10 2), (8, mm_ldR 9 0), (9, mm_gfR 12 10 1), (12, mm_gfJ 15 6 4), (15, mm_ldR 16 0), (16, mm_gfR 19 10 1), (19, mm_gfJ 22 6 5), (22, mm_ldR 23 0), (23, mm_gfR 26 10 1), (26, mm_clV 29 6 0 f_X6_mover), (29, mm_clV 32 0 3 f_X0_winsOf), (32, mm_rtJ)]
noncomputable def f_X10_wins : mm_F := mm_do (mm_pr tb_X10_wins) 1
theorem mn_X10_wins : mm_alln tb_X10_wins := ⟨mm_n_ldR _ _, mm_n_clV _ _ _ (mo_X10_needFewGaps), mm_n_ldR _ _, mm_n_gfR _ _ _, mm_n_ldR _ _, mm_n_gfR _ _ _, mm_n_gfJ _ _ _, mm_n_ldR _ _, mm_n_gfR _ _ _, mm_n_gfJ _ _ _, mm_n_ldR _ _, mm_n_gfR _ _ _, mm_n_clV _ _ _ (mo_X6_mover), mm_n_clV _ _ _ (mo_X0_winsOf), mm_n_rtJ, trivial⟩
theorem mo_X10_wins : mm_Mo f_X10_wins := mm_do_mo (mm_alln_mem mn_X10_wins)
set_option maxRecDepth 10000 in
theorem ok_X10_wins {l : Launch} (hl : l.stackTraces = false) : mm_Ok l yX10_wins cX10_wins 1 (some .long) 63 2610 tb_X10_wins := by
  refine ⟨mm_alln_mem mn_X10_wins, fun p e cells slots s m args below meth c D tc A S ad Tg X hret hname htab hth => mm_allr_mem ?_⟩
  exact ⟨mm_r_aload_n X (show decode cX10_wins 0 = .ok (.aload_n 0, 1) by decide +kernel) rfl,
    mm_r_clV X hth (ci := 10) (na := 0) (sn_X10_needFewGaps hl) rfl (show decode cX10_wins 1 = .ok (.invokevirtual 214, 3) by decide +kernel) mw_789 mw_786 mw_788 mw_13 mw_44 hd_X10_needFewGaps ⟨(Nat.le_of_ble_eq_true rfl), (Nat.le_of_ble_eq_true rfl)⟩,
    mm_r_aload_n X (show decode cX10_wins 4 = .ok (.aload_n 0, 1) by decide +kernel) rfl,
    mm_r_gfR X (ci := 10) (p := 2) (show mm_kd 10 2 = 2 by decide +kernel) rfl (Nat.le_of_ble_eq_true rfl) (show decode cX10_wins 5 = .ok (.getfield 35, 3) by decide +kernel) mw_430 rfl,
    mm_r_aload_n X (show decode cX10_wins 8 = .ok (.aload_n 0, 1) by decide +kernel) rfl,
    mm_r_gfR X (ci := 10) (p := 1) (show mm_kd 10 1 = 2 by decide +kernel) rfl (Nat.le_of_ble_eq_true rfl) (show decode cX10_wins 9 = .ok (.getfield 28, 3) by decide +kernel) mw_429 rfl,
    mm_r_gfJ X (ci := 6) (p := 4) (show mm_kd 6 4 = 1 by decide +kernel) rfl (Nat.le_of_ble_eq_true rfl) (show decode cX10_wins 12 = .ok (.getfield 169, 3) by decide +kernel) mw_175 rfl,
    mm_r_aload_n X (show decode cX10_wins 15 = .ok (.aload_n 0, 1) by decide +kernel) rfl,
    mm_r_gfR X (ci := 10) (p := 1) (show mm_kd 10 1 = 2 by decide +kernel) rfl (Nat.le_of_ble_eq_true rfl) (show decode cX10_wins 16 = .ok (.getfield 28, 3) by decide +kernel) mw_429 rfl,
    mm_r_gfJ X (ci := 6) (p := 5) (show mm_kd 6 5 = 1 by decide +kernel) rfl (Nat.le_of_ble_eq_true rfl) (show decode cX10_wins 19 = .ok (.getfield 176, 3) by decide +kernel) mw_177 rfl,
    mm_r_aload_n X (show decode cX10_wins 22 = .ok (.aload_n 0, 1) by decide +kernel) rfl,
    mm_r_gfR X (ci := 10) (p := 1) (show mm_kd 10 1 = 2 by decide +kernel) rfl (Nat.le_of_ble_eq_true rfl) (show decode cX10_wins 23 = .ok (.getfield 28, 3) by decide +kernel) mw_429 rfl,
    mm_r_clV X hth (ci := 6) (na := 0) (sn_X6_mover hl) rfl (show decode cX10_wins 26 = .ok (.invokevirtual 134, 3) by decide +kernel) mw_479 mw_476 mw_477 mw_478 mw_46 hd_X6_mover ⟨(Nat.le_of_ble_eq_true rfl), (Nat.le_of_ble_eq_true rfl)⟩,
    mm_r_clV X hth (ci := 0) (na := 3) (sn_X0_winsOf hl) rfl (show decode cX10_wins 29 = .ok (.invokevirtual 221, 3) by decide +kernel) mw_1107 mw_1104 mw_1105 mw_1106 mw_48 hd_X0_winsOf ⟨(Nat.le_of_ble_eq_true rfl), (Nat.le_of_ble_eq_true rfl)⟩,
    mm_r_lret X hret (show decode cX10_wins 32 = .ok (.lreturn, 1) by decide +kernel), trivial⟩
theorem sn_X10_wins {l : Launch} (hl : l.stackTraces = false) : mm_Snd l yX10_wins (.code yX10_wins cX10_wins 1 (some .long)) 63 2610 f_X10_wins := mm_met hl (plainFor_of_name (by decide +kernel)) (ok_X10_wins hl)
/-! Linkcourt$BestPlay.lengthOf(JJI)I -/
noncomputable def tb_X0_lengthOf : List (Nat × mm_I) := [(0, mm_ldR 1 0), (1, mm_ldJ 2 1), (2, mm_ldJ 3 3), (3, mm_ldI 5 5), (5, mm_clV 8 0 3 f_X0_take), (8, mm_ldR 9 0), (9, mm_clV 12 0 0 f_X0_joinedAlready), (12, mm_k 13 (.int (-1))), (13, mm_eq2 20 16), (16, mm_k 17 (.int 0)), (17, mm_go 37), (20, mm_k 22 (.int 100)), (22, mm_ldR 23 0), (23, mm_k 24 (.int 0)), (24, mm_k 25 (.int 0)), (25, mm_ldR 26 0), (26, mm_gfI 29 0 7), (29, mm_k 30 (.int 0)), (30, mm_clV 33 0 4 (f_X0_score 11)), (33, mm_clS 36 1 f_J9_abs_0f7a4), (36, mm_i2 37 (fun a b => a - b)), (37, mm_rtI)]
noncomputable def f_X0_lengthOf : mm_F := mm_do (mm_pr tb_X0_lengthOf) 6
theorem mn_X0_lengthOf : mm_alln tb_X0_lengthOf := ⟨mm_n_ldR _ _, mm_n_ldJ _ _, mm_n_ldJ _ _, mm_n_ldI _ _, mm_n_clV _ _ _ (mo_X0_take), mm_n_ldR _ _, mm_n_clV _ _ _ (mo_X0_joinedAlready), mm_n_k _ _, mm_n_eq2 _ _, mm_n_k _ _, mm_n_go _, mm_n_k _ _, mm_n_ldR _ _, mm_n_k _ _, mm_n_k _ _, mm_n_ldR _ _, mm_n_gfI _ _ _, mm_n_k _ _, mm_n_clV _ _ _ (mo_X0_score_top), mm_n_clS _ _ (mo_J9_abs_0f7a4), mm_n_i2 _ _, mm_n_rtI, trivial⟩
theorem mo_X0_lengthOf : mm_Mo f_X0_lengthOf := mm_do_mo (mm_alln_mem mn_X0_lengthOf)
set_option maxRecDepth 10000 in
theorem ok_X0_lengthOf {l : Launch} (hl : l.stackTraces = false) : mm_Ok l yX0_lengthOf cX0_lengthOf 6 (some .int) 63 2611 tb_X0_lengthOf := by
  refine ⟨mm_alln_mem mn_X0_lengthOf, fun p e cells slots s m args below meth c D tc A S ad Tg X hret hname htab hth => mm_allr_mem ?_⟩
  exact ⟨mm_r_aload_n X (show decode cX0_lengthOf 0 = .ok (.aload_n 0, 1) by decide +kernel) rfl,
    mm_r_lload_n X (show decode cX0_lengthOf 1 = .ok (.lload_n 1, 1) by decide +kernel) rfl,
    mm_r_lload_n X (show decode cX0_lengthOf 2 = .ok (.lload_n 3, 1) by decide +kernel) rfl,
    mm_r_iload X (show decode cX0_lengthOf 3 = .ok (.iload 5, 2) by decide +kernel),
    mm_r_clV X hth (ci := 0) (na := 3) (sn_X0_take hl) rfl (show decode cX0_lengthOf 5 = .ok (.invokevirtual 33, 3) by decide +kernel) mw_798 mw_795 mw_797 mw_14 mw_48 hd_X0_take ⟨(Nat.le_of_ble_eq_true rfl), (Nat.le_of_ble_eq_true rfl)⟩,
    mm_r_aload_n X (show decode cX0_lengthOf 8 = .ok (.aload_n 0, 1) by decide +kernel) rfl,
    mm_r_clV X hth (ci := 0) (na := 0) (sn_X0_joinedAlready hl) rfl (show decode cX0_lengthOf 9 = .ok (.invokevirtual 37, 3) by decide +kernel) mw_811 mw_808 mw_810 mw_15 mw_48 hd_X0_joinedAlready ⟨(Nat.le_of_ble_eq_true rfl), (Nat.le_of_ble_eq_true rfl)⟩,
    mm_r_iconst X (show decode cX0_lengthOf 12 = .ok (.iconst (-1), 1) by decide +kernel) rfl,
    mm_r_eq2 X (show decode cX0_lengthOf 13 = .ok (.if_icmp .eq 7, 3) by decide +kernel) (by decide),
    mm_r_iconst X (show decode cX0_lengthOf 16 = .ok (.iconst 0, 1) by decide +kernel) rfl,
    mm_r_goto X (show decode cX0_lengthOf 17 = .ok (.goto 20, 3) by decide +kernel) (by decide),
    mm_r_bipush X (show decode cX0_lengthOf 20 = .ok (.bipush 100, 2) by decide +kernel) rfl,
    mm_r_aload_n X (show decode cX0_lengthOf 22 = .ok (.aload_n 0, 1) by decide +kernel) rfl,
    mm_r_iconst X (show decode cX0_lengthOf 23 = .ok (.iconst 0, 1) by decide +kernel) rfl,
    mm_r_iconst X (show decode cX0_lengthOf 24 = .ok (.iconst 0, 1) by decide +kernel) rfl,
    mm_r_aload_n X (show decode cX0_lengthOf 25 = .ok (.aload_n 0, 1) by decide +kernel) rfl,
    mm_r_gfI X (ci := 0) (p := 7) (show mm_kd 0 7 = 0 by decide +kernel) rfl (Nat.le_of_ble_eq_true rfl) (show decode cX0_lengthOf 26 = .ok (.getfield 41, 3) by decide +kernel) mw_269 rfl,
    mm_r_iconst X (show decode cX0_lengthOf 29 = .ok (.iconst 0, 1) by decide +kernel) rfl,
    mm_r_clV X hth (ci := 0) (na := 4) (sn_X0_score_top hl) rfl (show decode cX0_lengthOf 30 = .ok (.invokevirtual 45, 3) by decide +kernel) mw_824 mw_821 mw_823 mw_17 mw_48 hd_X0_score ⟨(Nat.le_of_ble_eq_true rfl), (Nat.le_of_ble_eq_true rfl)⟩,
    mm_r_clS X hth (na := 1) (sn_J9_abs_0f7a4 hl) (show decode cX0_lengthOf 33 = .ok (.invokestatic 49, 3) by decide +kernel) mw_851 mw_849 mw_850 mw_63 hd_J9_abs_0f7a4.2 ⟨(Nat.le_of_ble_eq_true rfl), (Nat.le_of_ble_eq_true rfl)⟩,
    mm_r_isub X (show decode cX0_lengthOf 36 = .ok (.isub, 1) by decide +kernel),
    mm_r_iret X hret (show decode cX0_lengthOf 37 = .ok (.ireturn, 1) by decide +kernel), trivial⟩
theorem sn_X0_lengthOf {l : Launch} (hl : l.stackTraces = false) : mm_Snd l yX0_lengthOf (.code yX0_lengthOf cX0_lengthOf 6 (some .int)) 63 2611 f_X0_lengthOf := mm_met hl (plainFor_of_name (by decide +kernel)) (ok_X0_lengthOf hl)
/-! Linkcourt.lasts()I -/
noncomputable def tb_X10_lasts : List (Nat × mm_I) := [(0, mm_ldR 1 0), (1, mm_clV 4 10 0 f_X10_needFewGaps), (4, mm_ldR 5 0), (5, mm_gfR 8 10 2), (8, mm_ldR 9 0), (9, mm_gfR 12 10 1), (12, mm_gfJ 15 6 4), (15, mm_ldR 16 0), (16, mm_gfR 19 10 1), (19, mm_gfJ 22 6 5), (22, mm_ldR 23 0), (23, mm_gfR 26 10 1), (26, mm_clV 29 6 0 f_X6_mover), (29, mm_clV 32 0 3 f_X0_lengthOf), (32, mm_rtI)]
noncomputable def f_X10_lasts : mm_F := mm_do (mm_pr tb_X10_lasts) 1
theorem mn_X10_lasts : mm_alln tb_X10_lasts := ⟨mm_n_ldR _ _, mm_n_clV _ _ _ (mo_X10_needFewGaps), mm_n_ldR _ _, mm_n_gfR _ _ _, mm_n_ldR _ _, mm_n_gfR _ _ _, mm_n_gfJ _ _ _, mm_n_ldR _ _, mm_n_gfR _ _ _, mm_n_gfJ _ _ _, mm_n_ldR _ _, mm_n_gfR _ _ _, mm_n_clV _ _ _ (mo_X6_mover), mm_n_clV _ _ _ (mo_X0_lengthOf), mm_n_rtI, trivial⟩
theorem mo_X10_lasts : mm_Mo f_X10_lasts := mm_do_mo (mm_alln_mem mn_X10_lasts)
set_option maxRecDepth 10000 in
theorem ok_X10_lasts {l : Launch} (hl : l.stackTraces = false) : mm_Ok l yX10_lasts cX10_lasts 1 (some .int) 64 2636 tb_X10_lasts := by
  refine ⟨mm_alln_mem mn_X10_lasts, fun p e cells slots s m args below meth c D tc A S ad Tg X hret hname htab hth => mm_allr_mem ?_⟩
  exact ⟨mm_r_aload_n X (show decode cX10_lasts 0 = .ok (.aload_n 0, 1) by decide +kernel) rfl,
    mm_r_clV X hth (ci := 10) (na := 0) (sn_X10_needFewGaps hl) rfl (show decode cX10_lasts 1 = .ok (.invokevirtual 214, 3) by decide +kernel) mw_789 mw_786 mw_788 mw_13 mw_44 hd_X10_needFewGaps ⟨(Nat.le_of_ble_eq_true rfl), (Nat.le_of_ble_eq_true rfl)⟩,
    mm_r_aload_n X (show decode cX10_lasts 4 = .ok (.aload_n 0, 1) by decide +kernel) rfl,
    mm_r_gfR X (ci := 10) (p := 2) (show mm_kd 10 2 = 2 by decide +kernel) rfl (Nat.le_of_ble_eq_true rfl) (show decode cX10_lasts 5 = .ok (.getfield 35, 3) by decide +kernel) mw_430 rfl,
    mm_r_aload_n X (show decode cX10_lasts 8 = .ok (.aload_n 0, 1) by decide +kernel) rfl,
    mm_r_gfR X (ci := 10) (p := 1) (show mm_kd 10 1 = 2 by decide +kernel) rfl (Nat.le_of_ble_eq_true rfl) (show decode cX10_lasts 9 = .ok (.getfield 28, 3) by decide +kernel) mw_429 rfl,
    mm_r_gfJ X (ci := 6) (p := 4) (show mm_kd 6 4 = 1 by decide +kernel) rfl (Nat.le_of_ble_eq_true rfl) (show decode cX10_lasts 12 = .ok (.getfield 169, 3) by decide +kernel) mw_175 rfl,
    mm_r_aload_n X (show decode cX10_lasts 15 = .ok (.aload_n 0, 1) by decide +kernel) rfl,
    mm_r_gfR X (ci := 10) (p := 1) (show mm_kd 10 1 = 2 by decide +kernel) rfl (Nat.le_of_ble_eq_true rfl) (show decode cX10_lasts 16 = .ok (.getfield 28, 3) by decide +kernel) mw_429 rfl,
    mm_r_gfJ X (ci := 6) (p := 5) (show mm_kd 6 5 = 1 by decide +kernel) rfl (Nat.le_of_ble_eq_true rfl) (show decode cX10_lasts 19 = .ok (.getfield 176, 3) by decide +kernel) mw_177 rfl,
    mm_r_aload_n X (show decode cX10_lasts 22 = .ok (.aload_n 0, 1) by decide +kernel) rfl,
    mm_r_gfR X (ci := 10) (p := 1) (show mm_kd 10 1 = 2 by decide +kernel) rfl (Nat.le_of_ble_eq_true rfl) (show decode cX10_lasts 23 = .ok (.getfield 28, 3) by decide +kernel) mw_429 rfl,
    mm_r_clV X hth (ci := 6) (na := 0) (sn_X6_mover hl) rfl (show decode cX10_lasts 26 = .ok (.invokevirtual 134, 3) by decide +kernel) mw_479 mw_476 mw_477 mw_478 mw_46 hd_X6_mover ⟨(Nat.le_of_ble_eq_true rfl), (Nat.le_of_ble_eq_true rfl)⟩,
    mm_r_clV X hth (ci := 0) (na := 3) (sn_X0_lengthOf hl) rfl (show decode cX10_lasts 29 = .ok (.invokevirtual 225, 3) by decide +kernel) mw_848 mw_845 mw_846 mw_847 mw_48 hd_X0_lengthOf ⟨(Nat.le_of_ble_eq_true rfl), (Nat.le_of_ble_eq_true rfl)⟩,
    mm_r_iret X hret (show decode cX10_lasts 32 = .ok (.ireturn, 1) by decide +kernel), trivial⟩
theorem sn_X10_lasts {l : Launch} (hl : l.stackTraces = false) : mm_Snd l yX10_lasts (.code yX10_lasts cX10_lasts 1 (some .int)) 64 2636 f_X10_lasts := mm_met hl (plainFor_of_name (by decide +kernel)) (ok_X10_lasts hl)
